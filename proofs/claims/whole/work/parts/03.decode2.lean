theorem dX8_read_88 : decode cX8_read 88 = .ok (.goto (-22), 3) := by decide +kernel
theorem dX8_read_91 : decode cX8_read 91 = .ok (.iload_n 3, 1) := by decide +kernel
theorem dX8_read_92 : decode cX8_read 92 = .ok (.ireturn, 1) := by decide +kernel
theorem dX8_told_0 : decode cX8_told 0 = .ok (.iload_n 1, 1) := by decide +kernel
theorem dX8_told_1 : decode cX8_told 1 = .ok (.tableswitch 104 0 6 #[43, 51, 59, 67, 75, 80, 88], 43) := by decide +kernel
theorem dX8_told_44 : decode cX8_told 44 = .ok (.aload_n 0, 1) := by decide +kernel
theorem dX8_told_45 : decode cX8_told 45 = .ok (.getfield 10, 3) := by decide +kernel
theorem dX8_told_48 : decode cX8_told 48 = .ok (.invokevirtual 85, 3) := by decide +kernel
theorem dX8_told_51 : decode cX8_told 51 = .ok (.ireturn, 1) := by decide +kernel
theorem dX8_told_52 : decode cX8_told 52 = .ok (.aload_n 0, 1) := by decide +kernel
theorem dX8_told_53 : decode cX8_told 53 = .ok (.getfield 21, 3) := by decide +kernel
theorem dX8_told_56 : decode cX8_told 56 = .ok (.invokevirtual 132, 3) := by decide +kernel
theorem dX8_told_59 : decode cX8_told 59 = .ok (.ireturn, 1) := by decide +kernel
theorem dX8_told_60 : decode cX8_told 60 = .ok (.aload_n 0, 1) := by decide +kernel
theorem dX8_told_61 : decode cX8_told 61 = .ok (.getfield 31, 3) := by decide +kernel
theorem dX8_told_64 : decode cX8_told 64 = .ok (.invokevirtual 146, 3) := by decide +kernel
theorem dX8_told_67 : decode cX8_told 67 = .ok (.ireturn, 1) := by decide +kernel
theorem dX8_told_68 : decode cX8_told 68 = .ok (.aload_n 0, 1) := by decide +kernel
theorem dX8_told_69 : decode cX8_told 69 = .ok (.getfield 61, 3) := by decide +kernel
theorem dX8_told_72 : decode cX8_told 72 = .ok (.invokevirtual 322, 3) := by decide +kernel
theorem dX8_told_75 : decode cX8_told 75 = .ok (.ireturn, 1) := by decide +kernel
theorem dX8_told_76 : decode cX8_told 76 = .ok (.aload_n 0, 1) := by decide +kernel
theorem dX8_told_77 : decode cX8_told 77 = .ok (.getfield 72, 3) := by decide +kernel
theorem dX8_told_80 : decode cX8_told 80 = .ok (.ireturn, 1) := by decide +kernel
theorem dX8_told_81 : decode cX8_told 81 = .ok (.aload_n 0, 1) := by decide +kernel
theorem dX8_told_82 : decode cX8_told 82 = .ok (.getfield 61, 3) := by decide +kernel
theorem dX8_told_85 : decode cX8_told 85 = .ok (.invokevirtual 271, 3) := by decide +kernel
theorem dX8_told_88 : decode cX8_told 88 = .ok (.ireturn, 1) := by decide +kernel
theorem dX8_told_89 : decode cX8_told 89 = .ok (.aload_n 0, 1) := by decide +kernel
theorem dX8_told_90 : decode cX8_told 90 = .ok (.getfield 54, 3) := by decide +kernel
theorem dX8_told_93 : decode cX8_told 93 = .ok (.invokevirtual 218, 3) := by decide +kernel
theorem dX8_told_96 : decode cX8_told 96 = .ok (.ifCond .eq 7, 3) := by decide +kernel
theorem dX8_told_99 : decode cX8_told 99 = .ok (.iconst 1, 1) := by decide +kernel
theorem dX8_told_100 : decode cX8_told 100 = .ok (.goto 4, 3) := by decide +kernel
theorem dX8_told_103 : decode cX8_told 103 = .ok (.iconst 0, 1) := by decide +kernel
theorem dX8_told_104 : decode cX8_told 104 = .ok (.ireturn, 1) := by decide +kernel
theorem dX8_told_105 : decode cX8_told 105 = .ok (.aload_n 0, 1) := by decide +kernel
theorem dX8_told_106 : decode cX8_told 106 = .ok (.ldc 80, 2) := by decide +kernel
theorem dX8_told_108 : decode cX8_told 108 = .ok (.invokevirtual 81, 3) := by decide +kernel
theorem dX8_told_111 : decode cX8_told 111 = .ok (.ireturn, 1) := by decide +kernel
theorem dX8_finding_0 : decode cX8_finding 0 = .ok (.aload_n 0, 1) := by decide +kernel
theorem dX8_finding_1 : decode cX8_finding 1 = .ok (.dup, 1) := by decide +kernel
theorem dX8_finding_2 : decode cX8_finding 2 = .ok (.getfield 72, 3) := by decide +kernel
theorem dX8_finding_5 : decode cX8_finding 5 = .ok (.iconst 1, 1) := by decide +kernel
theorem dX8_finding_6 : decode cX8_finding 6 = .ok (.iadd, 1) := by decide +kernel
theorem dX8_finding_7 : decode cX8_finding 7 = .ok (.putfield 72, 3) := by decide +kernel
theorem dX8_finding_10 : decode cX8_finding 10 = .ok (.iload_n 1, 1) := by decide +kernel
theorem dX8_finding_11 : decode cX8_finding 11 = .ok (.ireturn, 1) := by decide +kernel
theorem dX8_isAsking_0 : decode cX8_isAsking 0 = .ok (.aload_n 0, 1) := by decide +kernel
theorem dX8_isAsking_1 : decode cX8_isAsking 1 = .ok (.getfield 10, 3) := by decide +kernel
theorem dX8_isAsking_4 : decode cX8_isAsking 4 = .ok (.iload_n 1, 1) := by decide +kernel
theorem dX8_isAsking_5 : decode cX8_isAsking 5 = .ok (.invokevirtual 94, 3) := by decide +kernel
theorem dX8_isAsking_8 : decode cX8_isAsking 8 = .ok (.ifCond .eq 16, 3) := by decide +kernel
theorem dX8_isAsking_11 : decode cX8_isAsking 11 = .ok (.iload_n 2, 1) := by decide +kernel
theorem dX8_isAsking_12 : decode cX8_isAsking 12 = .ok (.iconst 0, 1) := by decide +kernel
theorem dX8_isAsking_13 : decode cX8_isAsking 13 = .ok (.iconst 2, 1) := by decide +kernel
theorem dX8_isAsking_14 : decode cX8_isAsking 14 = .ok (.invokestatic 76, 3) := by decide +kernel
theorem dX8_isAsking_17 : decode cX8_isAsking 17 = .ok (.ifCond .eq 7, 3) := by decide +kernel
theorem dX8_isAsking_20 : decode cX8_isAsking 20 = .ok (.iconst 1, 1) := by decide +kernel
theorem dX8_isAsking_21 : decode cX8_isAsking 21 = .ok (.goto 4, 3) := by decide +kernel
theorem dX8_isAsking_24 : decode cX8_isAsking 24 = .ok (.iconst 0, 1) := by decide +kernel
theorem dX8_isAsking_25 : decode cX8_isAsking 25 = .ok (.ireturn, 1) := by decide +kernel
theorem dX8_ticksFor_0 : decode cX8_ticksFor 0 = .ok (.aload_n 0, 1) := by decide +kernel
theorem dX8_ticksFor_1 : decode cX8_ticksFor 1 = .ok (.getfield 47, 3) := by decide +kernel
theorem dX8_ticksFor_4 : decode cX8_ticksFor 4 = .ok (.iload_n 2, 1) := by decide +kernel
theorem dX8_ticksFor_5 : decode cX8_ticksFor 5 = .ok (.invokevirtual 212, 3) := by decide +kernel
theorem dX8_ticksFor_8 : decode cX8_ticksFor 8 = .ok (.istore_n 3, 1) := by decide +kernel
theorem dX8_ticksFor_9 : decode cX8_ticksFor 9 = .ok (.aload_n 0, 1) := by decide +kernel
theorem dX8_ticksFor_10 : decode cX8_ticksFor 10 = .ok (.getfield 10, 3) := by decide +kernel
theorem dX8_ticksFor_13 : decode cX8_ticksFor 13 = .ok (.iload_n 1, 1) := by decide +kernel
theorem dX8_ticksFor_14 : decode cX8_ticksFor 14 = .ok (.iconst 3, 1) := by decide +kernel
theorem dX8_ticksFor_15 : decode cX8_ticksFor 15 = .ok (.invokevirtual 98, 3) := by decide +kernel
theorem dX8_ticksFor_18 : decode cX8_ticksFor 18 = .ok (.ifCond .eq 9, 3) := by decide +kernel
theorem dX8_ticksFor_21 : decode cX8_ticksFor 21 = .ok (.iconst 2, 1) := by decide +kernel
theorem dX8_ticksFor_22 : decode cX8_ticksFor 22 = .ok (.iload_n 3, 1) := by decide +kernel
theorem dX8_ticksFor_23 : decode cX8_ticksFor 23 = .ok (.imul, 1) := by decide +kernel
theorem dX8_ticksFor_24 : decode cX8_ticksFor 24 = .ok (.goto 4, 3) := by decide +kernel
theorem dX8_ticksFor_27 : decode cX8_ticksFor 27 = .ok (.iload_n 3, 1) := by decide +kernel
theorem dX8_ticksFor_28 : decode cX8_ticksFor 28 = .ok (.ireturn, 1) := by decide +kernel
theorem dX8_takeFloor_0 : decode cX8_takeFloor 0 = .ok (.aload_n 0, 1) := by decide +kernel
theorem dX8_takeFloor_1 : decode cX8_takeFloor 1 = .ok (.getfield 21, 3) := by decide +kernel
theorem dX8_takeFloor_4 : decode cX8_takeFloor 4 = .ok (.iload_n 1, 1) := by decide +kernel
theorem dX8_takeFloor_5 : decode cX8_takeFloor 5 = .ok (.invokevirtual 162, 3) := by decide +kernel
theorem dX8_takeFloor_8 : decode cX8_takeFloor 8 = .ok (.istore_n 2, 1) := by decide +kernel
theorem dX8_takeFloor_9 : decode cX8_takeFloor 9 = .ok (.aload_n 0, 1) := by decide +kernel
theorem dX8_takeFloor_10 : decode cX8_takeFloor 10 = .ok (.getfield 21, 3) := by decide +kernel
theorem dX8_takeFloor_13 : decode cX8_takeFloor 13 = .ok (.iload_n 1, 1) := by decide +kernel
theorem dX8_takeFloor_14 : decode cX8_takeFloor 14 = .ok (.invokevirtual 159, 3) := by decide +kernel
theorem dX8_takeFloor_17 : decode cX8_takeFloor 17 = .ok (.istore_n 3, 1) := by decide +kernel
theorem dX8_takeFloor_18 : decode cX8_takeFloor 18 = .ok (.aload_n 0, 1) := by decide +kernel
theorem dX8_takeFloor_19 : decode cX8_takeFloor 19 = .ok (.getfield 21, 3) := by decide +kernel
theorem dX8_takeFloor_22 : decode cX8_takeFloor 22 = .ok (.iload_n 1, 1) := by decide +kernel
theorem dX8_takeFloor_23 : decode cX8_takeFloor 23 = .ok (.invokevirtual 176, 3) := by decide +kernel
theorem dX8_takeFloor_26 : decode cX8_takeFloor 26 = .ok (.aload_n 0, 1) := by decide +kernel
theorem dX8_takeFloor_27 : decode cX8_takeFloor 27 = .ok (.getfield 47, 3) := by decide +kernel
theorem dX8_takeFloor_30 : decode cX8_takeFloor 30 = .ok (.iload_n 2, 1) := by decide +kernel
theorem dX8_takeFloor_31 : decode cX8_takeFloor 31 = .ok (.iload_n 3, 1) := by decide +kernel
theorem dX8_takeFloor_32 : decode cX8_takeFloor 32 = .ok (.aload_n 0, 1) := by decide +kernel
theorem dX8_takeFloor_33 : decode cX8_takeFloor 33 = .ok (.iload_n 2, 1) := by decide +kernel
theorem dX8_takeFloor_34 : decode cX8_takeFloor 34 = .ok (.iload_n 3, 1) := by decide +kernel
theorem dX8_takeFloor_35 : decode cX8_takeFloor 35 = .ok (.invokevirtual 179, 3) := by decide +kernel
theorem dX8_takeFloor_38 : decode cX8_takeFloor 38 = .ok (.invokevirtual 323, 3) := by decide +kernel
theorem dX8_takeFloor_41 : decode cX8_takeFloor 41 = .ok (.iload_n 2, 1) := by decide +kernel
theorem dX8_takeFloor_42 : decode cX8_takeFloor 42 = .ok (.ireturn, 1) := by decide +kernel
theorem dX8_endHolding_0 : decode cX8_endHolding 0 = .ok (.aload_n 0, 1) := by decide +kernel
theorem dX8_endHolding_1 : decode cX8_endHolding 1 = .ok (.getfield 61, 3) := by decide +kernel
theorem dX8_endHolding_4 : decode cX8_endHolding 4 = .ok (.aload_n 0, 1) := by decide +kernel
theorem dX8_endHolding_5 : decode cX8_endHolding 5 = .ok (.getfield 47, 3) := by decide +kernel
theorem dX8_endHolding_8 : decode cX8_endHolding 8 = .ok (.invokevirtual 197, 3) := by decide +kernel
theorem dX8_endHolding_11 : decode cX8_endHolding 11 = .ok (.aload_n 0, 1) := by decide +kernel
theorem dX8_endHolding_12 : decode cX8_endHolding 12 = .ok (.getfield 47, 3) := by decide +kernel
theorem dX8_endHolding_15 : decode cX8_endHolding 15 = .ok (.invokevirtual 209, 3) := by decide +kernel
theorem dX8_endHolding_18 : decode cX8_endHolding 18 = .ok (.aload_n 0, 1) := by decide +kernel
theorem dX8_endHolding_19 : decode cX8_endHolding 19 = .ok (.getfield 47, 3) := by decide +kernel
theorem dX8_endHolding_22 : decode cX8_endHolding 22 = .ok (.invokevirtual 327, 3) := by decide +kernel
theorem dX8_endHolding_25 : decode cX8_endHolding 25 = .ok (.invokevirtual 330, 3) := by decide +kernel
theorem dX8_endHolding_28 : decode cX8_endHolding 28 = .ok (.aload_n 0, 1) := by decide +kernel
theorem dX8_endHolding_29 : decode cX8_endHolding 29 = .ok (.getfield 47, 3) := by decide +kernel
theorem dX8_endHolding_32 : decode cX8_endHolding 32 = .ok (.invokevirtual 333, 3) := by decide +kernel
theorem dX8_endHolding_35 : decode cX8_endHolding 35 = .ok (.return_, 1) := by decide +kernel
theorem dX8_gapsOfPairs_0 : decode cX8_gapsOfPairs 0 = .ok (.iconst 0, 1) := by decide +kernel
theorem dX8_gapsOfPairs_1 : decode cX8_gapsOfPairs 1 = .ok (.istore_n 1, 1) := by decide +kernel
theorem dX8_gapsOfPairs_2 : decode cX8_gapsOfPairs 2 = .ok (.iconst 0, 1) := by decide +kernel
theorem dX8_gapsOfPairs_3 : decode cX8_gapsOfPairs 3 = .ok (.istore_n 2, 1) := by decide +kernel
theorem dX8_gapsOfPairs_4 : decode cX8_gapsOfPairs 4 = .ok (.iload_n 2, 1) := by decide +kernel
theorem dX8_gapsOfPairs_5 : decode cX8_gapsOfPairs 5 = .ok (.iconst 5, 1) := by decide +kernel
theorem dX8_gapsOfPairs_6 : decode cX8_gapsOfPairs 6 = .ok (.if_icmp .ge 67, 3) := by decide +kernel
theorem dX8_gapsOfPairs_9 : decode cX8_gapsOfPairs 9 = .ok (.iconst 0, 1) := by decide +kernel
theorem dX8_gapsOfPairs_10 : decode cX8_gapsOfPairs 10 = .ok (.istore_n 3, 1) := by decide +kernel
theorem dX8_gapsOfPairs_11 : decode cX8_gapsOfPairs 11 = .ok (.iload_n 3, 1) := by decide +kernel
theorem dX8_gapsOfPairs_12 : decode cX8_gapsOfPairs 12 = .ok (.iload_n 2, 1) := by decide +kernel
theorem dX8_gapsOfPairs_13 : decode cX8_gapsOfPairs 13 = .ok (.if_icmp .ge 54, 3) := by decide +kernel
theorem dX8_gapsOfPairs_16 : decode cX8_gapsOfPairs 16 = .ok (.aload_n 0, 1) := by decide +kernel
theorem dX8_gapsOfPairs_17 : decode cX8_gapsOfPairs 17 = .ok (.getfield 10, 3) := by decide +kernel
theorem dX8_gapsOfPairs_20 : decode cX8_gapsOfPairs 20 = .ok (.iload_n 2, 1) := by decide +kernel
theorem dX8_gapsOfPairs_21 : decode cX8_gapsOfPairs 21 = .ok (.invokevirtual 250, 3) := by decide +kernel
theorem dX8_gapsOfPairs_24 : decode cX8_gapsOfPairs 24 = .ok (.ifCond .eq 37, 3) := by decide +kernel
theorem dX8_gapsOfPairs_27 : decode cX8_gapsOfPairs 27 = .ok (.aload_n 0, 1) := by decide +kernel
theorem dX8_gapsOfPairs_28 : decode cX8_gapsOfPairs 28 = .ok (.getfield 10, 3) := by decide +kernel
theorem dX8_gapsOfPairs_31 : decode cX8_gapsOfPairs 31 = .ok (.iload_n 3, 1) := by decide +kernel
theorem dX8_gapsOfPairs_32 : decode cX8_gapsOfPairs 32 = .ok (.invokevirtual 250, 3) := by decide +kernel
theorem dX8_gapsOfPairs_35 : decode cX8_gapsOfPairs 35 = .ok (.ifCond .eq 26, 3) := by decide +kernel
theorem dX8_gapsOfPairs_38 : decode cX8_gapsOfPairs 38 = .ok (.iload_n 1, 1) := by decide +kernel
theorem dX8_gapsOfPairs_39 : decode cX8_gapsOfPairs 39 = .ok (.aload_n 0, 1) := by decide +kernel
theorem dX8_gapsOfPairs_40 : decode cX8_gapsOfPairs 40 = .ok (.getfield 21, 3) := by decide +kernel
theorem dX8_gapsOfPairs_43 : decode cX8_gapsOfPairs 43 = .ok (.iload_n 2, 1) := by decide +kernel
theorem dX8_gapsOfPairs_44 : decode cX8_gapsOfPairs 44 = .ok (.invokevirtual 122, 3) := by decide +kernel
theorem dX8_gapsOfPairs_47 : decode cX8_gapsOfPairs 47 = .ok (.aload_n 0, 1) := by decide +kernel
theorem dX8_gapsOfPairs_48 : decode cX8_gapsOfPairs 48 = .ok (.getfield 21, 3) := by decide +kernel
theorem dX8_gapsOfPairs_51 : decode cX8_gapsOfPairs 51 = .ok (.iload_n 3, 1) := by decide +kernel
theorem dX8_gapsOfPairs_52 : decode cX8_gapsOfPairs 52 = .ok (.invokevirtual 122, 3) := by decide +kernel
theorem dX8_gapsOfPairs_55 : decode cX8_gapsOfPairs 55 = .ok (.isub, 1) := by decide +kernel
theorem dX8_gapsOfPairs_56 : decode cX8_gapsOfPairs 56 = .ok (.invokestatic 336, 3) := by decide +kernel
theorem dX8_gapsOfPairs_59 : decode cX8_gapsOfPairs 59 = .ok (.iadd, 1) := by decide +kernel
theorem dX8_gapsOfPairs_60 : decode cX8_gapsOfPairs 60 = .ok (.istore_n 1, 1) := by decide +kernel
theorem dX8_gapsOfPairs_61 : decode cX8_gapsOfPairs 61 = .ok (.iinc 3 1, 3) := by decide +kernel
theorem dX8_gapsOfPairs_64 : decode cX8_gapsOfPairs 64 = .ok (.goto (-53), 3) := by decide +kernel
theorem dX8_gapsOfPairs_67 : decode cX8_gapsOfPairs 67 = .ok (.iinc 2 1, 3) := by decide +kernel
theorem dX8_gapsOfPairs_70 : decode cX8_gapsOfPairs 70 = .ok (.goto (-66), 3) := by decide +kernel
theorem dX8_gapsOfPairs_73 : decode cX8_gapsOfPairs 73 = .ok (.iload_n 1, 1) := by decide +kernel
theorem dX8_gapsOfPairs_74 : decode cX8_gapsOfPairs 74 = .ok (.ireturn, 1) := by decide +kernel
theorem dX8_peopledDelegations_0 : decode cX8_peopledDelegations 0 = .ok (.iconst 0, 1) := by decide +kernel
theorem dX8_peopledDelegations_1 : decode cX8_peopledDelegations 1 = .ok (.istore_n 1, 1) := by decide +kernel
theorem dX8_peopledDelegations_2 : decode cX8_peopledDelegations 2 = .ok (.iconst 0, 1) := by decide +kernel
theorem dX8_peopledDelegations_3 : decode cX8_peopledDelegations 3 = .ok (.istore_n 2, 1) := by decide +kernel
theorem dX8_peopledDelegations_4 : decode cX8_peopledDelegations 4 = .ok (.iload_n 2, 1) := by decide +kernel
theorem dX8_peopledDelegations_5 : decode cX8_peopledDelegations 5 = .ok (.iconst 5, 1) := by decide +kernel
theorem dX8_peopledDelegations_6 : decode cX8_peopledDelegations 6 = .ok (.if_icmp .ge 23, 3) := by decide +kernel
theorem dX8_peopledDelegations_9 : decode cX8_peopledDelegations 9 = .ok (.aload_n 0, 1) := by decide +kernel
theorem dX8_peopledDelegations_10 : decode cX8_peopledDelegations 10 = .ok (.getfield 10, 3) := by decide +kernel
theorem dX8_peopledDelegations_13 : decode cX8_peopledDelegations 13 = .ok (.iload_n 2, 1) := by decide +kernel
theorem dX8_peopledDelegations_14 : decode cX8_peopledDelegations 14 = .ok (.invokevirtual 250, 3) := by decide +kernel
theorem dX8_peopledDelegations_17 : decode cX8_peopledDelegations 17 = .ok (.ifCond .eq 6, 3) := by decide +kernel
theorem dX8_peopledDelegations_20 : decode cX8_peopledDelegations 20 = .ok (.iinc 1 1, 3) := by decide +kernel
theorem dX8_peopledDelegations_23 : decode cX8_peopledDelegations 23 = .ok (.iinc 2 1, 3) := by decide +kernel
theorem dX8_peopledDelegations_26 : decode cX8_peopledDelegations 26 = .ok (.goto (-22), 3) := by decide +kernel
theorem dX8_peopledDelegations_29 : decode cX8_peopledDelegations 29 = .ok (.iload_n 1, 1) := by decide +kernel
theorem dX8_peopledDelegations_30 : decode cX8_peopledDelegations 30 = .ok (.ireturn, 1) := by decide +kernel
theorem dX8_allTime_0 : decode cX8_allTime 0 = .ok (.iconst 0, 1) := by decide +kernel
theorem dX8_allTime_1 : decode cX8_allTime 1 = .ok (.istore_n 1, 1) := by decide +kernel
theorem dX8_allTime_2 : decode cX8_allTime 2 = .ok (.iconst 0, 1) := by decide +kernel
theorem dX8_allTime_3 : decode cX8_allTime 3 = .ok (.istore_n 2, 1) := by decide +kernel
theorem dX8_allTime_4 : decode cX8_allTime 4 = .ok (.iload_n 2, 1) := by decide +kernel
theorem dX8_allTime_5 : decode cX8_allTime 5 = .ok (.iconst 5, 1) := by decide +kernel
theorem dX8_allTime_6 : decode cX8_allTime 6 = .ok (.if_icmp .ge 20, 3) := by decide +kernel
theorem dX8_allTime_9 : decode cX8_allTime 9 = .ok (.iload_n 1, 1) := by decide +kernel
theorem dX8_allTime_10 : decode cX8_allTime 10 = .ok (.aload_n 0, 1) := by decide +kernel
theorem dX8_allTime_11 : decode cX8_allTime 11 = .ok (.getfield 21, 3) := by decide +kernel
theorem dX8_allTime_14 : decode cX8_allTime 14 = .ok (.iload_n 2, 1) := by decide +kernel
theorem dX8_allTime_15 : decode cX8_allTime 15 = .ok (.invokevirtual 122, 3) := by decide +kernel
theorem dX8_allTime_18 : decode cX8_allTime 18 = .ok (.iadd, 1) := by decide +kernel
theorem dX8_allTime_19 : decode cX8_allTime 19 = .ok (.istore_n 1, 1) := by decide +kernel
theorem dX8_allTime_20 : decode cX8_allTime 20 = .ok (.iinc 2 1, 3) := by decide +kernel
theorem dX8_allTime_23 : decode cX8_allTime 23 = .ok (.goto (-19), 3) := by decide +kernel
theorem dX8_allTime_26 : decode cX8_allTime 26 = .ok (.iload_n 1, 1) := by decide +kernel
theorem dX8_allTime_27 : decode cX8_allTime 27 = .ok (.ireturn, 1) := by decide +kernel
theorem dX8_sheetAt_0 : decode cX8_sheetAt 0 = .ok (.iload_n 1, 1) := by decide +kernel
theorem dX8_sheetAt_1 : decode cX8_sheetAt 1 = .ok (.ifCond .lt 21, 3) := by decide +kernel
theorem dX8_sheetAt_4 : decode cX8_sheetAt 4 = .ok (.iload_n 1, 1) := by decide +kernel
theorem dX8_sheetAt_5 : decode cX8_sheetAt 5 = .ok (.aload_n 0, 1) := by decide +kernel
theorem dX8_sheetAt_6 : decode cX8_sheetAt 6 = .ok (.getfield 67, 3) := by decide +kernel
theorem dX8_sheetAt_9 : decode cX8_sheetAt 9 = .ok (.arraylength, 1) := by decide +kernel
theorem dX8_sheetAt_10 : decode cX8_sheetAt 10 = .ok (.if_icmp .ge 12, 3) := by decide +kernel
theorem dX8_sheetAt_13 : decode cX8_sheetAt 13 = .ok (.aload_n 0, 1) := by decide +kernel
theorem dX8_sheetAt_14 : decode cX8_sheetAt 14 = .ok (.getfield 67, 3) := by decide +kernel
theorem dX8_sheetAt_17 : decode cX8_sheetAt 17 = .ok (.iload_n 1, 1) := by decide +kernel
theorem dX8_sheetAt_18 : decode cX8_sheetAt 18 = .ok (.aaload, 1) := by decide +kernel
theorem dX8_sheetAt_19 : decode cX8_sheetAt 19 = .ok (.goto 4, 3) := by decide +kernel
theorem dX8_sheetAt_22 : decode cX8_sheetAt 22 = .ok (.aconst_null, 1) := by decide +kernel
theorem dX8_sheetAt_23 : decode cX8_sheetAt 23 = .ok (.areturn, 1) := by decide +kernel
theorem dX8_faultOfKeys_0 : decode cX8_faultOfKeys 0 = .ok (.iconst 0, 1) := by decide +kernel
theorem dX8_faultOfKeys_1 : decode cX8_faultOfKeys 1 = .ok (.istore_n 2, 1) := by decide +kernel
theorem dX8_faultOfKeys_2 : decode cX8_faultOfKeys 2 = .ok (.iload_n 2, 1) := by decide +kernel
theorem dX8_faultOfKeys_3 : decode cX8_faultOfKeys 3 = .ok (.iload_n 1, 1) := by decide +kernel
theorem dX8_faultOfKeys_4 : decode cX8_faultOfKeys 4 = .ok (.if_icmp .ge 23, 3) := by decide +kernel
theorem dX8_faultOfKeys_7 : decode cX8_faultOfKeys 7 = .ok (.aload_n 0, 1) := by decide +kernel
theorem dX8_faultOfKeys_8 : decode cX8_faultOfKeys 8 = .ok (.iload_n 2, 1) := by decide +kernel
theorem dX8_faultOfKeys_9 : decode cX8_faultOfKeys 9 = .ok (.invokevirtual 319, 3) := by decide +kernel
theorem dX8_faultOfKeys_12 : decode cX8_faultOfKeys 12 = .ok (.invokestatic 142, 3) := by decide +kernel
theorem dX8_faultOfKeys_15 : decode cX8_faultOfKeys 15 = .ok (.ifCond .ne 6, 3) := by decide +kernel
theorem dX8_faultOfKeys_18 : decode cX8_faultOfKeys 18 = .ok (.ldc 80, 2) := by decide +kernel
theorem dX8_faultOfKeys_20 : decode cX8_faultOfKeys 20 = .ok (.ireturn, 1) := by decide +kernel
theorem dX8_faultOfKeys_21 : decode cX8_faultOfKeys 21 = .ok (.iinc 2 1, 3) := by decide +kernel
theorem dX8_faultOfKeys_24 : decode cX8_faultOfKeys 24 = .ok (.goto (-22), 3) := by decide +kernel
theorem dX8_faultOfKeys_27 : decode cX8_faultOfKeys 27 = .ok (.iconst 0, 1) := by decide +kernel
theorem dX8_faultOfKeys_28 : decode cX8_faultOfKeys 28 = .ok (.istore_n 2, 1) := by decide +kernel
theorem dX8_faultOfKeys_29 : decode cX8_faultOfKeys 29 = .ok (.iload_n 2, 1) := by decide +kernel
theorem dX8_faultOfKeys_30 : decode cX8_faultOfKeys 30 = .ok (.iload_n 1, 1) := by decide +kernel
theorem dX8_faultOfKeys_31 : decode cX8_faultOfKeys 31 = .ok (.if_icmp .ge 38, 3) := by decide +kernel
theorem dX8_faultOfKeys_34 : decode cX8_faultOfKeys 34 = .ok (.iconst 0, 1) := by decide +kernel
theorem dX8_faultOfKeys_35 : decode cX8_faultOfKeys 35 = .ok (.istore_n 3, 1) := by decide +kernel
theorem dX8_faultOfKeys_36 : decode cX8_faultOfKeys 36 = .ok (.iload_n 3, 1) := by decide +kernel
theorem dX8_faultOfKeys_37 : decode cX8_faultOfKeys 37 = .ok (.iload_n 2, 1) := by decide +kernel
theorem dX8_faultOfKeys_38 : decode cX8_faultOfKeys 38 = .ok (.if_icmp .ge 25, 3) := by decide +kernel
theorem dX8_faultOfKeys_41 : decode cX8_faultOfKeys 41 = .ok (.aload_n 0, 1) := by decide +kernel
theorem dX8_faultOfKeys_42 : decode cX8_faultOfKeys 42 = .ok (.iload_n 2, 1) := by decide +kernel
theorem dX8_faultOfKeys_43 : decode cX8_faultOfKeys 43 = .ok (.invokevirtual 319, 3) := by decide +kernel
theorem dX8_faultOfKeys_46 : decode cX8_faultOfKeys 46 = .ok (.aload_n 0, 1) := by decide +kernel
theorem dX8_faultOfKeys_47 : decode cX8_faultOfKeys 47 = .ok (.iload_n 3, 1) := by decide +kernel
theorem dX8_faultOfKeys_48 : decode cX8_faultOfKeys 48 = .ok (.invokevirtual 319, 3) := by decide +kernel
theorem dX8_faultOfKeys_51 : decode cX8_faultOfKeys 51 = .ok (.if_icmp .ne 6, 3) := by decide +kernel
theorem dX8_faultOfKeys_54 : decode cX8_faultOfKeys 54 = .ok (.ldc 131, 2) := by decide +kernel
theorem dX8_faultOfKeys_56 : decode cX8_faultOfKeys 56 = .ok (.ireturn, 1) := by decide +kernel
theorem dX8_faultOfKeys_57 : decode cX8_faultOfKeys 57 = .ok (.iinc 3 1, 3) := by decide +kernel
theorem dX8_faultOfKeys_60 : decode cX8_faultOfKeys 60 = .ok (.goto (-24), 3) := by decide +kernel
theorem dX8_faultOfKeys_63 : decode cX8_faultOfKeys 63 = .ok (.iinc 2 1, 3) := by decide +kernel
theorem dX8_faultOfKeys_66 : decode cX8_faultOfKeys 66 = .ok (.goto (-37), 3) := by decide +kernel
theorem dX8_faultOfKeys_69 : decode cX8_faultOfKeys 69 = .ok (.iload_n 1, 1) := by decide +kernel
theorem dX8_faultOfKeys_70 : decode cX8_faultOfKeys 70 = .ok (.bipush 6, 2) := by decide +kernel
theorem dX8_faultOfKeys_72 : decode cX8_faultOfKeys 72 = .ok (.if_icmp .le 8, 3) := by decide +kernel
theorem dX8_faultOfKeys_75 : decode cX8_faultOfKeys 75 = .ok (.ldc 89, 2) := by decide +kernel
theorem dX8_faultOfKeys_77 : decode cX8_faultOfKeys 77 = .ok (.goto 4, 3) := by decide +kernel
theorem dX8_faultOfKeys_80 : decode cX8_faultOfKeys 80 = .ok (.iconst 0, 1) := by decide +kernel
theorem dX8_faultOfKeys_81 : decode cX8_faultOfKeys 81 = .ok (.ireturn, 1) := by decide +kernel
theorem dX8_isKey_0 : decode cX8_isKey 0 = .ok (.iload_n 0, 1) := by decide +kernel
theorem dX8_isKey_1 : decode cX8_isKey 1 = .ok (.iconst 1, 1) := by decide +kernel
theorem dX8_isKey_2 : decode cX8_isKey 2 = .ok (.bipush 9, 2) := by decide +kernel
theorem dX8_isKey_4 : decode cX8_isKey 4 = .ok (.invokestatic 76, 3) := by decide +kernel
theorem dX8_isKey_7 : decode cX8_isKey 7 = .ok (.ireturn, 1) := by decide +kernel
theorem dX8_isNeed_0 : decode cX8_isNeed 0 = .ok (.iload_n 0, 1) := by decide +kernel
theorem dX8_isNeed_1 : decode cX8_isNeed 1 = .ok (.iconst 1, 1) := by decide +kernel
theorem dX8_isNeed_2 : decode cX8_isNeed 2 = .ok (.iconst 3, 1) := by decide +kernel
theorem dX8_isNeed_3 : decode cX8_isNeed 3 = .ok (.invokestatic 76, 3) := by decide +kernel
theorem dX8_isNeed_6 : decode cX8_isNeed 6 = .ok (.ireturn, 1) := by decide +kernel
theorem dX8_isWidth_0 : decode cX8_isWidth 0 = .ok (.iload_n 0, 1) := by decide +kernel
theorem dX8_isWidth_1 : decode cX8_isWidth 1 = .ok (.ifCond .eq 21, 3) := by decide +kernel
theorem dX8_isWidth_4 : decode cX8_isWidth 4 = .ok (.iload_n 0, 1) := by decide +kernel
theorem dX8_isWidth_5 : decode cX8_isWidth 5 = .ok (.bipush 8, 2) := by decide +kernel
theorem dX8_isWidth_7 : decode cX8_isWidth 7 = .ok (.if_icmp .eq 15, 3) := by decide +kernel
theorem dX8_isWidth_10 : decode cX8_isWidth 10 = .ok (.iload_n 0, 1) := by decide +kernel
theorem dX8_isWidth_11 : decode cX8_isWidth 11 = .ok (.bipush 16, 2) := by decide +kernel
theorem dX8_isWidth_13 : decode cX8_isWidth 13 = .ok (.if_icmp .eq 9, 3) := by decide +kernel
theorem dX8_isWidth_16 : decode cX8_isWidth 16 = .ok (.iload_n 0, 1) := by decide +kernel
theorem dX8_isWidth_17 : decode cX8_isWidth 17 = .ok (.bipush 32, 2) := by decide +kernel
theorem dX8_isWidth_19 : decode cX8_isWidth 19 = .ok (.if_icmp .ne 7, 3) := by decide +kernel
theorem dX8_isWidth_22 : decode cX8_isWidth 22 = .ok (.iconst 1, 1) := by decide +kernel
theorem dX8_isWidth_23 : decode cX8_isWidth 23 = .ok (.goto 4, 3) := by decide +kernel
theorem dX8_isWidth_26 : decode cX8_isWidth 26 = .ok (.iconst 0, 1) := by decide +kernel
theorem dX8_isWidth_27 : decode cX8_isWidth 27 = .ok (.ireturn, 1) := by decide +kernel
theorem dX8_passes_0 : decode cX8_passes 0 = .ok (.iload_n 0, 1) := by decide +kernel
theorem dX8_passes_1 : decode cX8_passes 1 = .ok (.lookupswitch 59 #[(1, 27), (2, 38)], 27) := by decide +kernel
theorem dX8_passes_28 : decode cX8_passes 28 = .ok (.iload_n 1, 1) := by decide +kernel
theorem dX8_passes_29 : decode cX8_passes 29 = .ok (.iload_n 2, 1) := by decide +kernel
theorem dX8_passes_30 : decode cX8_passes 30 = .ok (.if_icmp .le 7, 3) := by decide +kernel
theorem dX8_passes_33 : decode cX8_passes 33 = .ok (.iconst 1, 1) := by decide +kernel
theorem dX8_passes_34 : decode cX8_passes 34 = .ok (.goto 4, 3) := by decide +kernel
theorem dX8_passes_37 : decode cX8_passes 37 = .ok (.iconst 0, 1) := by decide +kernel
theorem dX8_passes_38 : decode cX8_passes 38 = .ok (.ireturn, 1) := by decide +kernel
theorem dX8_passes_39 : decode cX8_passes 39 = .ok (.iload_n 1, 1) := by decide +kernel
theorem dX8_passes_40 : decode cX8_passes 40 = .ok (.ifCond .le 18, 3) := by decide +kernel
theorem dX8_passes_43 : decode cX8_passes 43 = .ok (.iconst 3, 1) := by decide +kernel
theorem dX8_passes_44 : decode cX8_passes 44 = .ok (.iload_n 1, 1) := by decide +kernel
theorem dX8_passes_45 : decode cX8_passes 45 = .ok (.imul, 1) := by decide +kernel
theorem dX8_passes_46 : decode cX8_passes 46 = .ok (.iconst 2, 1) := by decide +kernel
theorem dX8_passes_47 : decode cX8_passes 47 = .ok (.iload_n 1, 1) := by decide +kernel
theorem dX8_passes_48 : decode cX8_passes 48 = .ok (.iload_n 2, 1) := by decide +kernel
theorem dX8_passes_49 : decode cX8_passes 49 = .ok (.iadd, 1) := by decide +kernel
theorem dX8_passes_50 : decode cX8_passes 50 = .ok (.imul, 1) := by decide +kernel
theorem dX8_passes_51 : decode cX8_passes 51 = .ok (.if_icmp .lt 7, 3) := by decide +kernel
theorem dX8_passes_54 : decode cX8_passes 54 = .ok (.iconst 1, 1) := by decide +kernel
theorem dX8_passes_55 : decode cX8_passes 55 = .ok (.goto 4, 3) := by decide +kernel
theorem dX8_passes_58 : decode cX8_passes 58 = .ok (.iconst 0, 1) := by decide +kernel
theorem dX8_passes_59 : decode cX8_passes 59 = .ok (.ireturn, 1) := by decide +kernel
theorem dX8_passes_60 : decode cX8_passes 60 = .ok (.iload_n 1, 1) := by decide +kernel
theorem dX8_passes_61 : decode cX8_passes 61 = .ok (.ifCond .le 11, 3) := by decide +kernel
theorem dX8_passes_64 : decode cX8_passes 64 = .ok (.iload_n 2, 1) := by decide +kernel
theorem dX8_passes_65 : decode cX8_passes 65 = .ok (.ifCond .ne 7, 3) := by decide +kernel
theorem dX8_passes_68 : decode cX8_passes 68 = .ok (.iconst 1, 1) := by decide +kernel
theorem dX8_passes_69 : decode cX8_passes 69 = .ok (.goto 4, 3) := by decide +kernel
theorem dX8_passes_72 : decode cX8_passes 72 = .ok (.iconst 0, 1) := by decide +kernel
theorem dX8_passes_73 : decode cX8_passes 73 = .ok (.ireturn, 1) := by decide +kernel
theorem dX8_greatestDivisor_0 : decode cX8_greatestDivisor 0 = .ok (.iload_n 0, 1) := by decide +kernel
theorem dX8_greatestDivisor_1 : decode cX8_greatestDivisor 1 = .ok (.istore_n 2, 1) := by decide +kernel
theorem dX8_greatestDivisor_2 : decode cX8_greatestDivisor 2 = .ok (.iload_n 1, 1) := by decide +kernel
theorem dX8_greatestDivisor_3 : decode cX8_greatestDivisor 3 = .ok (.istore_n 3, 1) := by decide +kernel
theorem dX8_greatestDivisor_4 : decode cX8_greatestDivisor 4 = .ok (.iconst 0, 1) := by decide +kernel
theorem dX8_greatestDivisor_5 : decode cX8_greatestDivisor 5 = .ok (.istore 4, 2) := by decide +kernel
theorem dX8_greatestDivisor_7 : decode cX8_greatestDivisor 7 = .ok (.iload 4, 2) := by decide +kernel
theorem dX8_greatestDivisor_9 : decode cX8_greatestDivisor 9 = .ok (.bipush 100, 2) := by decide +kernel
theorem dX8_greatestDivisor_11 : decode cX8_greatestDivisor 11 = .ok (.if_icmp .ge 23, 3) := by decide +kernel
theorem dX8_greatestDivisor_14 : decode cX8_greatestDivisor 14 = .ok (.iload_n 3, 1) := by decide +kernel
theorem dX8_greatestDivisor_15 : decode cX8_greatestDivisor 15 = .ok (.ifCond .eq 19, 3) := by decide +kernel
theorem dX8_greatestDivisor_18 : decode cX8_greatestDivisor 18 = .ok (.iload_n 2, 1) := by decide +kernel
theorem dX8_greatestDivisor_19 : decode cX8_greatestDivisor 19 = .ok (.iload_n 3, 1) := by decide +kernel
theorem dX8_greatestDivisor_20 : decode cX8_greatestDivisor 20 = .ok (.irem, 1) := by decide +kernel
theorem dX8_greatestDivisor_21 : decode cX8_greatestDivisor 21 = .ok (.istore 5, 2) := by decide +kernel
theorem dX8_greatestDivisor_23 : decode cX8_greatestDivisor 23 = .ok (.iload_n 3, 1) := by decide +kernel
theorem dX8_greatestDivisor_24 : decode cX8_greatestDivisor 24 = .ok (.istore_n 2, 1) := by decide +kernel
theorem dX8_greatestDivisor_25 : decode cX8_greatestDivisor 25 = .ok (.iload 5, 2) := by decide +kernel
theorem dX8_greatestDivisor_27 : decode cX8_greatestDivisor 27 = .ok (.istore_n 3, 1) := by decide +kernel
theorem dX8_greatestDivisor_28 : decode cX8_greatestDivisor 28 = .ok (.iinc 4 1, 3) := by decide +kernel
theorem dX8_greatestDivisor_31 : decode cX8_greatestDivisor 31 = .ok (.goto (-24), 3) := by decide +kernel
theorem dX8_greatestDivisor_34 : decode cX8_greatestDivisor 34 = .ok (.iload_n 2, 1) := by decide +kernel
theorem dX8_greatestDivisor_35 : decode cX8_greatestDivisor 35 = .ok (.ireturn, 1) := by decide +kernel
theorem dX8_isWithin_0 : decode cX8_isWithin 0 = .ok (.iload_n 0, 1) := by decide +kernel
theorem dX8_isWithin_1 : decode cX8_isWithin 1 = .ok (.iload_n 1, 1) := by decide +kernel
theorem dX8_isWithin_2 : decode cX8_isWithin 2 = .ok (.if_icmp .lt 12, 3) := by decide +kernel
theorem dX8_isWithin_5 : decode cX8_isWithin 5 = .ok (.iload_n 0, 1) := by decide +kernel
theorem dX8_isWithin_6 : decode cX8_isWithin 6 = .ok (.iload_n 2, 1) := by decide +kernel
theorem dX8_isWithin_7 : decode cX8_isWithin 7 = .ok (.if_icmp .gt 7, 3) := by decide +kernel
theorem dX8_isWithin_10 : decode cX8_isWithin 10 = .ok (.iconst 1, 1) := by decide +kernel
theorem dX8_isWithin_11 : decode cX8_isWithin 11 = .ok (.goto 4, 3) := by decide +kernel
theorem dX8_isWithin_14 : decode cX8_isWithin 14 = .ok (.iconst 0, 1) := by decide +kernel
theorem dX8_isWithin_15 : decode cX8_isWithin 15 = .ok (.ireturn, 1) := by decide +kernel
theorem dX8_at_0 : decode cX8_at 0 = .ok (.iload_n 1, 1) := by decide +kernel
theorem dX8_at_1 : decode cX8_at 1 = .ok (.ifCond .lt 15, 3) := by decide +kernel
theorem dX8_at_4 : decode cX8_at 4 = .ok (.iload_n 1, 1) := by decide +kernel
theorem dX8_at_5 : decode cX8_at 5 = .ok (.aload_n 0, 1) := by decide +kernel
theorem dX8_at_6 : decode cX8_at 6 = .ok (.arraylength, 1) := by decide +kernel
theorem dX8_at_7 : decode cX8_at 7 = .ok (.if_icmp .ge 9, 3) := by decide +kernel
theorem dX8_at_10 : decode cX8_at 10 = .ok (.aload_n 0, 1) := by decide +kernel
theorem dX8_at_11 : decode cX8_at 11 = .ok (.iload_n 1, 1) := by decide +kernel
theorem dX8_at_12 : decode cX8_at 12 = .ok (.iaload, 1) := by decide +kernel
theorem dX8_at_13 : decode cX8_at 13 = .ok (.goto 4, 3) := by decide +kernel
theorem dX8_at_16 : decode cX8_at 16 = .ok (.iconst 0, 1) := by decide +kernel
theorem dX8_at_17 : decode cX8_at 17 = .ok (.ireturn, 1) := by decide +kernel
theorem dX8_set_0 : decode cX8_set 0 = .ok (.iload_n 1, 1) := by decide +kernel
theorem dX8_set_1 : decode cX8_set 1 = .ok (.ifCond .lt 13, 3) := by decide +kernel
theorem dX8_set_4 : decode cX8_set 4 = .ok (.iload_n 1, 1) := by decide +kernel
theorem dX8_set_5 : decode cX8_set 5 = .ok (.aload_n 0, 1) := by decide +kernel
theorem dX8_set_6 : decode cX8_set 6 = .ok (.arraylength, 1) := by decide +kernel
theorem dX8_set_7 : decode cX8_set 7 = .ok (.if_icmp .ge 7, 3) := by decide +kernel
theorem dX8_set_10 : decode cX8_set 10 = .ok (.aload_n 0, 1) := by decide +kernel
theorem dX8_set_11 : decode cX8_set 11 = .ok (.iload_n 1, 1) := by decide +kernel
theorem dX8_set_12 : decode cX8_set 12 = .ok (.iload_n 2, 1) := by decide +kernel
theorem dX8_set_13 : decode cX8_set 13 = .ok (.iastore, 1) := by decide +kernel
theorem dX8_set_14 : decode cX8_set 14 = .ok (.return_, 1) := by decide +kernel
theorem dX9_init_0 : decode cX9_init 0 = .ok (.aload_n 0, 1) := by decide +kernel
theorem dX9_init_1 : decode cX9_init 1 = .ok (.invokespecial 1, 3) := by decide +kernel
theorem dX9_init_4 : decode cX9_init 4 = .ok (.aload_n 0, 1) := by decide +kernel
theorem dX9_init_5 : decode cX9_init 5 = .ok (.bipush 10, 2) := by decide +kernel
theorem dX9_init_7 : decode cX9_init 7 = .ok (.newarray .int, 2) := by decide +kernel
theorem dX9_init_9 : decode cX9_init 9 = .ok (.putfield 7, 3) := by decide +kernel
theorem dX9_init_12 : decode cX9_init 12 = .ok (.aload_n 0, 1) := by decide +kernel
theorem dX9_init_13 : decode cX9_init 13 = .ok (.bipush 10, 2) := by decide +kernel
theorem dX9_init_15 : decode cX9_init 15 = .ok (.newarray .int, 2) := by decide +kernel
theorem dX9_init_17 : decode cX9_init 17 = .ok (.putfield 13, 3) := by decide +kernel
theorem dX9_init_20 : decode cX9_init 20 = .ok (.aload_n 0, 1) := by decide +kernel
theorem dX9_init_21 : decode cX9_init 21 = .ok (.bipush 10, 2) := by decide +kernel
theorem dX9_init_23 : decode cX9_init 23 = .ok (.newarray .boolean, 2) := by decide +kernel
theorem dX9_init_25 : decode cX9_init 25 = .ok (.putfield 16, 3) := by decide +kernel
theorem dX9_init_28 : decode cX9_init 28 = .ok (.aload_n 0, 1) := by decide +kernel
theorem dX9_init_29 : decode cX9_init 29 = .ok (.bipush 10, 2) := by decide +kernel
theorem dX9_init_31 : decode cX9_init 31 = .ok (.newarray .int, 2) := by decide +kernel
theorem dX9_init_33 : decode cX9_init 33 = .ok (.putfield 20, 3) := by decide +kernel
theorem dX9_init_36 : decode cX9_init 36 = .ok (.aload_n 0, 1) := by decide +kernel
theorem dX9_init_37 : decode cX9_init 37 = .ok (.bipush 10, 2) := by decide +kernel
theorem dX9_init_39 : decode cX9_init 39 = .ok (.newarray .int, 2) := by decide +kernel
theorem dX9_init_41 : decode cX9_init 41 = .ok (.putfield 23, 3) := by decide +kernel
theorem dX9_init_44 : decode cX9_init 44 = .ok (.aload_n 0, 1) := by decide +kernel
theorem dX9_init_45 : decode cX9_init 45 = .ok (.bipush 20, 2) := by decide +kernel
theorem dX9_init_47 : decode cX9_init 47 = .ok (.newarray .int, 2) := by decide +kernel
theorem dX9_init_49 : decode cX9_init 49 = .ok (.putfield 26, 3) := by decide +kernel
theorem dX9_init_52 : decode cX9_init 52 = .ok (.aload_n 0, 1) := by decide +kernel
theorem dX9_init_53 : decode cX9_init 53 = .ok (.bipush 20, 2) := by decide +kernel
theorem dX9_init_55 : decode cX9_init 55 = .ok (.newarray .int, 2) := by decide +kernel
theorem dX9_init_57 : decode cX9_init 57 = .ok (.putfield 29, 3) := by decide +kernel
theorem dX9_init_60 : decode cX9_init 60 = .ok (.aload_n 0, 1) := by decide +kernel
theorem dX9_init_61 : decode cX9_init 61 = .ok (.bipush 6, 2) := by decide +kernel
theorem dX9_init_63 : decode cX9_init 63 = .ok (.newarray .int, 2) := by decide +kernel
theorem dX9_init_65 : decode cX9_init 65 = .ok (.putfield 32, 3) := by decide +kernel
theorem dX9_init_68 : decode cX9_init 68 = .ok (.aload_n 0, 1) := by decide +kernel
theorem dX9_init_69 : decode cX9_init 69 = .ok (.iconst (-1), 1) := by decide +kernel
theorem dX9_init_70 : decode cX9_init 70 = .ok (.putfield 35, 3) := by decide +kernel
theorem dX9_init_73 : decode cX9_init 73 = .ok (.aload_n 0, 1) := by decide +kernel
theorem dX9_init_74 : decode cX9_init 74 = .ok (.iconst 5, 1) := by decide +kernel
theorem dX9_init_75 : decode cX9_init 75 = .ok (.newarray .int, 2) := by decide +kernel
theorem dX9_init_77 : decode cX9_init 77 = .ok (.putfield 39, 3) := by decide +kernel
theorem dX9_init_80 : decode cX9_init 80 = .ok (.aload_n 0, 1) := by decide +kernel
theorem dX9_init_81 : decode cX9_init 81 = .ok (.iconst 5, 1) := by decide +kernel
theorem dX9_init_82 : decode cX9_init 82 = .ok (.newarray .int, 2) := by decide +kernel
theorem dX9_init_84 : decode cX9_init 84 = .ok (.putfield 42, 3) := by decide +kernel
theorem dX9_init_87 : decode cX9_init 87 = .ok (.aload_n 0, 1) := by decide +kernel
theorem dX9_init_88 : decode cX9_init 88 = .ok (.iconst 5, 1) := by decide +kernel
theorem dX9_init_89 : decode cX9_init 89 = .ok (.newarray .int, 2) := by decide +kernel
theorem dX9_init_91 : decode cX9_init 91 = .ok (.putfield 45, 3) := by decide +kernel
theorem dX9_init_94 : decode cX9_init 94 = .ok (.aload_n 0, 1) := by decide +kernel
theorem dX9_init_95 : decode cX9_init 95 = .ok (.iconst 5, 1) := by decide +kernel
theorem dX9_init_96 : decode cX9_init 96 = .ok (.newarray .int, 2) := by decide +kernel
theorem dX9_init_98 : decode cX9_init 98 = .ok (.putfield 48, 3) := by decide +kernel
theorem dX9_init_101 : decode cX9_init 101 = .ok (.aload_n 0, 1) := by decide +kernel
theorem dX9_init_102 : decode cX9_init 102 = .ok (.iconst 3, 1) := by decide +kernel
theorem dX9_init_103 : decode cX9_init 103 = .ok (.newarray .int, 2) := by decide +kernel
theorem dX9_init_105 : decode cX9_init 105 = .ok (.dup, 1) := by decide +kernel
theorem dX9_init_106 : decode cX9_init 106 = .ok (.iconst 0, 1) := by decide +kernel
theorem dX9_init_107 : decode cX9_init 107 = .ok (.bipush 10, 2) := by decide +kernel
theorem dX9_init_109 : decode cX9_init 109 = .ok (.iastore, 1) := by decide +kernel
theorem dX9_init_110 : decode cX9_init 110 = .ok (.dup, 1) := by decide +kernel
theorem dX9_init_111 : decode cX9_init 111 = .ok (.iconst 1, 1) := by decide +kernel
theorem dX9_init_112 : decode cX9_init 112 = .ok (.iconst 4, 1) := by decide +kernel
theorem dX9_init_113 : decode cX9_init 113 = .ok (.iastore, 1) := by decide +kernel
theorem dX9_init_114 : decode cX9_init 114 = .ok (.dup, 1) := by decide +kernel
theorem dX9_init_115 : decode cX9_init 115 = .ok (.iconst 2, 1) := by decide +kernel
theorem dX9_init_116 : decode cX9_init 116 = .ok (.iconst 2, 1) := by decide +kernel
theorem dX9_init_117 : decode cX9_init 117 = .ok (.iastore, 1) := by decide +kernel
theorem dX9_init_118 : decode cX9_init 118 = .ok (.putfield 51, 3) := by decide +kernel
theorem dX9_init_121 : decode cX9_init 121 = .ok (.aload_n 0, 1) := by decide +kernel
theorem dX9_init_122 : decode cX9_init 122 = .ok (.bipush 10, 2) := by decide +kernel
theorem dX9_init_124 : decode cX9_init 124 = .ok (.newarray .int, 2) := by decide +kernel
theorem dX9_init_126 : decode cX9_init 126 = .ok (.putfield 54, 3) := by decide +kernel
theorem dX9_init_129 : decode cX9_init 129 = .ok (.aload_n 0, 1) := by decide +kernel
theorem dX9_init_130 : decode cX9_init 130 = .ok (.bipush 100, 2) := by decide +kernel
theorem dX9_init_132 : decode cX9_init 132 = .ok (.newarray .int, 2) := by decide +kernel
theorem dX9_init_134 : decode cX9_init 134 = .ok (.putfield 57, 3) := by decide +kernel
theorem dX9_init_137 : decode cX9_init 137 = .ok (.aload_n 0, 1) := by decide +kernel
theorem dX9_init_138 : decode cX9_init 138 = .ok (.bipush 100, 2) := by decide +kernel
theorem dX9_init_140 : decode cX9_init 140 = .ok (.newarray .int, 2) := by decide +kernel
theorem dX9_init_142 : decode cX9_init 142 = .ok (.putfield 60, 3) := by decide +kernel
theorem dX9_init_145 : decode cX9_init 145 = .ok (.aload_n 0, 1) := by decide +kernel
theorem dX9_init_146 : decode cX9_init 146 = .ok (.bipush 100, 2) := by decide +kernel
theorem dX9_init_148 : decode cX9_init 148 = .ok (.newarray .int, 2) := by decide +kernel
theorem dX9_init_150 : decode cX9_init 150 = .ok (.putfield 63, 3) := by decide +kernel
theorem dX9_init_153 : decode cX9_init 153 = .ok (.aload_n 0, 1) := by decide +kernel
theorem dX9_init_154 : decode cX9_init 154 = .ok (.bipush 41, 2) := by decide +kernel
theorem dX9_init_156 : decode cX9_init 156 = .ok (.newarray .int, 2) := by decide +kernel
theorem dX9_init_158 : decode cX9_init 158 = .ok (.putfield 66, 3) := by decide +kernel
theorem dX9_init_161 : decode cX9_init 161 = .ok (.aload_n 0, 1) := by decide +kernel
theorem dX9_init_162 : decode cX9_init 162 = .ok (.bipush 41, 2) := by decide +kernel
theorem dX9_init_164 : decode cX9_init 164 = .ok (.newarray .int, 2) := by decide +kernel
theorem dX9_init_166 : decode cX9_init 166 = .ok (.putfield 69, 3) := by decide +kernel
theorem dX9_init_169 : decode cX9_init 169 = .ok (.aload_n 0, 1) := by decide +kernel
theorem dX9_init_170 : decode cX9_init 170 = .ok (.iconst 4, 1) := by decide +kernel
theorem dX9_init_171 : decode cX9_init 171 = .ok (.newarray .int, 2) := by decide +kernel
theorem dX9_init_173 : decode cX9_init 173 = .ok (.putfield 72, 3) := by decide +kernel
theorem dX9_init_176 : decode cX9_init 176 = .ok (.aload_n 0, 1) := by decide +kernel
theorem dX9_init_177 : decode cX9_init 177 = .ok (.iconst 4, 1) := by decide +kernel
theorem dX9_init_178 : decode cX9_init 178 = .ok (.newarray .int, 2) := by decide +kernel
theorem dX9_init_180 : decode cX9_init 180 = .ok (.putfield 75, 3) := by decide +kernel
theorem dX9_init_183 : decode cX9_init 183 = .ok (.aload_n 0, 1) := by decide +kernel
theorem dX9_init_184 : decode cX9_init 184 = .ok (.bipush 48, 2) := by decide +kernel
theorem dX9_init_186 : decode cX9_init 186 = .ok (.newarray .int, 2) := by decide +kernel
theorem dX9_init_188 : decode cX9_init 188 = .ok (.putfield 78, 3) := by decide +kernel
theorem dX9_init_191 : decode cX9_init 191 = .ok (.aload_n 0, 1) := by decide +kernel
theorem dX9_init_192 : decode cX9_init 192 = .ok (.bipush 20, 2) := by decide +kernel
theorem dX9_init_194 : decode cX9_init 194 = .ok (.newarray .int, 2) := by decide +kernel
theorem dX9_init_196 : decode cX9_init 196 = .ok (.putfield 81, 3) := by decide +kernel
theorem dX9_init_199 : decode cX9_init 199 = .ok (.aload_n 0, 1) := by decide +kernel
theorem dX9_init_200 : decode cX9_init 200 = .ok (.bipush 20, 2) := by decide +kernel
theorem dX9_init_202 : decode cX9_init 202 = .ok (.newarray .int, 2) := by decide +kernel
theorem dX9_init_204 : decode cX9_init 204 = .ok (.putfield 84, 3) := by decide +kernel
theorem dX9_init_207 : decode cX9_init 207 = .ok (.aload_n 0, 1) := by decide +kernel
theorem dX9_init_208 : decode cX9_init 208 = .ok (.bipush 20, 2) := by decide +kernel
theorem dX9_init_210 : decode cX9_init 210 = .ok (.newarray .int, 2) := by decide +kernel
theorem dX9_init_212 : decode cX9_init 212 = .ok (.putfield 87, 3) := by decide +kernel
theorem dX9_init_215 : decode cX9_init 215 = .ok (.aload_n 0, 1) := by decide +kernel
theorem dX9_init_216 : decode cX9_init 216 = .ok (.bipush 10, 2) := by decide +kernel
theorem dX9_init_218 : decode cX9_init 218 = .ok (.newarray .int, 2) := by decide +kernel
theorem dX9_init_220 : decode cX9_init 220 = .ok (.putfield 90, 3) := by decide +kernel
theorem dX9_init_223 : decode cX9_init 223 = .ok (.aload_n 0, 1) := by decide +kernel
theorem dX9_init_224 : decode cX9_init 224 = .ok (.bipush 10, 2) := by decide +kernel
theorem dX9_init_226 : decode cX9_init 226 = .ok (.newarray .int, 2) := by decide +kernel
theorem dX9_init_228 : decode cX9_init 228 = .ok (.putfield 93, 3) := by decide +kernel
theorem dX9_init_231 : decode cX9_init 231 = .ok (.aload_n 0, 1) := by decide +kernel
theorem dX9_init_232 : decode cX9_init 232 = .ok (.bipush 12, 2) := by decide +kernel
theorem dX9_init_234 : decode cX9_init 234 = .ok (.newarray .int, 2) := by decide +kernel
theorem dX9_init_236 : decode cX9_init 236 = .ok (.putfield 96, 3) := by decide +kernel
theorem dX9_init_239 : decode cX9_init 239 = .ok (.return_, 1) := by decide +kernel
theorem dX9_finding_0 : decode cX9_finding 0 = .ok (.aload_n 0, 1) := by decide +kernel
theorem dX9_finding_1 : decode cX9_finding 1 = .ok (.dup, 1) := by decide +kernel
theorem dX9_finding_2 : decode cX9_finding 2 = .ok (.getfield 99, 3) := by decide +kernel
theorem dX9_finding_5 : decode cX9_finding 5 = .ok (.iconst 1, 1) := by decide +kernel
theorem dX9_finding_6 : decode cX9_finding 6 = .ok (.iadd, 1) := by decide +kernel
theorem dX9_finding_7 : decode cX9_finding 7 = .ok (.putfield 99, 3) := by decide +kernel
theorem dX9_finding_10 : decode cX9_finding 10 = .ok (.iload_n 1, 1) := by decide +kernel
theorem dX9_finding_11 : decode cX9_finding 11 = .ok (.ireturn, 1) := by decide +kernel
theorem dX9_isIn_0 : decode cX9_isIn 0 = .ok (.iload_n 0, 1) := by decide +kernel
theorem dX9_isIn_1 : decode cX9_isIn 1 = .ok (.iload_n 1, 1) := by decide +kernel
theorem dX9_isIn_2 : decode cX9_isIn 2 = .ok (.if_icmp .lt 12, 3) := by decide +kernel
theorem dX9_isIn_5 : decode cX9_isIn 5 = .ok (.iload_n 0, 1) := by decide +kernel
theorem dX9_isIn_6 : decode cX9_isIn 6 = .ok (.iload_n 2, 1) := by decide +kernel
theorem dX9_isIn_7 : decode cX9_isIn 7 = .ok (.if_icmp .gt 7, 3) := by decide +kernel
theorem dX9_isIn_10 : decode cX9_isIn 10 = .ok (.iconst 1, 1) := by decide +kernel
theorem dX9_isIn_11 : decode cX9_isIn 11 = .ok (.goto 4, 3) := by decide +kernel
theorem dX9_isIn_14 : decode cX9_isIn 14 = .ok (.iconst 0, 1) := by decide +kernel
theorem dX9_isIn_15 : decode cX9_isIn 15 = .ok (.ireturn, 1) := by decide +kernel
theorem dX9_isMember_0 : decode cX9_isMember 0 = .ok (.iload_n 1, 1) := by decide +kernel
theorem dX9_isMember_1 : decode cX9_isMember 1 = .ok (.ifCond .lt 15, 3) := by decide +kernel
theorem dX9_isMember_4 : decode cX9_isMember 4 = .ok (.iload_n 1, 1) := by decide +kernel
theorem dX9_isMember_5 : decode cX9_isMember 5 = .ok (.aload_n 0, 1) := by decide +kernel
theorem dX9_isMember_6 : decode cX9_isMember 6 = .ok (.getfield 102, 3) := by decide +kernel
theorem dX9_isMember_9 : decode cX9_isMember 9 = .ok (.if_icmp .ge 7, 3) := by decide +kernel
theorem dX9_isMember_12 : decode cX9_isMember 12 = .ok (.iconst 1, 1) := by decide +kernel
theorem dX9_isMember_13 : decode cX9_isMember 13 = .ok (.goto 4, 3) := by decide +kernel
theorem dX9_isMember_16 : decode cX9_isMember 16 = .ok (.iconst 0, 1) := by decide +kernel
theorem dX9_isMember_17 : decode cX9_isMember 17 = .ok (.ireturn, 1) := by decide +kernel
theorem dX9_isSort_0 : decode cX9_isSort 0 = .ok (.iload_n 0, 1) := by decide +kernel
theorem dX9_isSort_1 : decode cX9_isSort 1 = .ok (.iconst 0, 1) := by decide +kernel
theorem dX9_isSort_2 : decode cX9_isSort 2 = .ok (.iconst 2, 1) := by decide +kernel
theorem dX9_isSort_3 : decode cX9_isSort 3 = .ok (.invokestatic 105, 3) := by decide +kernel
theorem dX9_isSort_6 : decode cX9_isSort 6 = .ok (.ireturn, 1) := by decide +kernel
theorem dX9_isGuest_0 : decode cX9_isGuest 0 = .ok (.aload_n 0, 1) := by decide +kernel
theorem dX9_isGuest_1 : decode cX9_isGuest 1 = .ok (.getfield 7, 3) := by decide +kernel
theorem dX9_isGuest_4 : decode cX9_isGuest 4 = .ok (.iload_n 1, 1) := by decide +kernel
theorem dX9_isGuest_5 : decode cX9_isGuest 5 = .ok (.iaload, 1) := by decide +kernel
theorem dX9_isGuest_6 : decode cX9_isGuest 6 = .ok (.iconst 1, 1) := by decide +kernel
theorem dX9_isGuest_7 : decode cX9_isGuest 7 = .ok (.if_icmp .eq 13, 3) := by decide +kernel
theorem dX9_isGuest_10 : decode cX9_isGuest 10 = .ok (.aload_n 0, 1) := by decide +kernel
theorem dX9_isGuest_11 : decode cX9_isGuest 11 = .ok (.getfield 7, 3) := by decide +kernel
theorem dX9_isGuest_14 : decode cX9_isGuest 14 = .ok (.iload_n 1, 1) := by decide +kernel
theorem dX9_isGuest_15 : decode cX9_isGuest 15 = .ok (.iaload, 1) := by decide +kernel
theorem dX9_isGuest_16 : decode cX9_isGuest 16 = .ok (.iconst 3, 1) := by decide +kernel
theorem dX9_isGuest_17 : decode cX9_isGuest 17 = .ok (.if_icmp .ne 7, 3) := by decide +kernel
theorem dX9_isGuest_20 : decode cX9_isGuest 20 = .ok (.iconst 1, 1) := by decide +kernel
theorem dX9_isGuest_21 : decode cX9_isGuest 21 = .ok (.goto 4, 3) := by decide +kernel
theorem dX9_isGuest_24 : decode cX9_isGuest 24 = .ok (.iconst 0, 1) := by decide +kernel
theorem dX9_isGuest_25 : decode cX9_isGuest 25 = .ok (.ireturn, 1) := by decide +kernel
theorem dX9_member_0 : decode cX9_member 0 = .ok (.iload_n 1, 1) := by decide +kernel
theorem dX9_member_1 : decode cX9_member 1 = .ok (.iconst 0, 1) := by decide +kernel
theorem dX9_member_2 : decode cX9_member 2 = .ok (.iconst 3, 1) := by decide +kernel
theorem dX9_member_3 : decode cX9_member 3 = .ok (.invokestatic 105, 3) := by decide +kernel
theorem dX9_member_6 : decode cX9_member 6 = .ok (.ifCond .eq 12, 3) := by decide +kernel
theorem dX9_member_9 : decode cX9_member 9 = .ok (.iload_n 2, 1) := by decide +kernel
theorem dX9_member_10 : decode cX9_member 10 = .ok (.iconst 0, 1) := by decide +kernel
theorem dX9_member_11 : decode cX9_member 11 = .ok (.iconst 4, 1) := by decide +kernel
theorem dX9_member_12 : decode cX9_member 12 = .ok (.invokestatic 105, 3) := by decide +kernel
theorem dX9_member_15 : decode cX9_member 15 = .ok (.ifCond .ne 10, 3) := by decide +kernel
theorem dX9_member_18 : decode cX9_member 18 = .ok (.aload_n 0, 1) := by decide +kernel
theorem dX9_member_19 : decode cX9_member 19 = .ok (.ldc 109, 2) := by decide +kernel
theorem dX9_member_21 : decode cX9_member 21 = .ok (.invokevirtual 110, 3) := by decide +kernel
theorem dX9_member_24 : decode cX9_member 24 = .ok (.ireturn, 1) := by decide +kernel
theorem dX9_member_25 : decode cX9_member 25 = .ok (.aload_n 0, 1) := by decide +kernel
theorem dX9_member_26 : decode cX9_member 26 = .ok (.getfield 102, 3) := by decide +kernel
theorem dX9_member_29 : decode cX9_member 29 = .ok (.bipush 10, 2) := by decide +kernel
theorem dX9_member_31 : decode cX9_member 31 = .ok (.if_icmp .ne 10, 3) := by decide +kernel
theorem dX9_member_34 : decode cX9_member 34 = .ok (.aload_n 0, 1) := by decide +kernel
theorem dX9_member_35 : decode cX9_member 35 = .ok (.ldc 114, 2) := by decide +kernel
theorem dX9_member_37 : decode cX9_member 37 = .ok (.invokevirtual 110, 3) := by decide +kernel
theorem dX9_member_40 : decode cX9_member 40 = .ok (.ireturn, 1) := by decide +kernel
theorem dX9_member_41 : decode cX9_member 41 = .ok (.aload_n 0, 1) := by decide +kernel
theorem dX9_member_42 : decode cX9_member 42 = .ok (.getfield 7, 3) := by decide +kernel
theorem dX9_member_45 : decode cX9_member 45 = .ok (.aload_n 0, 1) := by decide +kernel
theorem dX9_member_46 : decode cX9_member 46 = .ok (.getfield 102, 3) := by decide +kernel
theorem dX9_member_49 : decode cX9_member 49 = .ok (.iload_n 1, 1) := by decide +kernel
theorem dX9_member_50 : decode cX9_member 50 = .ok (.iastore, 1) := by decide +kernel
theorem dX9_member_51 : decode cX9_member 51 = .ok (.aload_n 0, 1) := by decide +kernel
theorem dX9_member_52 : decode cX9_member 52 = .ok (.getfield 13, 3) := by decide +kernel
theorem dX9_member_55 : decode cX9_member 55 = .ok (.aload_n 0, 1) := by decide +kernel
theorem dX9_member_56 : decode cX9_member 56 = .ok (.getfield 102, 3) := by decide +kernel
theorem dX9_member_59 : decode cX9_member 59 = .ok (.iload_n 2, 1) := by decide +kernel
theorem dX9_member_60 : decode cX9_member 60 = .ok (.iastore, 1) := by decide +kernel
theorem dX9_member_61 : decode cX9_member 61 = .ok (.aload_n 0, 1) := by decide +kernel
theorem dX9_member_62 : decode cX9_member 62 = .ok (.getfield 16, 3) := by decide +kernel
theorem dX9_member_65 : decode cX9_member 65 = .ok (.aload_n 0, 1) := by decide +kernel
theorem dX9_member_66 : decode cX9_member 66 = .ok (.getfield 102, 3) := by decide +kernel
theorem dX9_member_69 : decode cX9_member 69 = .ok (.iconst 1, 1) := by decide +kernel
theorem dX9_member_70 : decode cX9_member 70 = .ok (.bastore, 1) := by decide +kernel
theorem dX9_member_71 : decode cX9_member 71 = .ok (.aload_n 0, 1) := by decide +kernel
theorem dX9_member_72 : decode cX9_member 72 = .ok (.dup, 1) := by decide +kernel
theorem dX9_member_73 : decode cX9_member 73 = .ok (.getfield 102, 3) := by decide +kernel
theorem dX9_member_76 : decode cX9_member 76 = .ok (.iconst 1, 1) := by decide +kernel
theorem dX9_member_77 : decode cX9_member 77 = .ok (.iadd, 1) := by decide +kernel
theorem dX9_member_78 : decode cX9_member 78 = .ok (.putfield 102, 3) := by decide +kernel
theorem dX9_member_81 : decode cX9_member 81 = .ok (.aload_n 0, 1) := by decide +kernel
theorem dX9_member_82 : decode cX9_member 82 = .ok (.getfield 102, 3) := by decide +kernel
theorem dX9_member_85 : decode cX9_member 85 = .ok (.iconst 1, 1) := by decide +kernel
theorem dX9_member_86 : decode cX9_member 86 = .ok (.isub, 1) := by decide +kernel
theorem dX9_member_87 : decode cX9_member 87 = .ok (.ireturn, 1) := by decide +kernel
theorem dX9_as_0 : decode cX9_as 0 = .ok (.aload_n 0, 1) := by decide +kernel
theorem dX9_as_1 : decode cX9_as 1 = .ok (.iload_n 1, 1) := by decide +kernel
theorem dX9_as_2 : decode cX9_as 2 = .ok (.invokevirtual 115, 3) := by decide +kernel
theorem dX9_as_5 : decode cX9_as 5 = .ok (.ifCond .eq 12, 3) := by decide +kernel
theorem dX9_as_8 : decode cX9_as 8 = .ok (.iload_n 2, 1) := by decide +kernel
theorem dX9_as_9 : decode cX9_as 9 = .ok (.iconst 0, 1) := by decide +kernel
theorem dX9_as_10 : decode cX9_as 10 = .ok (.iconst 3, 1) := by decide +kernel
theorem dX9_as_11 : decode cX9_as 11 = .ok (.invokestatic 105, 3) := by decide +kernel
theorem dX9_as_14 : decode cX9_as 14 = .ok (.ifCond .ne 10, 3) := by decide +kernel
theorem dX9_as_17 : decode cX9_as 17 = .ok (.aload_n 0, 1) := by decide +kernel
theorem dX9_as_18 : decode cX9_as 18 = .ok (.ldc 109, 2) := by decide +kernel
theorem dX9_as_20 : decode cX9_as 20 = .ok (.invokevirtual 110, 3) := by decide +kernel
theorem dX9_as_23 : decode cX9_as 23 = .ok (.ireturn, 1) := by decide +kernel
theorem dX9_as_24 : decode cX9_as 24 = .ok (.iload_n 2, 1) := by decide +kernel
theorem dX9_as_25 : decode cX9_as 25 = .ok (.ifCond .eq 26, 3) := by decide +kernel
theorem dX9_as_28 : decode cX9_as 28 = .ok (.iload_n 2, 1) := by decide +kernel
theorem dX9_as_29 : decode cX9_as 29 = .ok (.aload_n 0, 1) := by decide +kernel
theorem dX9_as_30 : decode cX9_as 30 = .ok (.getfield 7, 3) := by decide +kernel
theorem dX9_as_33 : decode cX9_as 33 = .ok (.iload_n 1, 1) := by decide +kernel
theorem dX9_as_34 : decode cX9_as 34 = .ok (.iaload, 1) := by decide +kernel
theorem dX9_as_35 : decode cX9_as 35 = .ok (.if_icmp .eq 16, 3) := by decide +kernel
theorem dX9_as_38 : decode cX9_as 38 = .ok (.iload_n 2, 1) := by decide +kernel
theorem dX9_as_39 : decode cX9_as 39 = .ok (.iconst 1, 1) := by decide +kernel
theorem dX9_as_40 : decode cX9_as 40 = .ok (.if_icmp .ne 15, 3) := by decide +kernel
theorem dX9_as_43 : decode cX9_as 43 = .ok (.aload_n 0, 1) := by decide +kernel
theorem dX9_as_44 : decode cX9_as 44 = .ok (.iload_n 1, 1) := by decide +kernel
theorem dX9_as_45 : decode cX9_as 45 = .ok (.invokevirtual 119, 3) := by decide +kernel
theorem dX9_as_48 : decode cX9_as 48 = .ok (.ifCond .eq 7, 3) := by decide +kernel
theorem dX9_as_51 : decode cX9_as 51 = .ok (.iload_n 1, 1) := by decide +kernel
theorem dX9_as_52 : decode cX9_as 52 = .ok (.goto 9, 3) := by decide +kernel
theorem dX9_as_55 : decode cX9_as 55 = .ok (.aload_n 0, 1) := by decide +kernel
theorem dX9_as_56 : decode cX9_as 56 = .ok (.ldc 122, 2) := by decide +kernel
theorem dX9_as_58 : decode cX9_as 58 = .ok (.invokevirtual 110, 3) := by decide +kernel
theorem dX9_as_61 : decode cX9_as 61 = .ok (.ireturn, 1) := by decide +kernel
theorem dX9_present_0 : decode cX9_present 0 = .ok (.aload_n 0, 1) := by decide +kernel
theorem dX9_present_1 : decode cX9_present 1 = .ok (.iload_n 1, 1) := by decide +kernel
theorem dX9_present_2 : decode cX9_present 2 = .ok (.invokevirtual 115, 3) := by decide +kernel
theorem dX9_present_5 : decode cX9_present 5 = .ok (.ifCond .ne 10, 3) := by decide +kernel
theorem dX9_present_8 : decode cX9_present 8 = .ok (.aload_n 0, 1) := by decide +kernel
theorem dX9_present_9 : decode cX9_present 9 = .ok (.ldc 109, 2) := by decide +kernel
theorem dX9_present_11 : decode cX9_present 11 = .ok (.invokevirtual 110, 3) := by decide +kernel
theorem dX9_present_14 : decode cX9_present 14 = .ok (.ireturn, 1) := by decide +kernel
theorem dX9_present_15 : decode cX9_present 15 = .ok (.aload_n 0, 1) := by decide +kernel
theorem dX9_present_16 : decode cX9_present 16 = .ok (.getfield 16, 3) := by decide +kernel
theorem dX9_present_19 : decode cX9_present 19 = .ok (.iload_n 1, 1) := by decide +kernel
theorem dX9_present_20 : decode cX9_present 20 = .ok (.baload, 1) := by decide +kernel
theorem dX9_present_21 : decode cX9_present 21 = .ok (.istore_n 3, 1) := by decide +kernel
theorem dX9_present_22 : decode cX9_present 22 = .ok (.aload_n 0, 1) := by decide +kernel
theorem dX9_present_23 : decode cX9_present 23 = .ok (.getfield 16, 3) := by decide +kernel
theorem dX9_present_26 : decode cX9_present 26 = .ok (.iload_n 1, 1) := by decide +kernel
theorem dX9_present_27 : decode cX9_present 27 = .ok (.iload_n 2, 1) := by decide +kernel
theorem dX9_present_28 : decode cX9_present 28 = .ok (.bastore, 1) := by decide +kernel
theorem dX9_present_29 : decode cX9_present 29 = .ok (.iload_n 3, 1) := by decide +kernel
theorem dX9_present_30 : decode cX9_present 30 = .ok (.iload_n 2, 1) := by decide +kernel
theorem dX9_present_31 : decode cX9_present 31 = .ok (.if_icmp .ne 7, 3) := by decide +kernel
theorem dX9_present_34 : decode cX9_present 34 = .ok (.iconst 0, 1) := by decide +kernel
theorem dX9_present_35 : decode cX9_present 35 = .ok (.goto 4, 3) := by decide +kernel
theorem dX9_present_38 : decode cX9_present 38 = .ok (.iconst 1, 1) := by decide +kernel
theorem dX9_present_39 : decode cX9_present 39 = .ok (.ireturn, 1) := by decide +kernel
theorem dX9_of_0 : decode cX9_of 0 = .ok (.aload_n 0, 1) := by decide +kernel
theorem dX9_of_1 : decode cX9_of 1 = .ok (.iload_n 1, 1) := by decide +kernel
theorem dX9_of_2 : decode cX9_of 2 = .ok (.invokevirtual 115, 3) := by decide +kernel
theorem dX9_of_5 : decode cX9_of 5 = .ok (.ifCond .eq 12, 3) := by decide +kernel
theorem dX9_of_8 : decode cX9_of 8 = .ok (.iload_n 2, 1) := by decide +kernel
theorem dX9_of_9 : decode cX9_of 9 = .ok (.iconst 0, 1) := by decide +kernel
theorem dX9_of_10 : decode cX9_of 10 = .ok (.iconst 4, 1) := by decide +kernel
theorem dX9_of_11 : decode cX9_of 11 = .ok (.invokestatic 105, 3) := by decide +kernel
theorem dX9_of_14 : decode cX9_of 14 = .ok (.ifCond .ne 10, 3) := by decide +kernel
theorem dX9_of_17 : decode cX9_of 17 = .ok (.aload_n 0, 1) := by decide +kernel
theorem dX9_of_18 : decode cX9_of 18 = .ok (.ldc 109, 2) := by decide +kernel
theorem dX9_of_20 : decode cX9_of 20 = .ok (.invokevirtual 110, 3) := by decide +kernel
theorem dX9_of_23 : decode cX9_of 23 = .ok (.ireturn, 1) := by decide +kernel
theorem dX9_of_24 : decode cX9_of 24 = .ok (.iload_n 2, 1) := by decide +kernel
theorem dX9_of_25 : decode cX9_of 25 = .ok (.ifCond .ne 12, 3) := by decide +kernel
theorem dX9_of_28 : decode cX9_of 28 = .ok (.aload_n 0, 1) := by decide +kernel
theorem dX9_of_29 : decode cX9_of 29 = .ok (.getfield 7, 3) := by decide +kernel
theorem dX9_of_32 : decode cX9_of 32 = .ok (.iload_n 1, 1) := by decide +kernel
theorem dX9_of_33 : decode cX9_of 33 = .ok (.iaload, 1) := by decide +kernel
theorem dX9_of_34 : decode cX9_of 34 = .ok (.goto 59, 3) := by decide +kernel
theorem dX9_of_37 : decode cX9_of 37 = .ok (.iload_n 2, 1) := by decide +kernel
theorem dX9_of_38 : decode cX9_of 38 = .ok (.iconst 1, 1) := by decide +kernel
theorem dX9_of_39 : decode cX9_of 39 = .ok (.if_icmp .ne 12, 3) := by decide +kernel
theorem dX9_of_42 : decode cX9_of 42 = .ok (.aload_n 0, 1) := by decide +kernel
theorem dX9_of_43 : decode cX9_of 43 = .ok (.getfield 13, 3) := by decide +kernel
theorem dX9_of_46 : decode cX9_of 46 = .ok (.iload_n 1, 1) := by decide +kernel
theorem dX9_of_47 : decode cX9_of 47 = .ok (.iaload, 1) := by decide +kernel
theorem dX9_of_48 : decode cX9_of 48 = .ok (.goto 45, 3) := by decide +kernel
theorem dX9_of_51 : decode cX9_of 51 = .ok (.iload_n 2, 1) := by decide +kernel
theorem dX9_of_52 : decode cX9_of 52 = .ok (.iconst 2, 1) := by decide +kernel
theorem dX9_of_53 : decode cX9_of 53 = .ok (.if_icmp .ne 20, 3) := by decide +kernel
theorem dX9_of_56 : decode cX9_of 56 = .ok (.aload_n 0, 1) := by decide +kernel
theorem dX9_of_57 : decode cX9_of 57 = .ok (.getfield 16, 3) := by decide +kernel
theorem dX9_of_60 : decode cX9_of 60 = .ok (.iload_n 1, 1) := by decide +kernel
theorem dX9_of_61 : decode cX9_of 61 = .ok (.baload, 1) := by decide +kernel
theorem dX9_of_62 : decode cX9_of 62 = .ok (.ifCond .eq 7, 3) := by decide +kernel
theorem dX9_of_65 : decode cX9_of 65 = .ok (.iconst 1, 1) := by decide +kernel
theorem dX9_of_66 : decode cX9_of 66 = .ok (.goto 27, 3) := by decide +kernel
theorem dX9_of_69 : decode cX9_of 69 = .ok (.iconst 0, 1) := by decide +kernel
theorem dX9_of_70 : decode cX9_of 70 = .ok (.goto 23, 3) := by decide +kernel
theorem dX9_of_73 : decode cX9_of 73 = .ok (.iload_n 2, 1) := by decide +kernel
theorem dX9_of_74 : decode cX9_of 74 = .ok (.iconst 3, 1) := by decide +kernel
theorem dX9_of_75 : decode cX9_of 75 = .ok (.if_icmp .ne 12, 3) := by decide +kernel
theorem dX9_of_78 : decode cX9_of 78 = .ok (.aload_n 0, 1) := by decide +kernel
theorem dX9_of_79 : decode cX9_of 79 = .ok (.getfield 20, 3) := by decide +kernel
theorem dX9_of_82 : decode cX9_of 82 = .ok (.iload_n 1, 1) := by decide +kernel
theorem dX9_of_83 : decode cX9_of 83 = .ok (.iaload, 1) := by decide +kernel
theorem dX9_of_84 : decode cX9_of 84 = .ok (.goto 9, 3) := by decide +kernel
theorem dX9_of_87 : decode cX9_of 87 = .ok (.aload_n 0, 1) := by decide +kernel
theorem dX9_of_88 : decode cX9_of 88 = .ok (.getfield 23, 3) := by decide +kernel
theorem dX9_of_91 : decode cX9_of 91 = .ok (.iload_n 1, 1) := by decide +kernel
theorem dX9_of_92 : decode cX9_of 92 = .ok (.iaload, 1) := by decide +kernel
theorem dX9_of_93 : decode cX9_of 93 = .ok (.ireturn, 1) := by decide +kernel
theorem dX9_timeOf_0 : decode cX9_timeOf 0 = .ok (.iconst 0, 1) := by decide +kernel
theorem dX9_timeOf_1 : decode cX9_timeOf 1 = .ok (.istore_n 2, 1) := by decide +kernel
theorem dX9_timeOf_2 : decode cX9_timeOf 2 = .ok (.iconst 0, 1) := by decide +kernel
theorem dX9_timeOf_3 : decode cX9_timeOf 3 = .ok (.istore_n 3, 1) := by decide +kernel
theorem dX9_timeOf_4 : decode cX9_timeOf 4 = .ok (.iload_n 3, 1) := by decide +kernel
theorem dX9_timeOf_5 : decode cX9_timeOf 5 = .ok (.aload_n 0, 1) := by decide +kernel
theorem dX9_timeOf_6 : decode cX9_timeOf 6 = .ok (.getfield 102, 3) := by decide +kernel
theorem dX9_timeOf_9 : decode cX9_timeOf 9 = .ok (.if_icmp .ge 32, 3) := by decide +kernel
theorem dX9_timeOf_12 : decode cX9_timeOf 12 = .ok (.iload_n 2, 1) := by decide +kernel
theorem dX9_timeOf_13 : decode cX9_timeOf 13 = .ok (.aload_n 0, 1) := by decide +kernel
theorem dX9_timeOf_14 : decode cX9_timeOf 14 = .ok (.getfield 13, 3) := by decide +kernel
theorem dX9_timeOf_17 : decode cX9_timeOf 17 = .ok (.iload_n 3, 1) := by decide +kernel
theorem dX9_timeOf_18 : decode cX9_timeOf 18 = .ok (.iaload, 1) := by decide +kernel
theorem dX9_timeOf_19 : decode cX9_timeOf 19 = .ok (.iload_n 1, 1) := by decide +kernel
theorem dX9_timeOf_20 : decode cX9_timeOf 20 = .ok (.if_icmp .ne 12, 3) := by decide +kernel
theorem dX9_timeOf_23 : decode cX9_timeOf 23 = .ok (.aload_n 0, 1) := by decide +kernel
theorem dX9_timeOf_24 : decode cX9_timeOf 24 = .ok (.getfield 20, 3) := by decide +kernel
theorem dX9_timeOf_27 : decode cX9_timeOf 27 = .ok (.iload_n 3, 1) := by decide +kernel
theorem dX9_timeOf_28 : decode cX9_timeOf 28 = .ok (.iaload, 1) := by decide +kernel
theorem dX9_timeOf_29 : decode cX9_timeOf 29 = .ok (.goto 4, 3) := by decide +kernel
theorem dX9_timeOf_32 : decode cX9_timeOf 32 = .ok (.iconst 0, 1) := by decide +kernel
theorem dX9_timeOf_33 : decode cX9_timeOf 33 = .ok (.iadd, 1) := by decide +kernel
theorem dX9_timeOf_34 : decode cX9_timeOf 34 = .ok (.istore_n 2, 1) := by decide +kernel
theorem dX9_timeOf_35 : decode cX9_timeOf 35 = .ok (.iinc 3 1, 3) := by decide +kernel
theorem dX9_timeOf_38 : decode cX9_timeOf 38 = .ok (.goto (-34), 3) := by decide +kernel
theorem dX9_timeOf_41 : decode cX9_timeOf 41 = .ok (.iload_n 2, 1) := by decide +kernel
theorem dX9_timeOf_42 : decode cX9_timeOf 42 = .ok (.ireturn, 1) := by decide +kernel
theorem dX9_time_0 : decode cX9_time 0 = .ok (.iload_n 1, 1) := by decide +kernel
theorem dX9_time_1 : decode cX9_time 1 = .ok (.iconst 0, 1) := by decide +kernel
theorem dX9_time_2 : decode cX9_time 2 = .ok (.iconst 4, 1) := by decide +kernel
theorem dX9_time_3 : decode cX9_time 3 = .ok (.invokestatic 105, 3) := by decide +kernel
theorem dX9_time_6 : decode cX9_time 6 = .ok (.ifCond .eq 11, 3) := by decide +kernel
theorem dX9_time_9 : decode cX9_time 9 = .ok (.aload_n 0, 1) := by decide +kernel
theorem dX9_time_10 : decode cX9_time 10 = .ok (.iload_n 1, 1) := by decide +kernel
theorem dX9_time_11 : decode cX9_time 11 = .ok (.invokevirtual 123, 3) := by decide +kernel
theorem dX9_time_14 : decode cX9_time 14 = .ok (.goto 9, 3) := by decide +kernel
theorem dX9_time_17 : decode cX9_time 17 = .ok (.aload_n 0, 1) := by decide +kernel
theorem dX9_time_18 : decode cX9_time 18 = .ok (.ldc 109, 2) := by decide +kernel
theorem dX9_time_20 : decode cX9_time 20 = .ok (.invokevirtual 110, 3) := by decide +kernel
theorem dX9_time_23 : decode cX9_time 23 = .ok (.ireturn, 1) := by decide +kernel
theorem dX9_askingOf_0 : decode cX9_askingOf 0 = .ok (.iconst (-1), 1) := by decide +kernel
theorem dX9_askingOf_1 : decode cX9_askingOf 1 = .ok (.istore_n 3, 1) := by decide +kernel
theorem dX9_askingOf_2 : decode cX9_askingOf 2 = .ok (.iconst 0, 1) := by decide +kernel
theorem dX9_askingOf_3 : decode cX9_askingOf 3 = .ok (.istore 4, 2) := by decide +kernel
theorem dX9_askingOf_5 : decode cX9_askingOf 5 = .ok (.iload 4, 2) := by decide +kernel
theorem dX9_askingOf_7 : decode cX9_askingOf 7 = .ok (.aload_n 0, 1) := by decide +kernel
theorem dX9_askingOf_8 : decode cX9_askingOf 8 = .ok (.getfield 126, 3) := by decide +kernel
theorem dX9_askingOf_11 : decode cX9_askingOf 11 = .ok (.if_icmp .ge 38, 3) := by decide +kernel
theorem dX9_askingOf_14 : decode cX9_askingOf 14 = .ok (.aload_n 0, 1) := by decide +kernel
theorem dX9_askingOf_15 : decode cX9_askingOf 15 = .ok (.getfield 26, 3) := by decide +kernel
theorem dX9_askingOf_18 : decode cX9_askingOf 18 = .ok (.iload 4, 2) := by decide +kernel
theorem dX9_askingOf_20 : decode cX9_askingOf 20 = .ok (.iaload, 1) := by decide +kernel
theorem dX9_askingOf_21 : decode cX9_askingOf 21 = .ok (.iload_n 1, 1) := by decide +kernel
theorem dX9_askingOf_22 : decode cX9_askingOf 22 = .ok (.if_icmp .ne 19, 3) := by decide +kernel
theorem dX9_askingOf_25 : decode cX9_askingOf 25 = .ok (.aload_n 0, 1) := by decide +kernel
theorem dX9_askingOf_26 : decode cX9_askingOf 26 = .ok (.getfield 29, 3) := by decide +kernel
theorem dX9_askingOf_29 : decode cX9_askingOf 29 = .ok (.iload 4, 2) := by decide +kernel
theorem dX9_askingOf_31 : decode cX9_askingOf 31 = .ok (.iaload, 1) := by decide +kernel
theorem dX9_askingOf_32 : decode cX9_askingOf 32 = .ok (.iload_n 2, 1) := by decide +kernel
theorem dX9_askingOf_33 : decode cX9_askingOf 33 = .ok (.if_icmp .ne 8, 3) := by decide +kernel
theorem dX9_askingOf_36 : decode cX9_askingOf 36 = .ok (.iload 4, 2) := by decide +kernel
theorem dX9_askingOf_38 : decode cX9_askingOf 38 = .ok (.goto 4, 3) := by decide +kernel
theorem dX9_askingOf_41 : decode cX9_askingOf 41 = .ok (.iload_n 3, 1) := by decide +kernel
theorem dX9_askingOf_42 : decode cX9_askingOf 42 = .ok (.istore_n 3, 1) := by decide +kernel
theorem dX9_askingOf_43 : decode cX9_askingOf 43 = .ok (.iinc 4 1, 3) := by decide +kernel
theorem dX9_askingOf_46 : decode cX9_askingOf 46 = .ok (.goto (-41), 3) := by decide +kernel
theorem dX9_askingOf_49 : decode cX9_askingOf 49 = .ok (.iload_n 3, 1) := by decide +kernel
theorem dX9_askingOf_50 : decode cX9_askingOf 50 = .ok (.ireturn, 1) := by decide +kernel
theorem dX9_comes_0 : decode cX9_comes 0 = .ok (.aload_n 0, 1) := by decide +kernel
theorem dX9_comes_1 : decode cX9_comes 1 = .ok (.getfield 26, 3) := by decide +kernel
theorem dX9_comes_4 : decode cX9_comes 4 = .ok (.aload_n 0, 1) := by decide +kernel
theorem dX9_comes_5 : decode cX9_comes 5 = .ok (.getfield 126, 3) := by decide +kernel
theorem dX9_comes_8 : decode cX9_comes 8 = .ok (.iload_n 1, 1) := by decide +kernel
theorem dX9_comes_9 : decode cX9_comes 9 = .ok (.iastore, 1) := by decide +kernel
theorem dX9_comes_10 : decode cX9_comes 10 = .ok (.aload_n 0, 1) := by decide +kernel
theorem dX9_comes_11 : decode cX9_comes 11 = .ok (.getfield 29, 3) := by decide +kernel
theorem dX9_comes_14 : decode cX9_comes 14 = .ok (.aload_n 0, 1) := by decide +kernel
theorem dX9_comes_15 : decode cX9_comes 15 = .ok (.getfield 126, 3) := by decide +kernel
theorem dX9_comes_18 : decode cX9_comes 18 = .ok (.iload_n 2, 1) := by decide +kernel
theorem dX9_comes_19 : decode cX9_comes 19 = .ok (.iastore, 1) := by decide +kernel
theorem dX9_comes_20 : decode cX9_comes 20 = .ok (.aload_n 0, 1) := by decide +kernel
theorem dX9_comes_21 : decode cX9_comes 21 = .ok (.dup, 1) := by decide +kernel
theorem dX9_comes_22 : decode cX9_comes 22 = .ok (.getfield 126, 3) := by decide +kernel
theorem dX9_comes_25 : decode cX9_comes 25 = .ok (.iconst 1, 1) := by decide +kernel
theorem dX9_comes_26 : decode cX9_comes 26 = .ok (.iadd, 1) := by decide +kernel
theorem dX9_comes_27 : decode cX9_comes 27 = .ok (.putfield 126, 3) := by decide +kernel
theorem dX9_comes_30 : decode cX9_comes 30 = .ok (.return_, 1) := by decide +kernel
theorem dX9_goes_0 : decode cX9_goes 0 = .ok (.aload_n 0, 1) := by decide +kernel
theorem dX9_goes_1 : decode cX9_goes 1 = .ok (.dup, 1) := by decide +kernel
theorem dX9_goes_2 : decode cX9_goes 2 = .ok (.getfield 126, 3) := by decide +kernel
theorem dX9_goes_5 : decode cX9_goes 5 = .ok (.iconst 1, 1) := by decide +kernel
theorem dX9_goes_6 : decode cX9_goes 6 = .ok (.isub, 1) := by decide +kernel
theorem dX9_goes_7 : decode cX9_goes 7 = .ok (.putfield 126, 3) := by decide +kernel
theorem dX9_goes_10 : decode cX9_goes 10 = .ok (.iload_n 1, 1) := by decide +kernel
theorem dX9_goes_11 : decode cX9_goes 11 = .ok (.istore_n 2, 1) := by decide +kernel
theorem dX9_goes_12 : decode cX9_goes 12 = .ok (.iload_n 2, 1) := by decide +kernel
theorem dX9_goes_13 : decode cX9_goes 13 = .ok (.aload_n 0, 1) := by decide +kernel
theorem dX9_goes_14 : decode cX9_goes 14 = .ok (.getfield 126, 3) := by decide +kernel
theorem dX9_goes_17 : decode cX9_goes 17 = .ok (.if_icmp .ge 37, 3) := by decide +kernel
theorem dX9_goes_20 : decode cX9_goes 20 = .ok (.aload_n 0, 1) := by decide +kernel
theorem dX9_goes_21 : decode cX9_goes 21 = .ok (.getfield 26, 3) := by decide +kernel
theorem dX9_goes_24 : decode cX9_goes 24 = .ok (.iload_n 2, 1) := by decide +kernel
theorem dX9_goes_25 : decode cX9_goes 25 = .ok (.aload_n 0, 1) := by decide +kernel
theorem dX9_goes_26 : decode cX9_goes 26 = .ok (.getfield 26, 3) := by decide +kernel
theorem dX9_goes_29 : decode cX9_goes 29 = .ok (.iload_n 2, 1) := by decide +kernel
theorem dX9_goes_30 : decode cX9_goes 30 = .ok (.iconst 1, 1) := by decide +kernel
theorem dX9_goes_31 : decode cX9_goes 31 = .ok (.iadd, 1) := by decide +kernel
theorem dX9_goes_32 : decode cX9_goes 32 = .ok (.iaload, 1) := by decide +kernel
theorem dX9_goes_33 : decode cX9_goes 33 = .ok (.iastore, 1) := by decide +kernel
theorem dX9_goes_34 : decode cX9_goes 34 = .ok (.aload_n 0, 1) := by decide +kernel
theorem dX9_goes_35 : decode cX9_goes 35 = .ok (.getfield 29, 3) := by decide +kernel
theorem dX9_goes_38 : decode cX9_goes 38 = .ok (.iload_n 2, 1) := by decide +kernel
theorem dX9_goes_39 : decode cX9_goes 39 = .ok (.aload_n 0, 1) := by decide +kernel
theorem dX9_goes_40 : decode cX9_goes 40 = .ok (.getfield 29, 3) := by decide +kernel
theorem dX9_goes_43 : decode cX9_goes 43 = .ok (.iload_n 2, 1) := by decide +kernel
theorem dX9_goes_44 : decode cX9_goes 44 = .ok (.iconst 1, 1) := by decide +kernel
theorem dX9_goes_45 : decode cX9_goes 45 = .ok (.iadd, 1) := by decide +kernel
theorem dX9_goes_46 : decode cX9_goes 46 = .ok (.iaload, 1) := by decide +kernel
theorem dX9_goes_47 : decode cX9_goes 47 = .ok (.iastore, 1) := by decide +kernel
theorem dX9_goes_48 : decode cX9_goes 48 = .ok (.iinc 2 1, 3) := by decide +kernel
theorem dX9_goes_51 : decode cX9_goes 51 = .ok (.goto (-39), 3) := by decide +kernel
theorem dX9_goes_54 : decode cX9_goes 54 = .ok (.return_, 1) := by decide +kernel
theorem dX9_ask_0 : decode cX9_ask 0 = .ok (.aload_n 0, 1) := by decide +kernel
theorem dX9_ask_1 : decode cX9_ask 1 = .ok (.iload_n 1, 1) := by decide +kernel
theorem dX9_ask_2 : decode cX9_ask 2 = .ok (.invokevirtual 115, 3) := by decide +kernel
theorem dX9_ask_5 : decode cX9_ask 5 = .ok (.ifCond .eq 10, 3) := by decide +kernel
theorem dX9_ask_8 : decode cX9_ask 8 = .ok (.iload_n 2, 1) := by decide +kernel
theorem dX9_ask_9 : decode cX9_ask 9 = .ok (.invokestatic 129, 3) := by decide +kernel
theorem dX9_ask_12 : decode cX9_ask 12 = .ok (.ifCond .ne 10, 3) := by decide +kernel
theorem dX9_ask_15 : decode cX9_ask 15 = .ok (.aload_n 0, 1) := by decide +kernel
theorem dX9_ask_16 : decode cX9_ask 16 = .ok (.ldc 109, 2) := by decide +kernel
theorem dX9_ask_18 : decode cX9_ask 18 = .ok (.invokevirtual 110, 3) := by decide +kernel
theorem dX9_ask_21 : decode cX9_ask 21 = .ok (.ireturn, 1) := by decide +kernel
theorem dX9_ask_22 : decode cX9_ask 22 = .ok (.aload_n 0, 1) := by decide +kernel
theorem dX9_ask_23 : decode cX9_ask 23 = .ok (.iload_n 1, 1) := by decide +kernel
theorem dX9_ask_24 : decode cX9_ask 24 = .ok (.iload_n 2, 1) := by decide +kernel
theorem dX9_ask_25 : decode cX9_ask 25 = .ok (.invokevirtual 132, 3) := by decide +kernel
theorem dX9_ask_28 : decode cX9_ask 28 = .ok (.ifCond .lt 10, 3) := by decide +kernel
theorem dX9_ask_31 : decode cX9_ask 31 = .ok (.aload_n 0, 1) := by decide +kernel
theorem dX9_ask_32 : decode cX9_ask 32 = .ok (.ldc 136, 2) := by decide +kernel
theorem dX9_ask_34 : decode cX9_ask 34 = .ok (.invokevirtual 110, 3) := by decide +kernel
theorem dX9_ask_37 : decode cX9_ask 37 = .ok (.ireturn, 1) := by decide +kernel
theorem dX9_ask_38 : decode cX9_ask 38 = .ok (.aload_n 0, 1) := by decide +kernel
theorem dX9_ask_39 : decode cX9_ask 39 = .ok (.getfield 126, 3) := by decide +kernel
theorem dX9_ask_42 : decode cX9_ask 42 = .ok (.bipush 20, 2) := by decide +kernel
theorem dX9_ask_44 : decode cX9_ask 44 = .ok (.if_icmp .ne 10, 3) := by decide +kernel
theorem dX9_ask_47 : decode cX9_ask 47 = .ok (.aload_n 0, 1) := by decide +kernel
theorem dX9_ask_48 : decode cX9_ask 48 = .ok (.ldc 114, 2) := by decide +kernel
theorem dX9_ask_50 : decode cX9_ask 50 = .ok (.invokevirtual 110, 3) := by decide +kernel
theorem dX9_ask_53 : decode cX9_ask 53 = .ok (.ireturn, 1) := by decide +kernel
theorem dX9_ask_54 : decode cX9_ask 54 = .ok (.aload_n 0, 1) := by decide +kernel
theorem dX9_ask_55 : decode cX9_ask 55 = .ok (.iload_n 1, 1) := by decide +kernel
theorem dX9_ask_56 : decode cX9_ask 56 = .ok (.iload_n 2, 1) := by decide +kernel
theorem dX9_ask_57 : decode cX9_ask 57 = .ok (.invokevirtual 137, 3) := by decide +kernel
theorem dX9_ask_60 : decode cX9_ask 60 = .ok (.aload_n 0, 1) := by decide +kernel
theorem dX9_ask_61 : decode cX9_ask 61 = .ok (.getfield 126, 3) := by decide +kernel
theorem dX9_ask_64 : decode cX9_ask 64 = .ok (.ireturn, 1) := by decide +kernel
theorem dX9_withdraw_0 : decode cX9_withdraw 0 = .ok (.aload_n 0, 1) := by decide +kernel
theorem dX9_withdraw_1 : decode cX9_withdraw 1 = .ok (.iload_n 1, 1) := by decide +kernel
theorem dX9_withdraw_2 : decode cX9_withdraw 2 = .ok (.invokevirtual 115, 3) := by decide +kernel
theorem dX9_withdraw_5 : decode cX9_withdraw 5 = .ok (.ifCond .eq 10, 3) := by decide +kernel
theorem dX9_withdraw_8 : decode cX9_withdraw 8 = .ok (.iload_n 2, 1) := by decide +kernel
theorem dX9_withdraw_9 : decode cX9_withdraw 9 = .ok (.invokestatic 129, 3) := by decide +kernel
theorem dX9_withdraw_12 : decode cX9_withdraw 12 = .ok (.ifCond .ne 10, 3) := by decide +kernel
theorem dX9_withdraw_15 : decode cX9_withdraw 15 = .ok (.aload_n 0, 1) := by decide +kernel
theorem dX9_withdraw_16 : decode cX9_withdraw 16 = .ok (.ldc 109, 2) := by decide +kernel
theorem dX9_withdraw_18 : decode cX9_withdraw 18 = .ok (.invokevirtual 110, 3) := by decide +kernel
theorem dX9_withdraw_21 : decode cX9_withdraw 21 = .ok (.ireturn, 1) := by decide +kernel
theorem dX9_withdraw_22 : decode cX9_withdraw 22 = .ok (.aload_n 0, 1) := by decide +kernel
theorem dX9_withdraw_23 : decode cX9_withdraw 23 = .ok (.iload_n 1, 1) := by decide +kernel
theorem dX9_withdraw_24 : decode cX9_withdraw 24 = .ok (.iload_n 2, 1) := by decide +kernel
theorem dX9_withdraw_25 : decode cX9_withdraw 25 = .ok (.invokevirtual 132, 3) := by decide +kernel
theorem dX9_withdraw_28 : decode cX9_withdraw 28 = .ok (.istore_n 3, 1) := by decide +kernel
theorem dX9_withdraw_29 : decode cX9_withdraw 29 = .ok (.iload_n 3, 1) := by decide +kernel
theorem dX9_withdraw_30 : decode cX9_withdraw 30 = .ok (.ifCond .ge 10, 3) := by decide +kernel
theorem dX9_withdraw_33 : decode cX9_withdraw 33 = .ok (.aload_n 0, 1) := by decide +kernel
theorem dX9_withdraw_34 : decode cX9_withdraw 34 = .ok (.ldc 141, 2) := by decide +kernel
theorem dX9_withdraw_36 : decode cX9_withdraw 36 = .ok (.invokevirtual 110, 3) := by decide +kernel
theorem dX9_withdraw_39 : decode cX9_withdraw 39 = .ok (.ireturn, 1) := by decide +kernel
theorem dX9_withdraw_40 : decode cX9_withdraw 40 = .ok (.aload_n 0, 1) := by decide +kernel
theorem dX9_withdraw_41 : decode cX9_withdraw 41 = .ok (.iload_n 3, 1) := by decide +kernel
theorem dX9_withdraw_42 : decode cX9_withdraw 42 = .ok (.invokevirtual 142, 3) := by decide +kernel
theorem dX9_withdraw_45 : decode cX9_withdraw 45 = .ok (.aload_n 0, 1) := by decide +kernel
theorem dX9_withdraw_46 : decode cX9_withdraw 46 = .ok (.getfield 126, 3) := by decide +kernel
theorem dX9_withdraw_49 : decode cX9_withdraw 49 = .ok (.ireturn, 1) := by decide +kernel
theorem dX9_hasKey_0 : decode cX9_hasKey 0 = .ok (.iconst 0, 1) := by decide +kernel
theorem dX9_hasKey_1 : decode cX9_hasKey 1 = .ok (.istore_n 2, 1) := by decide +kernel
theorem dX9_hasKey_2 : decode cX9_hasKey 2 = .ok (.iconst 0, 1) := by decide +kernel
theorem dX9_hasKey_3 : decode cX9_hasKey 3 = .ok (.istore_n 3, 1) := by decide +kernel
theorem dX9_hasKey_4 : decode cX9_hasKey 4 = .ok (.iload_n 3, 1) := by decide +kernel
theorem dX9_hasKey_5 : decode cX9_hasKey 5 = .ok (.aload_n 0, 1) := by decide +kernel
theorem dX9_hasKey_6 : decode cX9_hasKey 6 = .ok (.getfield 146, 3) := by decide +kernel
theorem dX9_hasKey_9 : decode cX9_hasKey 9 = .ok (.if_icmp .ge 27, 3) := by decide +kernel
theorem dX9_hasKey_12 : decode cX9_hasKey 12 = .ok (.iload_n 2, 1) := by decide +kernel
theorem dX9_hasKey_13 : decode cX9_hasKey 13 = .ok (.aload_n 0, 1) := by decide +kernel
theorem dX9_hasKey_14 : decode cX9_hasKey 14 = .ok (.getfield 32, 3) := by decide +kernel
theorem dX9_hasKey_17 : decode cX9_hasKey 17 = .ok (.iload_n 3, 1) := by decide +kernel
theorem dX9_hasKey_18 : decode cX9_hasKey 18 = .ok (.iaload, 1) := by decide +kernel
theorem dX9_hasKey_19 : decode cX9_hasKey 19 = .ok (.iload_n 1, 1) := by decide +kernel
theorem dX9_hasKey_20 : decode cX9_hasKey 20 = .ok (.if_icmp .ne 7, 3) := by decide +kernel
theorem dX9_hasKey_23 : decode cX9_hasKey 23 = .ok (.iconst 1, 1) := by decide +kernel
theorem dX9_hasKey_24 : decode cX9_hasKey 24 = .ok (.goto 4, 3) := by decide +kernel
theorem dX9_hasKey_27 : decode cX9_hasKey 27 = .ok (.iconst 0, 1) := by decide +kernel
theorem dX9_hasKey_28 : decode cX9_hasKey 28 = .ok (.ior, 1) := by decide +kernel
theorem dX9_hasKey_29 : decode cX9_hasKey 29 = .ok (.istore_n 2, 1) := by decide +kernel
theorem dX9_hasKey_30 : decode cX9_hasKey 30 = .ok (.iinc 3 1, 3) := by decide +kernel
theorem dX9_hasKey_33 : decode cX9_hasKey 33 = .ok (.goto (-29), 3) := by decide +kernel
theorem dX9_hasKey_36 : decode cX9_hasKey 36 = .ok (.iload_n 2, 1) := by decide +kernel
theorem dX9_hasKey_37 : decode cX9_hasKey 37 = .ok (.ireturn, 1) := by decide +kernel
theorem dX9_key_0 : decode cX9_key 0 = .ok (.iload_n 1, 1) := by decide +kernel
theorem dX9_key_1 : decode cX9_key 1 = .ok (.iconst 1, 1) := by decide +kernel
theorem dX9_key_2 : decode cX9_key 2 = .ok (.bipush 9, 2) := by decide +kernel
theorem dX9_key_4 : decode cX9_key 4 = .ok (.invokestatic 105, 3) := by decide +kernel
theorem dX9_key_7 : decode cX9_key 7 = .ok (.ifCond .ne 10, 3) := by decide +kernel
theorem dX9_key_10 : decode cX9_key 10 = .ok (.aload_n 0, 1) := by decide +kernel
theorem dX9_key_11 : decode cX9_key 11 = .ok (.ldc 109, 2) := by decide +kernel
theorem dX9_key_13 : decode cX9_key 13 = .ok (.invokevirtual 110, 3) := by decide +kernel
theorem dX9_key_16 : decode cX9_key 16 = .ok (.ireturn, 1) := by decide +kernel
theorem dX9_key_17 : decode cX9_key 17 = .ok (.aload_n 0, 1) := by decide +kernel
theorem dX9_key_18 : decode cX9_key 18 = .ok (.iload_n 1, 1) := by decide +kernel
theorem dX9_key_19 : decode cX9_key 19 = .ok (.invokevirtual 149, 3) := by decide +kernel
theorem dX9_key_22 : decode cX9_key 22 = .ok (.ifCond .eq 10, 3) := by decide +kernel
theorem dX9_key_25 : decode cX9_key 25 = .ok (.aload_n 0, 1) := by decide +kernel
theorem dX9_key_26 : decode cX9_key 26 = .ok (.ldc 136, 2) := by decide +kernel
theorem dX9_key_28 : decode cX9_key 28 = .ok (.invokevirtual 110, 3) := by decide +kernel
theorem dX9_key_31 : decode cX9_key 31 = .ok (.ireturn, 1) := by decide +kernel
theorem dX9_key_32 : decode cX9_key 32 = .ok (.aload_n 0, 1) := by decide +kernel
theorem dX9_key_33 : decode cX9_key 33 = .ok (.getfield 146, 3) := by decide +kernel
theorem dX9_key_36 : decode cX9_key 36 = .ok (.bipush 6, 2) := by decide +kernel
theorem dX9_key_38 : decode cX9_key 38 = .ok (.if_icmp .ne 10, 3) := by decide +kernel
theorem dX9_key_41 : decode cX9_key 41 = .ok (.aload_n 0, 1) := by decide +kernel
theorem dX9_key_42 : decode cX9_key 42 = .ok (.ldc 114, 2) := by decide +kernel
theorem dX9_key_44 : decode cX9_key 44 = .ok (.invokevirtual 110, 3) := by decide +kernel
theorem dX9_key_47 : decode cX9_key 47 = .ok (.ireturn, 1) := by decide +kernel
theorem dX9_key_48 : decode cX9_key 48 = .ok (.aload_n 0, 1) := by decide +kernel
theorem dX9_key_49 : decode cX9_key 49 = .ok (.getfield 32, 3) := by decide +kernel
theorem dX9_key_52 : decode cX9_key 52 = .ok (.aload_n 0, 1) := by decide +kernel
theorem dX9_key_53 : decode cX9_key 53 = .ok (.getfield 146, 3) := by decide +kernel
theorem dX9_key_56 : decode cX9_key 56 = .ok (.iload_n 1, 1) := by decide +kernel
theorem dX9_key_57 : decode cX9_key 57 = .ok (.iastore, 1) := by decide +kernel
theorem dX9_key_58 : decode cX9_key 58 = .ok (.aload_n 0, 1) := by decide +kernel
theorem dX9_key_59 : decode cX9_key 59 = .ok (.dup, 1) := by decide +kernel
theorem dX9_key_60 : decode cX9_key 60 = .ok (.getfield 146, 3) := by decide +kernel
theorem dX9_key_63 : decode cX9_key 63 = .ok (.iconst 1, 1) := by decide +kernel
theorem dX9_key_64 : decode cX9_key 64 = .ok (.iadd, 1) := by decide +kernel
theorem dX9_key_65 : decode cX9_key 65 = .ok (.putfield 146, 3) := by decide +kernel
theorem dX9_key_68 : decode cX9_key 68 = .ok (.aload_n 0, 1) := by decide +kernel
theorem dX9_key_69 : decode cX9_key 69 = .ok (.getfield 146, 3) := by decide +kernel
theorem dX9_key_72 : decode cX9_key 72 = .ok (.ireturn, 1) := by decide +kernel
theorem dX9_noKeys_0 : decode cX9_noKeys 0 = .ok (.aload_n 0, 1) := by decide +kernel
theorem dX9_noKeys_1 : decode cX9_noKeys 1 = .ok (.getfield 146, 3) := by decide +kernel
theorem dX9_noKeys_4 : decode cX9_noKeys 4 = .ok (.istore_n 1, 1) := by decide +kernel
theorem dX9_noKeys_5 : decode cX9_noKeys 5 = .ok (.aload_n 0, 1) := by decide +kernel
theorem dX9_noKeys_6 : decode cX9_noKeys 6 = .ok (.iconst 0, 1) := by decide +kernel
theorem dX9_noKeys_7 : decode cX9_noKeys 7 = .ok (.putfield 146, 3) := by decide +kernel
theorem dX9_noKeys_10 : decode cX9_noKeys 10 = .ok (.iload_n 1, 1) := by decide +kernel
theorem dX9_noKeys_11 : decode cX9_noKeys 11 = .ok (.ireturn, 1) := by decide +kernel
theorem dX9_rank_0 : decode cX9_rank 0 = .ok (.aload_n 0, 1) := by decide +kernel
theorem dX9_rank_1 : decode cX9_rank 1 = .ok (.getfield 26, 3) := by decide +kernel
theorem dX9_rank_4 : decode cX9_rank 4 = .ok (.iload_n 2, 1) := by decide +kernel
theorem dX9_rank_5 : decode cX9_rank 5 = .ok (.iaload, 1) := by decide +kernel
theorem dX9_rank_6 : decode cX9_rank 6 = .ok (.istore_n 3, 1) := by decide +kernel
theorem dX9_rank_7 : decode cX9_rank 7 = .ok (.iload_n 1, 1) := by decide +kernel
theorem dX9_rank_8 : decode cX9_rank 8 = .ok (.tableswitch 153 1 8 #[48, 64, 80, 95, 102, 109, 120, 139], 48) := by decide +kernel
theorem dX9_rank_56 : decode cX9_rank 56 = .ok (.aload_n 0, 1) := by decide +kernel
theorem dX9_rank_57 : decode cX9_rank 57 = .ok (.getfield 29, 3) := by decide +kernel
theorem dX9_rank_60 : decode cX9_rank 60 = .ok (.iload_n 2, 1) := by decide +kernel
theorem dX9_rank_61 : decode cX9_rank 61 = .ok (.iaload, 1) := by decide +kernel
theorem dX9_rank_62 : decode cX9_rank 62 = .ok (.iconst 2, 1) := by decide +kernel
theorem dX9_rank_63 : decode cX9_rank 63 = .ok (.if_icmp .ne 7, 3) := by decide +kernel
theorem dX9_rank_66 : decode cX9_rank 66 = .ok (.iconst 0, 1) := by decide +kernel
theorem dX9_rank_67 : decode cX9_rank 67 = .ok (.goto 4, 3) := by decide +kernel
theorem dX9_rank_70 : decode cX9_rank 70 = .ok (.iconst 1, 1) := by decide +kernel
theorem dX9_rank_71 : decode cX9_rank 71 = .ok (.ireturn, 1) := by decide +kernel
theorem dX9_rank_72 : decode cX9_rank 72 = .ok (.aload_n 0, 1) := by decide +kernel
theorem dX9_rank_73 : decode cX9_rank 73 = .ok (.getfield 29, 3) := by decide +kernel
theorem dX9_rank_76 : decode cX9_rank 76 = .ok (.iload_n 2, 1) := by decide +kernel
theorem dX9_rank_77 : decode cX9_rank 77 = .ok (.iaload, 1) := by decide +kernel
theorem dX9_rank_78 : decode cX9_rank 78 = .ok (.iconst 1, 1) := by decide +kernel
theorem dX9_rank_79 : decode cX9_rank 79 = .ok (.if_icmp .ne 7, 3) := by decide +kernel
theorem dX9_rank_82 : decode cX9_rank 82 = .ok (.iconst 0, 1) := by decide +kernel
theorem dX9_rank_83 : decode cX9_rank 83 = .ok (.goto 4, 3) := by decide +kernel
theorem dX9_rank_86 : decode cX9_rank 86 = .ok (.iconst 1, 1) := by decide +kernel
theorem dX9_rank_87 : decode cX9_rank 87 = .ok (.ireturn, 1) := by decide +kernel
theorem dX9_rank_88 : decode cX9_rank 88 = .ok (.aload_n 0, 1) := by decide +kernel
theorem dX9_rank_89 : decode cX9_rank 89 = .ok (.getfield 23, 3) := by decide +kernel
theorem dX9_rank_92 : decode cX9_rank 92 = .ok (.iload_n 3, 1) := by decide +kernel
theorem dX9_rank_93 : decode cX9_rank 93 = .ok (.iaload, 1) := by decide +kernel
theorem dX9_rank_94 : decode cX9_rank 94 = .ok (.ifCond .ne 7, 3) := by decide +kernel
theorem dX9_rank_97 : decode cX9_rank 97 = .ok (.iconst 0, 1) := by decide +kernel
theorem dX9_rank_98 : decode cX9_rank 98 = .ok (.goto 4, 3) := by decide +kernel
theorem dX9_rank_101 : decode cX9_rank 101 = .ok (.iconst 1, 1) := by decide +kernel
theorem dX9_rank_102 : decode cX9_rank 102 = .ok (.ireturn, 1) := by decide +kernel
theorem dX9_rank_103 : decode cX9_rank 103 = .ok (.aload_n 0, 1) := by decide +kernel
theorem dX9_rank_104 : decode cX9_rank 104 = .ok (.getfield 23, 3) := by decide +kernel
theorem dX9_rank_107 : decode cX9_rank 107 = .ok (.iload_n 3, 1) := by decide +kernel
theorem dX9_rank_108 : decode cX9_rank 108 = .ok (.iaload, 1) := by decide +kernel
theorem dX9_rank_109 : decode cX9_rank 109 = .ok (.ireturn, 1) := by decide +kernel
theorem dX9_rank_110 : decode cX9_rank 110 = .ok (.aload_n 0, 1) := by decide +kernel
theorem dX9_rank_111 : decode cX9_rank 111 = .ok (.getfield 20, 3) := by decide +kernel
theorem dX9_rank_114 : decode cX9_rank 114 = .ok (.iload_n 3, 1) := by decide +kernel
theorem dX9_rank_115 : decode cX9_rank 115 = .ok (.iaload, 1) := by decide +kernel
theorem dX9_rank_116 : decode cX9_rank 116 = .ok (.ireturn, 1) := by decide +kernel
theorem dX9_rank_117 : decode cX9_rank 117 = .ok (.aload_n 0, 1) := by decide +kernel
theorem dX9_rank_118 : decode cX9_rank 118 = .ok (.aload_n 0, 1) := by decide +kernel
theorem dX9_rank_119 : decode cX9_rank 119 = .ok (.getfield 13, 3) := by decide +kernel
theorem dX9_rank_122 : decode cX9_rank 122 = .ok (.iload_n 3, 1) := by decide +kernel
theorem dX9_rank_123 : decode cX9_rank 123 = .ok (.iaload, 1) := by decide +kernel
theorem dX9_rank_124 : decode cX9_rank 124 = .ok (.invokevirtual 123, 3) := by decide +kernel
theorem dX9_rank_127 : decode cX9_rank 127 = .ok (.ireturn, 1) := by decide +kernel
theorem dX9_rank_128 : decode cX9_rank 128 = .ok (.aload_n 0, 1) := by decide +kernel
theorem dX9_rank_129 : decode cX9_rank 129 = .ok (.getfield 13, 3) := by decide +kernel
theorem dX9_rank_132 : decode cX9_rank 132 = .ok (.iload_n 3, 1) := by decide +kernel
theorem dX9_rank_133 : decode cX9_rank 133 = .ok (.iaload, 1) := by decide +kernel
theorem dX9_rank_134 : decode cX9_rank 134 = .ok (.aload_n 0, 1) := by decide +kernel
theorem dX9_rank_135 : decode cX9_rank 135 = .ok (.getfield 35, 3) := by decide +kernel
theorem dX9_rank_138 : decode cX9_rank 138 = .ok (.if_icmp .ne 7, 3) := by decide +kernel
theorem dX9_rank_141 : decode cX9_rank 141 = .ok (.iconst 1, 1) := by decide +kernel
theorem dX9_rank_142 : decode cX9_rank 142 = .ok (.goto 4, 3) := by decide +kernel
theorem dX9_rank_145 : decode cX9_rank 145 = .ok (.iconst 0, 1) := by decide +kernel
theorem dX9_rank_146 : decode cX9_rank 146 = .ok (.ireturn, 1) := by decide +kernel
theorem dX9_rank_147 : decode cX9_rank 147 = .ok (.aload_n 0, 1) := by decide +kernel
theorem dX9_rank_148 : decode cX9_rank 148 = .ok (.iload_n 3, 1) := by decide +kernel
theorem dX9_rank_149 : decode cX9_rank 149 = .ok (.invokevirtual 119, 3) := by decide +kernel
theorem dX9_rank_152 : decode cX9_rank 152 = .ok (.ifCond .eq 7, 3) := by decide +kernel
theorem dX9_rank_155 : decode cX9_rank 155 = .ok (.iconst 1, 1) := by decide +kernel
theorem dX9_rank_156 : decode cX9_rank 156 = .ok (.goto 4, 3) := by decide +kernel
theorem dX9_rank_159 : decode cX9_rank 159 = .ok (.iconst 0, 1) := by decide +kernel
theorem dX9_rank_160 : decode cX9_rank 160 = .ok (.ireturn, 1) := by decide +kernel
theorem dX9_rank_161 : decode cX9_rank 161 = .ok (.aload_n 0, 1) := by decide +kernel
theorem dX9_rank_162 : decode cX9_rank 162 = .ok (.getfield 7, 3) := by decide +kernel
theorem dX9_rank_165 : decode cX9_rank 165 = .ok (.iload_n 3, 1) := by decide +kernel
theorem dX9_rank_166 : decode cX9_rank 166 = .ok (.iaload, 1) := by decide +kernel
theorem dX9_rank_167 : decode cX9_rank 167 = .ok (.iconst 2, 1) := by decide +kernel
theorem dX9_rank_168 : decode cX9_rank 168 = .ok (.if_icmp .ne 7, 3) := by decide +kernel
theorem dX9_rank_171 : decode cX9_rank 171 = .ok (.iconst 0, 1) := by decide +kernel
theorem dX9_rank_172 : decode cX9_rank 172 = .ok (.goto 4, 3) := by decide +kernel
theorem dX9_rank_175 : decode cX9_rank 175 = .ok (.iconst 1, 1) := by decide +kernel
theorem dX9_rank_176 : decode cX9_rank 176 = .ok (.ireturn, 1) := by decide +kernel
theorem dX9_isAhead_0 : decode cX9_isAhead 0 = .ok (.iconst 0, 1) := by decide +kernel
theorem dX9_isAhead_1 : decode cX9_isAhead 1 = .ok (.istore_n 3, 1) := by decide +kernel
theorem dX9_isAhead_2 : decode cX9_isAhead 2 = .ok (.iload_n 3, 1) := by decide +kernel
theorem dX9_isAhead_3 : decode cX9_isAhead 3 = .ok (.aload_n 0, 1) := by decide +kernel
theorem dX9_isAhead_4 : decode cX9_isAhead 4 = .ok (.getfield 146, 3) := by decide +kernel
theorem dX9_isAhead_7 : decode cX9_isAhead 7 = .ok (.if_icmp .ge 55, 3) := by decide +kernel
theorem dX9_isAhead_10 : decode cX9_isAhead 10 = .ok (.aload_n 0, 1) := by decide +kernel
theorem dX9_isAhead_11 : decode cX9_isAhead 11 = .ok (.aload_n 0, 1) := by decide +kernel
theorem dX9_isAhead_12 : decode cX9_isAhead 12 = .ok (.getfield 32, 3) := by decide +kernel
theorem dX9_isAhead_15 : decode cX9_isAhead 15 = .ok (.iload_n 3, 1) := by decide +kernel
theorem dX9_isAhead_16 : decode cX9_isAhead 16 = .ok (.iaload, 1) := by decide +kernel
theorem dX9_isAhead_17 : decode cX9_isAhead 17 = .ok (.iload_n 1, 1) := by decide +kernel
theorem dX9_isAhead_18 : decode cX9_isAhead 18 = .ok (.invokevirtual 152, 3) := by decide +kernel
theorem dX9_isAhead_21 : decode cX9_isAhead 21 = .ok (.istore 4, 2) := by decide +kernel
theorem dX9_isAhead_23 : decode cX9_isAhead 23 = .ok (.aload_n 0, 1) := by decide +kernel
theorem dX9_isAhead_24 : decode cX9_isAhead 24 = .ok (.aload_n 0, 1) := by decide +kernel
theorem dX9_isAhead_25 : decode cX9_isAhead 25 = .ok (.getfield 32, 3) := by decide +kernel
theorem dX9_isAhead_28 : decode cX9_isAhead 28 = .ok (.iload_n 3, 1) := by decide +kernel
theorem dX9_isAhead_29 : decode cX9_isAhead 29 = .ok (.iaload, 1) := by decide +kernel
theorem dX9_isAhead_30 : decode cX9_isAhead 30 = .ok (.iload_n 2, 1) := by decide +kernel
theorem dX9_isAhead_31 : decode cX9_isAhead 31 = .ok (.invokevirtual 152, 3) := by decide +kernel
theorem dX9_isAhead_34 : decode cX9_isAhead 34 = .ok (.istore 5, 2) := by decide +kernel
theorem dX9_isAhead_36 : decode cX9_isAhead 36 = .ok (.iload 4, 2) := by decide +kernel
theorem dX9_isAhead_38 : decode cX9_isAhead 38 = .ok (.iload 5, 2) := by decide +kernel
theorem dX9_isAhead_40 : decode cX9_isAhead 40 = .ok (.if_icmp .eq 16, 3) := by decide +kernel
theorem dX9_isAhead_43 : decode cX9_isAhead 43 = .ok (.iload 4, 2) := by decide +kernel
theorem dX9_isAhead_45 : decode cX9_isAhead 45 = .ok (.iload 5, 2) := by decide +kernel
theorem dX9_isAhead_47 : decode cX9_isAhead 47 = .ok (.if_icmp .ge 7, 3) := by decide +kernel
theorem dX9_isAhead_50 : decode cX9_isAhead 50 = .ok (.iconst 1, 1) := by decide +kernel
theorem dX9_isAhead_51 : decode cX9_isAhead 51 = .ok (.goto 4, 3) := by decide +kernel
theorem dX9_isAhead_54 : decode cX9_isAhead 54 = .ok (.iconst 0, 1) := by decide +kernel
theorem dX9_isAhead_55 : decode cX9_isAhead 55 = .ok (.ireturn, 1) := by decide +kernel
theorem dX9_isAhead_56 : decode cX9_isAhead 56 = .ok (.iinc 3 1, 3) := by decide +kernel
theorem dX9_isAhead_59 : decode cX9_isAhead 59 = .ok (.goto (-57), 3) := by decide +kernel
theorem dX9_isAhead_62 : decode cX9_isAhead 62 = .ok (.iload_n 1, 1) := by decide +kernel
theorem dX9_isAhead_63 : decode cX9_isAhead 63 = .ok (.iload_n 2, 1) := by decide +kernel
theorem dX9_isAhead_64 : decode cX9_isAhead 64 = .ok (.if_icmp .ge 7, 3) := by decide +kernel
theorem dX9_isAhead_67 : decode cX9_isAhead 67 = .ok (.iconst 1, 1) := by decide +kernel
theorem dX9_isAhead_68 : decode cX9_isAhead 68 = .ok (.goto 4, 3) := by decide +kernel
theorem dX9_isAhead_71 : decode cX9_isAhead 71 = .ok (.iconst 0, 1) := by decide +kernel
theorem dX9_isAhead_72 : decode cX9_isAhead 72 = .ok (.ireturn, 1) := by decide +kernel
theorem dX9_tellList_0 : decode cX9_tellList 0 = .ok (.aload_n 0, 1) := by decide +kernel
theorem dX9_tellList_1 : decode cX9_tellList 1 = .ok (.iconst 0, 1) := by decide +kernel
theorem dX9_tellList_2 : decode cX9_tellList 2 = .ok (.putfield 155, 3) := by decide +kernel
theorem dX9_tellList_5 : decode cX9_tellList 5 = .ok (.iconst 0, 1) := by decide +kernel
theorem dX9_tellList_6 : decode cX9_tellList 6 = .ok (.istore_n 1, 1) := by decide +kernel
theorem dX9_tellList_7 : decode cX9_tellList 7 = .ok (.iload_n 1, 1) := by decide +kernel
theorem dX9_tellList_8 : decode cX9_tellList 8 = .ok (.aload_n 0, 1) := by decide +kernel
theorem dX9_tellList_9 : decode cX9_tellList 9 = .ok (.getfield 126, 3) := by decide +kernel
theorem dX9_tellList_12 : decode cX9_tellList 12 = .ok (.if_icmp .ge 85, 3) := by decide +kernel
theorem dX9_tellList_15 : decode cX9_tellList 15 = .ok (.aload_n 0, 1) := by decide +kernel
theorem dX9_tellList_16 : decode cX9_tellList 16 = .ok (.getfield 16, 3) := by decide +kernel
theorem dX9_tellList_19 : decode cX9_tellList 19 = .ok (.aload_n 0, 1) := by decide +kernel
theorem dX9_tellList_20 : decode cX9_tellList 20 = .ok (.getfield 26, 3) := by decide +kernel
theorem dX9_tellList_23 : decode cX9_tellList 23 = .ok (.iload_n 1, 1) := by decide +kernel
theorem dX9_tellList_24 : decode cX9_tellList 24 = .ok (.iaload, 1) := by decide +kernel
theorem dX9_tellList_25 : decode cX9_tellList 25 = .ok (.baload, 1) := by decide +kernel
theorem dX9_tellList_26 : decode cX9_tellList 26 = .ok (.ifCond .eq 65, 3) := by decide +kernel
theorem dX9_tellList_29 : decode cX9_tellList 29 = .ok (.aload_n 0, 1) := by decide +kernel
theorem dX9_tellList_30 : decode cX9_tellList 30 = .ok (.getfield 155, 3) := by decide +kernel
theorem dX9_tellList_33 : decode cX9_tellList 33 = .ok (.istore_n 2, 1) := by decide +kernel
theorem dX9_tellList_34 : decode cX9_tellList 34 = .ok (.iload_n 2, 1) := by decide +kernel
theorem dX9_tellList_35 : decode cX9_tellList 35 = .ok (.ifCond .le 39, 3) := by decide +kernel
theorem dX9_tellList_38 : decode cX9_tellList 38 = .ok (.aload_n 0, 1) := by decide +kernel
theorem dX9_tellList_39 : decode cX9_tellList 39 = .ok (.iload_n 1, 1) := by decide +kernel
theorem dX9_tellList_40 : decode cX9_tellList 40 = .ok (.aload_n 0, 1) := by decide +kernel
theorem dX9_tellList_41 : decode cX9_tellList 41 = .ok (.getfield 81, 3) := by decide +kernel
theorem dX9_tellList_44 : decode cX9_tellList 44 = .ok (.iload_n 2, 1) := by decide +kernel
theorem dX9_tellList_45 : decode cX9_tellList 45 = .ok (.iconst 1, 1) := by decide +kernel
theorem dX9_tellList_46 : decode cX9_tellList 46 = .ok (.isub, 1) := by decide +kernel
theorem dX9_tellList_47 : decode cX9_tellList 47 = .ok (.iaload, 1) := by decide +kernel
theorem dX9_tellList_48 : decode cX9_tellList 48 = .ok (.invokevirtual 158, 3) := by decide +kernel
theorem dX9_tellList_51 : decode cX9_tellList 51 = .ok (.ifCond .eq 23, 3) := by decide +kernel
theorem dX9_tellList_54 : decode cX9_tellList 54 = .ok (.aload_n 0, 1) := by decide +kernel
theorem dX9_tellList_55 : decode cX9_tellList 55 = .ok (.getfield 81, 3) := by decide +kernel
theorem dX9_tellList_58 : decode cX9_tellList 58 = .ok (.iload_n 2, 1) := by decide +kernel
theorem dX9_tellList_59 : decode cX9_tellList 59 = .ok (.aload_n 0, 1) := by decide +kernel
theorem dX9_tellList_60 : decode cX9_tellList 60 = .ok (.getfield 81, 3) := by decide +kernel
theorem dX9_tellList_63 : decode cX9_tellList 63 = .ok (.iload_n 2, 1) := by decide +kernel
theorem dX9_tellList_64 : decode cX9_tellList 64 = .ok (.iconst 1, 1) := by decide +kernel
theorem dX9_tellList_65 : decode cX9_tellList 65 = .ok (.isub, 1) := by decide +kernel
theorem dX9_tellList_66 : decode cX9_tellList 66 = .ok (.iaload, 1) := by decide +kernel
theorem dX9_tellList_67 : decode cX9_tellList 67 = .ok (.iastore, 1) := by decide +kernel
theorem dX9_tellList_68 : decode cX9_tellList 68 = .ok (.iinc 2 (-1), 3) := by decide +kernel
theorem dX9_tellList_71 : decode cX9_tellList 71 = .ok (.goto (-37), 3) := by decide +kernel
theorem dX9_tellList_74 : decode cX9_tellList 74 = .ok (.aload_n 0, 1) := by decide +kernel
theorem dX9_tellList_75 : decode cX9_tellList 75 = .ok (.getfield 81, 3) := by decide +kernel
theorem dX9_tellList_78 : decode cX9_tellList 78 = .ok (.iload_n 2, 1) := by decide +kernel
theorem dX9_tellList_79 : decode cX9_tellList 79 = .ok (.iload_n 1, 1) := by decide +kernel
theorem dX9_tellList_80 : decode cX9_tellList 80 = .ok (.iastore, 1) := by decide +kernel
theorem dX9_tellList_81 : decode cX9_tellList 81 = .ok (.aload_n 0, 1) := by decide +kernel
theorem dX9_tellList_82 : decode cX9_tellList 82 = .ok (.dup, 1) := by decide +kernel
theorem dX9_tellList_83 : decode cX9_tellList 83 = .ok (.getfield 155, 3) := by decide +kernel
theorem dX9_tellList_86 : decode cX9_tellList 86 = .ok (.iconst 1, 1) := by decide +kernel
theorem dX9_tellList_87 : decode cX9_tellList 87 = .ok (.iadd, 1) := by decide +kernel
theorem dX9_tellList_88 : decode cX9_tellList 88 = .ok (.putfield 155, 3) := by decide +kernel
theorem dX9_tellList_91 : decode cX9_tellList 91 = .ok (.iinc 1 1, 3) := by decide +kernel
theorem dX9_tellList_94 : decode cX9_tellList 94 = .ok (.goto (-87), 3) := by decide +kernel
theorem dX9_tellList_97 : decode cX9_tellList 97 = .ok (.return_, 1) := by decide +kernel
theorem dX9_listed_0 : decode cX9_listed 0 = .ok (.aload_n 0, 1) := by decide +kernel
theorem dX9_listed_1 : decode cX9_listed 1 = .ok (.invokevirtual 162, 3) := by decide +kernel
theorem dX9_listed_4 : decode cX9_listed 4 = .ok (.iload_n 1, 1) := by decide +kernel
theorem dX9_listed_5 : decode cX9_listed 5 = .ok (.ifCond .lt 11, 3) := by decide +kernel
theorem dX9_listed_8 : decode cX9_listed 8 = .ok (.iload_n 1, 1) := by decide +kernel
theorem dX9_listed_9 : decode cX9_listed 9 = .ok (.aload_n 0, 1) := by decide +kernel
theorem dX9_listed_10 : decode cX9_listed 10 = .ok (.getfield 155, 3) := by decide +kernel
theorem dX9_listed_13 : decode cX9_listed 13 = .ok (.if_icmp .lt 10, 3) := by decide +kernel
theorem dX9_listed_16 : decode cX9_listed 16 = .ok (.aload_n 0, 1) := by decide +kernel
theorem dX9_listed_17 : decode cX9_listed 17 = .ok (.ldc 141, 2) := by decide +kernel
theorem dX9_listed_19 : decode cX9_listed 19 = .ok (.invokevirtual 110, 3) := by decide +kernel
theorem dX9_listed_22 : decode cX9_listed 22 = .ok (.ireturn, 1) := by decide +kernel
theorem dX9_listed_23 : decode cX9_listed 23 = .ok (.iload_n 2, 1) := by decide +kernel
theorem dX9_listed_24 : decode cX9_listed 24 = .ok (.ifCond .eq 17, 3) := by decide +kernel
theorem dX9_listed_27 : decode cX9_listed 27 = .ok (.aload_n 0, 1) := by decide +kernel
theorem dX9_listed_28 : decode cX9_listed 28 = .ok (.getfield 29, 3) := by decide +kernel
theorem dX9_listed_31 : decode cX9_listed 31 = .ok (.aload_n 0, 1) := by decide +kernel
theorem dX9_listed_32 : decode cX9_listed 32 = .ok (.getfield 81, 3) := by decide +kernel
theorem dX9_listed_35 : decode cX9_listed 35 = .ok (.iload_n 1, 1) := by decide +kernel
theorem dX9_listed_36 : decode cX9_listed 36 = .ok (.iaload, 1) := by decide +kernel
theorem dX9_listed_37 : decode cX9_listed 37 = .ok (.iaload, 1) := by decide +kernel
theorem dX9_listed_38 : decode cX9_listed 38 = .ok (.goto 14, 3) := by decide +kernel
theorem dX9_listed_41 : decode cX9_listed 41 = .ok (.aload_n 0, 1) := by decide +kernel
theorem dX9_listed_42 : decode cX9_listed 42 = .ok (.getfield 26, 3) := by decide +kernel
theorem dX9_listed_45 : decode cX9_listed 45 = .ok (.aload_n 0, 1) := by decide +kernel
theorem dX9_listed_46 : decode cX9_listed 46 = .ok (.getfield 81, 3) := by decide +kernel
theorem dX9_listed_49 : decode cX9_listed 49 = .ok (.iload_n 1, 1) := by decide +kernel
theorem dX9_listed_50 : decode cX9_listed 50 = .ok (.iaload, 1) := by decide +kernel
theorem dX9_listed_51 : decode cX9_listed 51 = .ok (.iaload, 1) := by decide +kernel
theorem dX9_listed_52 : decode cX9_listed 52 = .ok (.ireturn, 1) := by decide +kernel
theorem dX9_place_0 : decode cX9_place 0 = .ok (.aload_n 0, 1) := by decide +kernel
theorem dX9_place_1 : decode cX9_place 1 = .ok (.iload_n 1, 1) := by decide +kernel
theorem dX9_place_2 : decode cX9_place 2 = .ok (.invokevirtual 115, 3) := by decide +kernel
theorem dX9_place_5 : decode cX9_place 5 = .ok (.ifCond .eq 10, 3) := by decide +kernel
theorem dX9_place_8 : decode cX9_place 8 = .ok (.iload_n 2, 1) := by decide +kernel
theorem dX9_place_9 : decode cX9_place 9 = .ok (.invokestatic 129, 3) := by decide +kernel
theorem dX9_place_12 : decode cX9_place 12 = .ok (.ifCond .ne 10, 3) := by decide +kernel
theorem dX9_place_15 : decode cX9_place 15 = .ok (.aload_n 0, 1) := by decide +kernel
theorem dX9_place_16 : decode cX9_place 16 = .ok (.ldc 109, 2) := by decide +kernel
theorem dX9_place_18 : decode cX9_place 18 = .ok (.invokevirtual 110, 3) := by decide +kernel
theorem dX9_place_21 : decode cX9_place 21 = .ok (.ireturn, 1) := by decide +kernel
theorem dX9_place_22 : decode cX9_place 22 = .ok (.aload_n 0, 1) := by decide +kernel
theorem dX9_place_23 : decode cX9_place 23 = .ok (.invokevirtual 162, 3) := by decide +kernel
theorem dX9_place_26 : decode cX9_place 26 = .ok (.iconst 0, 1) := by decide +kernel
theorem dX9_place_27 : decode cX9_place 27 = .ok (.istore_n 3, 1) := by decide +kernel
theorem dX9_place_28 : decode cX9_place 28 = .ok (.iload_n 3, 1) := by decide +kernel
theorem dX9_place_29 : decode cX9_place 29 = .ok (.aload_n 0, 1) := by decide +kernel
theorem dX9_place_30 : decode cX9_place 30 = .ok (.getfield 155, 3) := by decide +kernel
theorem dX9_place_33 : decode cX9_place 33 = .ok (.if_icmp .ge 41, 3) := by decide +kernel
theorem dX9_place_36 : decode cX9_place 36 = .ok (.aload_n 0, 1) := by decide +kernel
theorem dX9_place_37 : decode cX9_place 37 = .ok (.getfield 26, 3) := by decide +kernel
theorem dX9_place_40 : decode cX9_place 40 = .ok (.aload_n 0, 1) := by decide +kernel
theorem dX9_place_41 : decode cX9_place 41 = .ok (.getfield 81, 3) := by decide +kernel
theorem dX9_place_44 : decode cX9_place 44 = .ok (.iload_n 3, 1) := by decide +kernel
theorem dX9_place_45 : decode cX9_place 45 = .ok (.iaload, 1) := by decide +kernel
theorem dX9_place_46 : decode cX9_place 46 = .ok (.iaload, 1) := by decide +kernel
theorem dX9_place_47 : decode cX9_place 47 = .ok (.iload_n 1, 1) := by decide +kernel
theorem dX9_place_48 : decode cX9_place 48 = .ok (.if_icmp .ne 20, 3) := by decide +kernel
theorem dX9_place_51 : decode cX9_place 51 = .ok (.aload_n 0, 1) := by decide +kernel
theorem dX9_place_52 : decode cX9_place 52 = .ok (.getfield 29, 3) := by decide +kernel
theorem dX9_place_55 : decode cX9_place 55 = .ok (.aload_n 0, 1) := by decide +kernel
theorem dX9_place_56 : decode cX9_place 56 = .ok (.getfield 81, 3) := by decide +kernel
theorem dX9_place_59 : decode cX9_place 59 = .ok (.iload_n 3, 1) := by decide +kernel
theorem dX9_place_60 : decode cX9_place 60 = .ok (.iaload, 1) := by decide +kernel
theorem dX9_place_61 : decode cX9_place 61 = .ok (.iaload, 1) := by decide +kernel
theorem dX9_place_62 : decode cX9_place 62 = .ok (.iload_n 2, 1) := by decide +kernel
theorem dX9_place_63 : decode cX9_place 63 = .ok (.if_icmp .ne 5, 3) := by decide +kernel
theorem dX9_place_66 : decode cX9_place 66 = .ok (.iload_n 3, 1) := by decide +kernel
theorem dX9_place_67 : decode cX9_place 67 = .ok (.ireturn, 1) := by decide +kernel
theorem dX9_place_68 : decode cX9_place 68 = .ok (.iinc 3 1, 3) := by decide +kernel
theorem dX9_place_71 : decode cX9_place 71 = .ok (.goto (-43), 3) := by decide +kernel
theorem dX9_place_74 : decode cX9_place 74 = .ok (.aload_n 0, 1) := by decide +kernel
theorem dX9_place_75 : decode cX9_place 75 = .ok (.ldc 141, 2) := by decide +kernel
theorem dX9_place_77 : decode cX9_place 77 = .ok (.invokevirtual 110, 3) := by decide +kernel
theorem dX9_place_80 : decode cX9_place 80 = .ok (.ireturn, 1) := by decide +kernel
theorem dX9_firstOf_0 : decode cX9_firstOf 0 = .ok (.aload_n 0, 1) := by decide +kernel
theorem dX9_firstOf_1 : decode cX9_firstOf 1 = .ok (.invokevirtual 162, 3) := by decide +kernel
theorem dX9_firstOf_4 : decode cX9_firstOf 4 = .ok (.iconst 0, 1) := by decide +kernel
theorem dX9_firstOf_5 : decode cX9_firstOf 5 = .ok (.istore_n 2, 1) := by decide +kernel
theorem dX9_firstOf_6 : decode cX9_firstOf 6 = .ok (.iload_n 2, 1) := by decide +kernel
theorem dX9_firstOf_7 : decode cX9_firstOf 7 = .ok (.aload_n 0, 1) := by decide +kernel
theorem dX9_firstOf_8 : decode cX9_firstOf 8 = .ok (.getfield 155, 3) := by decide +kernel
theorem dX9_firstOf_11 : decode cX9_firstOf 11 = .ok (.if_icmp .ge 31, 3) := by decide +kernel
theorem dX9_firstOf_14 : decode cX9_firstOf 14 = .ok (.aload_n 0, 1) := by decide +kernel
theorem dX9_firstOf_15 : decode cX9_firstOf 15 = .ok (.getfield 29, 3) := by decide +kernel
theorem dX9_firstOf_18 : decode cX9_firstOf 18 = .ok (.aload_n 0, 1) := by decide +kernel
theorem dX9_firstOf_19 : decode cX9_firstOf 19 = .ok (.getfield 81, 3) := by decide +kernel
theorem dX9_firstOf_22 : decode cX9_firstOf 22 = .ok (.iload_n 2, 1) := by decide +kernel
theorem dX9_firstOf_23 : decode cX9_firstOf 23 = .ok (.iaload, 1) := by decide +kernel
theorem dX9_firstOf_24 : decode cX9_firstOf 24 = .ok (.iaload, 1) := by decide +kernel
theorem dX9_firstOf_25 : decode cX9_firstOf 25 = .ok (.iload_n 1, 1) := by decide +kernel
theorem dX9_firstOf_26 : decode cX9_firstOf 26 = .ok (.if_icmp .ne 10, 3) := by decide +kernel
theorem dX9_firstOf_29 : decode cX9_firstOf 29 = .ok (.aload_n 0, 1) := by decide +kernel
theorem dX9_firstOf_30 : decode cX9_firstOf 30 = .ok (.getfield 81, 3) := by decide +kernel
theorem dX9_firstOf_33 : decode cX9_firstOf 33 = .ok (.iload_n 2, 1) := by decide +kernel
theorem dX9_firstOf_34 : decode cX9_firstOf 34 = .ok (.iaload, 1) := by decide +kernel
theorem dX9_firstOf_35 : decode cX9_firstOf 35 = .ok (.ireturn, 1) := by decide +kernel
theorem dX9_firstOf_36 : decode cX9_firstOf 36 = .ok (.iinc 2 1, 3) := by decide +kernel
theorem dX9_firstOf_39 : decode cX9_firstOf 39 = .ok (.goto (-33), 3) := by decide +kernel
theorem dX9_firstOf_42 : decode cX9_firstOf 42 = .ok (.iconst (-1), 1) := by decide +kernel
theorem dX9_firstOf_43 : decode cX9_firstOf 43 = .ok (.ireturn, 1) := by decide +kernel
theorem dX9_limitOf_0 : decode cX9_limitOf 0 = .ok (.aload_n 0, 1) := by decide +kernel
theorem dX9_limitOf_1 : decode cX9_limitOf 1 = .ok (.getfield 7, 3) := by decide +kernel
theorem dX9_limitOf_4 : decode cX9_limitOf 4 = .ok (.iload_n 1, 1) := by decide +kernel
theorem dX9_limitOf_5 : decode cX9_limitOf 5 = .ok (.iaload, 1) := by decide +kernel
theorem dX9_limitOf_6 : decode cX9_limitOf 6 = .ok (.iconst 3, 1) := by decide +kernel
theorem dX9_limitOf_7 : decode cX9_limitOf 7 = .ok (.if_icmp .ne 14, 3) := by decide +kernel
