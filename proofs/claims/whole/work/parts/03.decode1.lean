theorem dX7_drop_68 : decode cX7_drop 68 = .ok (.putfield 27, 3) := by decide +kernel
theorem dX7_drop_71 : decode cX7_drop 71 = .ok (.return_, 1) := by decide +kernel
theorem dX7_take_0 : decode cX7_take 0 = .ok (.aload_n 0, 1) := by decide +kernel
theorem dX7_take_1 : decode cX7_take 1 = .ok (.iload_n 1, 1) := by decide +kernel
theorem dX7_take_2 : decode cX7_take 2 = .ok (.invokevirtual 46, 3) := by decide +kernel
theorem dX7_take_5 : decode cX7_take 5 = .ok (.istore_n 2, 1) := by decide +kernel
theorem dX7_take_6 : decode cX7_take 6 = .ok (.aload_n 0, 1) := by decide +kernel
theorem dX7_take_7 : decode cX7_take 7 = .ok (.iload_n 1, 1) := by decide +kernel
theorem dX7_take_8 : decode cX7_take 8 = .ok (.invokevirtual 50, 3) := by decide +kernel
theorem dX7_take_11 : decode cX7_take 11 = .ok (.ifCond .ne 18, 3) := by decide +kernel
theorem dX7_take_14 : decode cX7_take 14 = .ok (.aload_n 0, 1) := by decide +kernel
theorem dX7_take_15 : decode cX7_take 15 = .ok (.getfield 21, 3) := by decide +kernel
theorem dX7_take_18 : decode cX7_take 18 = .ok (.iload_n 2, 1) := by decide +kernel
theorem dX7_take_19 : decode cX7_take 19 = .ok (.aload_n 0, 1) := by decide +kernel
theorem dX7_take_20 : decode cX7_take 20 = .ok (.iload_n 2, 1) := by decide +kernel
theorem dX7_take_21 : decode cX7_take 21 = .ok (.invokevirtual 57, 3) := by decide +kernel
theorem dX7_take_24 : decode cX7_take 24 = .ok (.iconst 1, 1) := by decide +kernel
theorem dX7_take_25 : decode cX7_take 25 = .ok (.iadd, 1) := by decide +kernel
theorem dX7_take_26 : decode cX7_take 26 = .ok (.invokestatic 53, 3) := by decide +kernel
theorem dX7_take_29 : decode cX7_take 29 = .ok (.aload_n 0, 1) := by decide +kernel
theorem dX7_take_30 : decode cX7_take 30 = .ok (.aload_n 0, 1) := by decide +kernel
theorem dX7_take_31 : decode cX7_take 31 = .ok (.getfield 34, 3) := by decide +kernel
theorem dX7_take_34 : decode cX7_take 34 = .ok (.iload_n 2, 1) := by decide +kernel
theorem dX7_take_35 : decode cX7_take 35 = .ok (.invokevirtual 60, 3) := by decide +kernel
theorem dX7_take_38 : decode cX7_take 38 = .ok (.putfield 31, 3) := by decide +kernel
theorem dX7_take_41 : decode cX7_take 41 = .ok (.aload_n 0, 1) := by decide +kernel
theorem dX7_take_42 : decode cX7_take 42 = .ok (.iload_n 1, 1) := by decide +kernel
theorem dX7_take_43 : decode cX7_take 43 = .ok (.invokevirtual 65, 3) := by decide +kernel
theorem dX7_take_46 : decode cX7_take 46 = .ok (.return_, 1) := by decide +kernel
theorem dX7_addTime_0 : decode cX7_addTime 0 = .ok (.aload_n 0, 1) := by decide +kernel
theorem dX7_addTime_1 : decode cX7_addTime 1 = .ok (.getfield 34, 3) := by decide +kernel
theorem dX7_addTime_4 : decode cX7_addTime 4 = .ok (.iload_n 1, 1) := by decide +kernel
theorem dX7_addTime_5 : decode cX7_addTime 5 = .ok (.invokevirtual 60, 3) := by decide +kernel
theorem dX7_addTime_8 : decode cX7_addTime 8 = .ok (.istore_n 3, 1) := by decide +kernel
theorem dX7_addTime_9 : decode cX7_addTime 9 = .ok (.aload_n 0, 1) := by decide +kernel
theorem dX7_addTime_10 : decode cX7_addTime 10 = .ok (.getfield 18, 3) := by decide +kernel
theorem dX7_addTime_13 : decode cX7_addTime 13 = .ok (.iload_n 1, 1) := by decide +kernel
theorem dX7_addTime_14 : decode cX7_addTime 14 = .ok (.aload_n 0, 1) := by decide +kernel
theorem dX7_addTime_15 : decode cX7_addTime 15 = .ok (.iload_n 1, 1) := by decide +kernel
theorem dX7_addTime_16 : decode cX7_addTime 16 = .ok (.invokevirtual 69, 3) := by decide +kernel
theorem dX7_addTime_19 : decode cX7_addTime 19 = .ok (.iload_n 2, 1) := by decide +kernel
theorem dX7_addTime_20 : decode cX7_addTime 20 = .ok (.iadd, 1) := by decide +kernel
theorem dX7_addTime_21 : decode cX7_addTime 21 = .ok (.invokestatic 53, 3) := by decide +kernel
theorem dX7_addTime_24 : decode cX7_addTime 24 = .ok (.aload_n 0, 1) := by decide +kernel
theorem dX7_addTime_25 : decode cX7_addTime 25 = .ok (.getfield 24, 3) := by decide +kernel
theorem dX7_addTime_28 : decode cX7_addTime 28 = .ok (.iload_n 3, 1) := by decide +kernel
theorem dX7_addTime_29 : decode cX7_addTime 29 = .ok (.aload_n 0, 1) := by decide +kernel
theorem dX7_addTime_30 : decode cX7_addTime 30 = .ok (.iload_n 3, 1) := by decide +kernel
theorem dX7_addTime_31 : decode cX7_addTime 31 = .ok (.invokevirtual 72, 3) := by decide +kernel
theorem dX7_addTime_34 : decode cX7_addTime 34 = .ok (.iload_n 2, 1) := by decide +kernel
theorem dX7_addTime_35 : decode cX7_addTime 35 = .ok (.iadd, 1) := by decide +kernel
theorem dX7_addTime_36 : decode cX7_addTime 36 = .ok (.invokestatic 53, 3) := by decide +kernel
theorem dX7_addTime_39 : decode cX7_addTime 39 = .ok (.return_, 1) := by decide +kernel
theorem dX8_init_0 : decode cX8_init 0 = .ok (.aload_n 0, 1) := by decide +kernel
theorem dX8_init_1 : decode cX8_init 1 = .ok (.invokespecial 1, 3) := by decide +kernel
theorem dX8_init_4 : decode cX8_init 4 = .ok (.aload_n 0, 1) := by decide +kernel
theorem dX8_init_5 : decode cX8_init 5 = .ok (.new 7, 3) := by decide +kernel
theorem dX8_init_8 : decode cX8_init 8 = .ok (.dup, 1) := by decide +kernel
theorem dX8_init_9 : decode cX8_init 9 = .ok (.invokespecial 9, 3) := by decide +kernel
theorem dX8_init_12 : decode cX8_init 12 = .ok (.putfield 10, 3) := by decide +kernel
theorem dX8_init_15 : decode cX8_init 15 = .ok (.aload_n 0, 1) := by decide +kernel
theorem dX8_init_16 : decode cX8_init 16 = .ok (.new 16, 3) := by decide +kernel
theorem dX8_init_19 : decode cX8_init 19 = .ok (.dup, 1) := by decide +kernel
theorem dX8_init_20 : decode cX8_init 20 = .ok (.aload_n 0, 1) := by decide +kernel
theorem dX8_init_21 : decode cX8_init 21 = .ok (.getfield 10, 3) := by decide +kernel
theorem dX8_init_24 : decode cX8_init 24 = .ok (.invokespecial 18, 3) := by decide +kernel
theorem dX8_init_27 : decode cX8_init 27 = .ok (.putfield 21, 3) := by decide +kernel
theorem dX8_init_30 : decode cX8_init 30 = .ok (.aload_n 0, 1) := by decide +kernel
theorem dX8_init_31 : decode cX8_init 31 = .ok (.new 16, 3) := by decide +kernel
theorem dX8_init_34 : decode cX8_init 34 = .ok (.dup, 1) := by decide +kernel
theorem dX8_init_35 : decode cX8_init 35 = .ok (.aload_n 0, 1) := by decide +kernel
theorem dX8_init_36 : decode cX8_init 36 = .ok (.getfield 10, 3) := by decide +kernel
theorem dX8_init_39 : decode cX8_init 39 = .ok (.invokespecial 18, 3) := by decide +kernel
theorem dX8_init_42 : decode cX8_init 42 = .ok (.putfield 25, 3) := by decide +kernel
theorem dX8_init_45 : decode cX8_init 45 = .ok (.aload_n 0, 1) := by decide +kernel
theorem dX8_init_46 : decode cX8_init 46 = .ok (.new 28, 3) := by decide +kernel
theorem dX8_init_49 : decode cX8_init 49 = .ok (.dup, 1) := by decide +kernel
theorem dX8_init_50 : decode cX8_init 50 = .ok (.aload_n 0, 1) := by decide +kernel
theorem dX8_init_51 : decode cX8_init 51 = .ok (.getfield 10, 3) := by decide +kernel
theorem dX8_init_54 : decode cX8_init 54 = .ok (.invokespecial 30, 3) := by decide +kernel
theorem dX8_init_57 : decode cX8_init 57 = .ok (.putfield 31, 3) := by decide +kernel
theorem dX8_init_60 : decode cX8_init 60 = .ok (.aload_n 0, 1) := by decide +kernel
theorem dX8_init_61 : decode cX8_init 61 = .ok (.new 35, 3) := by decide +kernel
theorem dX8_init_64 : decode cX8_init 64 = .ok (.dup, 1) := by decide +kernel
theorem dX8_init_65 : decode cX8_init 65 = .ok (.aload_n 0, 1) := by decide +kernel
theorem dX8_init_66 : decode cX8_init 66 = .ok (.getfield 10, 3) := by decide +kernel
theorem dX8_init_69 : decode cX8_init 69 = .ok (.aload_n 0, 1) := by decide +kernel
theorem dX8_init_70 : decode cX8_init 70 = .ok (.getfield 31, 3) := by decide +kernel
theorem dX8_init_73 : decode cX8_init 73 = .ok (.aload_n 0, 1) := by decide +kernel
theorem dX8_init_74 : decode cX8_init 74 = .ok (.getfield 21, 3) := by decide +kernel
theorem dX8_init_77 : decode cX8_init 77 = .ok (.invokespecial 37, 3) := by decide +kernel
theorem dX8_init_80 : decode cX8_init 80 = .ok (.putfield 40, 3) := by decide +kernel
theorem dX8_init_83 : decode cX8_init 83 = .ok (.aload_n 0, 1) := by decide +kernel
theorem dX8_init_84 : decode cX8_init 84 = .ok (.new 44, 3) := by decide +kernel
theorem dX8_init_87 : decode cX8_init 87 = .ok (.dup, 1) := by decide +kernel
theorem dX8_init_88 : decode cX8_init 88 = .ok (.invokespecial 46, 3) := by decide +kernel
theorem dX8_init_91 : decode cX8_init 91 = .ok (.putfield 47, 3) := by decide +kernel
theorem dX8_init_94 : decode cX8_init 94 = .ok (.aload_n 0, 1) := by decide +kernel
theorem dX8_init_95 : decode cX8_init 95 = .ok (.new 51, 3) := by decide +kernel
theorem dX8_init_98 : decode cX8_init 98 = .ok (.dup, 1) := by decide +kernel
theorem dX8_init_99 : decode cX8_init 99 = .ok (.aload_n 0, 1) := by decide +kernel
theorem dX8_init_100 : decode cX8_init 100 = .ok (.getfield 10, 3) := by decide +kernel
theorem dX8_init_103 : decode cX8_init 103 = .ok (.invokespecial 53, 3) := by decide +kernel
theorem dX8_init_106 : decode cX8_init 106 = .ok (.putfield 54, 3) := by decide +kernel
theorem dX8_init_109 : decode cX8_init 109 = .ok (.aload_n 0, 1) := by decide +kernel
theorem dX8_init_110 : decode cX8_init 110 = .ok (.new 58, 3) := by decide +kernel
theorem dX8_init_113 : decode cX8_init 113 = .ok (.dup, 1) := by decide +kernel
theorem dX8_init_114 : decode cX8_init 114 = .ok (.invokespecial 60, 3) := by decide +kernel
theorem dX8_init_117 : decode cX8_init 117 = .ok (.putfield 61, 3) := by decide +kernel
theorem dX8_init_120 : decode cX8_init 120 = .ok (.aload_n 0, 1) := by decide +kernel
theorem dX8_init_121 : decode cX8_init 121 = .ok (.iconst 4, 1) := by decide +kernel
theorem dX8_init_122 : decode cX8_init 122 = .ok (.anewarray 65, 3) := by decide +kernel
theorem dX8_init_125 : decode cX8_init 125 = .ok (.putfield 67, 3) := by decide +kernel
theorem dX8_init_128 : decode cX8_init 128 = .ok (.iconst 0, 1) := by decide +kernel
theorem dX8_init_129 : decode cX8_init 129 = .ok (.istore_n 1, 1) := by decide +kernel
theorem dX8_init_130 : decode cX8_init 130 = .ok (.iload_n 1, 1) := by decide +kernel
theorem dX8_init_131 : decode cX8_init 131 = .ok (.aload_n 0, 1) := by decide +kernel
theorem dX8_init_132 : decode cX8_init 132 = .ok (.getfield 67, 3) := by decide +kernel
theorem dX8_init_135 : decode cX8_init 135 = .ok (.arraylength, 1) := by decide +kernel
theorem dX8_init_136 : decode cX8_init 136 = .ok (.if_icmp .ge 22, 3) := by decide +kernel
theorem dX8_init_139 : decode cX8_init 139 = .ok (.aload_n 0, 1) := by decide +kernel
theorem dX8_init_140 : decode cX8_init 140 = .ok (.getfield 67, 3) := by decide +kernel
theorem dX8_init_143 : decode cX8_init 143 = .ok (.iload_n 1, 1) := by decide +kernel
theorem dX8_init_144 : decode cX8_init 144 = .ok (.new 65, 3) := by decide +kernel
theorem dX8_init_147 : decode cX8_init 147 = .ok (.dup, 1) := by decide +kernel
theorem dX8_init_148 : decode cX8_init 148 = .ok (.invokespecial 71, 3) := by decide +kernel
theorem dX8_init_151 : decode cX8_init 151 = .ok (.aastore, 1) := by decide +kernel
theorem dX8_init_152 : decode cX8_init 152 = .ok (.iinc 1 1, 3) := by decide +kernel
theorem dX8_init_155 : decode cX8_init 155 = .ok (.goto (-25), 3) := by decide +kernel
theorem dX8_init_158 : decode cX8_init 158 = .ok (.aload_n 0, 1) := by decide +kernel
theorem dX8_init_159 : decode cX8_init 159 = .ok (.iconst 0, 1) := by decide +kernel
theorem dX8_init_160 : decode cX8_init 160 = .ok (.putfield 72, 3) := by decide +kernel
theorem dX8_init_163 : decode cX8_init 163 = .ok (.return_, 1) := by decide +kernel
theorem dX8_member_0 : decode cX8_member 0 = .ok (.iload_n 1, 1) := by decide +kernel
theorem dX8_member_1 : decode cX8_member 1 = .ok (.iconst 0, 1) := by decide +kernel
theorem dX8_member_2 : decode cX8_member 2 = .ok (.iconst 3, 1) := by decide +kernel
theorem dX8_member_3 : decode cX8_member 3 = .ok (.invokestatic 76, 3) := by decide +kernel
theorem dX8_member_6 : decode cX8_member 6 = .ok (.ifCond .eq 12, 3) := by decide +kernel
theorem dX8_member_9 : decode cX8_member 9 = .ok (.iload_n 2, 1) := by decide +kernel
theorem dX8_member_10 : decode cX8_member 10 = .ok (.iconst 0, 1) := by decide +kernel
theorem dX8_member_11 : decode cX8_member 11 = .ok (.iconst 4, 1) := by decide +kernel
theorem dX8_member_12 : decode cX8_member 12 = .ok (.invokestatic 76, 3) := by decide +kernel
theorem dX8_member_15 : decode cX8_member 15 = .ok (.ifCond .ne 10, 3) := by decide +kernel
theorem dX8_member_18 : decode cX8_member 18 = .ok (.aload_n 0, 1) := by decide +kernel
theorem dX8_member_19 : decode cX8_member 19 = .ok (.ldc 80, 2) := by decide +kernel
theorem dX8_member_21 : decode cX8_member 21 = .ok (.invokevirtual 81, 3) := by decide +kernel
theorem dX8_member_24 : decode cX8_member 24 = .ok (.ireturn, 1) := by decide +kernel
theorem dX8_member_25 : decode cX8_member 25 = .ok (.aload_n 0, 1) := by decide +kernel
theorem dX8_member_26 : decode cX8_member 26 = .ok (.getfield 10, 3) := by decide +kernel
theorem dX8_member_29 : decode cX8_member 29 = .ok (.invokevirtual 85, 3) := by decide +kernel
theorem dX8_member_32 : decode cX8_member 32 = .ok (.bipush 10, 2) := by decide +kernel
theorem dX8_member_34 : decode cX8_member 34 = .ok (.if_icmp .lt 10, 3) := by decide +kernel
theorem dX8_member_37 : decode cX8_member 37 = .ok (.aload_n 0, 1) := by decide +kernel
theorem dX8_member_38 : decode cX8_member 38 = .ok (.ldc 89, 2) := by decide +kernel
theorem dX8_member_40 : decode cX8_member 40 = .ok (.invokevirtual 81, 3) := by decide +kernel
theorem dX8_member_43 : decode cX8_member 43 = .ok (.ireturn, 1) := by decide +kernel
theorem dX8_member_44 : decode cX8_member 44 = .ok (.aload_n 0, 1) := by decide +kernel
theorem dX8_member_45 : decode cX8_member 45 = .ok (.getfield 10, 3) := by decide +kernel
theorem dX8_member_48 : decode cX8_member 48 = .ok (.iload_n 1, 1) := by decide +kernel
theorem dX8_member_49 : decode cX8_member 49 = .ok (.iload_n 2, 1) := by decide +kernel
theorem dX8_member_50 : decode cX8_member 50 = .ok (.invokevirtual 90, 3) := by decide +kernel
theorem dX8_member_53 : decode cX8_member 53 = .ok (.ireturn, 1) := by decide +kernel
theorem dX8_as_0 : decode cX8_as 0 = .ok (.aload_n 0, 1) := by decide +kernel
theorem dX8_as_1 : decode cX8_as 1 = .ok (.getfield 10, 3) := by decide +kernel
theorem dX8_as_4 : decode cX8_as 4 = .ok (.iload_n 1, 1) := by decide +kernel
theorem dX8_as_5 : decode cX8_as 5 = .ok (.invokevirtual 94, 3) := by decide +kernel
theorem dX8_as_8 : decode cX8_as 8 = .ok (.ifCond .eq 12, 3) := by decide +kernel
theorem dX8_as_11 : decode cX8_as 11 = .ok (.iload_n 2, 1) := by decide +kernel
theorem dX8_as_12 : decode cX8_as 12 = .ok (.iconst 0, 1) := by decide +kernel
theorem dX8_as_13 : decode cX8_as 13 = .ok (.iconst 3, 1) := by decide +kernel
theorem dX8_as_14 : decode cX8_as 14 = .ok (.invokestatic 76, 3) := by decide +kernel
theorem dX8_as_17 : decode cX8_as 17 = .ok (.ifCond .ne 10, 3) := by decide +kernel
theorem dX8_as_20 : decode cX8_as 20 = .ok (.aload_n 0, 1) := by decide +kernel
theorem dX8_as_21 : decode cX8_as 21 = .ok (.ldc 80, 2) := by decide +kernel
theorem dX8_as_23 : decode cX8_as 23 = .ok (.invokevirtual 81, 3) := by decide +kernel
theorem dX8_as_26 : decode cX8_as 26 = .ok (.ireturn, 1) := by decide +kernel
theorem dX8_as_27 : decode cX8_as 27 = .ok (.aload_n 0, 1) := by decide +kernel
theorem dX8_as_28 : decode cX8_as 28 = .ok (.getfield 10, 3) := by decide +kernel
theorem dX8_as_31 : decode cX8_as 31 = .ok (.iload_n 1, 1) := by decide +kernel
theorem dX8_as_32 : decode cX8_as 32 = .ok (.iload_n 2, 1) := by decide +kernel
theorem dX8_as_33 : decode cX8_as 33 = .ok (.invokevirtual 98, 3) := by decide +kernel
theorem dX8_as_36 : decode cX8_as 36 = .ok (.ifCond .ne 10, 3) := by decide +kernel
theorem dX8_as_39 : decode cX8_as 39 = .ok (.aload_n 0, 1) := by decide +kernel
theorem dX8_as_40 : decode cX8_as 40 = .ok (.ldc 102, 2) := by decide +kernel
theorem dX8_as_42 : decode cX8_as 42 = .ok (.invokevirtual 81, 3) := by decide +kernel
theorem dX8_as_45 : decode cX8_as 45 = .ok (.ireturn, 1) := by decide +kernel
theorem dX8_as_46 : decode cX8_as 46 = .ok (.iload_n 1, 1) := by decide +kernel
theorem dX8_as_47 : decode cX8_as 47 = .ok (.ireturn, 1) := by decide +kernel
theorem dX8_present_0 : decode cX8_present 0 = .ok (.aload_n 0, 1) := by decide +kernel
theorem dX8_present_1 : decode cX8_present 1 = .ok (.getfield 10, 3) := by decide +kernel
theorem dX8_present_4 : decode cX8_present 4 = .ok (.iload_n 1, 1) := by decide +kernel
theorem dX8_present_5 : decode cX8_present 5 = .ok (.invokevirtual 94, 3) := by decide +kernel
theorem dX8_present_8 : decode cX8_present 8 = .ok (.ifCond .ne 10, 3) := by decide +kernel
theorem dX8_present_11 : decode cX8_present 11 = .ok (.aload_n 0, 1) := by decide +kernel
theorem dX8_present_12 : decode cX8_present 12 = .ok (.ldc 80, 2) := by decide +kernel
theorem dX8_present_14 : decode cX8_present 14 = .ok (.invokevirtual 81, 3) := by decide +kernel
theorem dX8_present_17 : decode cX8_present 17 = .ok (.ireturn, 1) := by decide +kernel
theorem dX8_present_18 : decode cX8_present 18 = .ok (.aload_n 0, 1) := by decide +kernel
theorem dX8_present_19 : decode cX8_present 19 = .ok (.getfield 10, 3) := by decide +kernel
theorem dX8_present_22 : decode cX8_present 22 = .ok (.iload_n 1, 1) := by decide +kernel
theorem dX8_present_23 : decode cX8_present 23 = .ok (.invokevirtual 103, 3) := by decide +kernel
theorem dX8_present_26 : decode cX8_present 26 = .ok (.iload_n 2, 1) := by decide +kernel
theorem dX8_present_27 : decode cX8_present 27 = .ok (.if_icmp .ne 5, 3) := by decide +kernel
theorem dX8_present_30 : decode cX8_present 30 = .ok (.iconst 0, 1) := by decide +kernel
theorem dX8_present_31 : decode cX8_present 31 = .ok (.ireturn, 1) := by decide +kernel
theorem dX8_present_32 : decode cX8_present 32 = .ok (.aload_n 0, 1) := by decide +kernel
theorem dX8_present_33 : decode cX8_present 33 = .ok (.getfield 10, 3) := by decide +kernel
theorem dX8_present_36 : decode cX8_present 36 = .ok (.iload_n 1, 1) := by decide +kernel
theorem dX8_present_37 : decode cX8_present 37 = .ok (.iload_n 2, 1) := by decide +kernel
theorem dX8_present_38 : decode cX8_present 38 = .ok (.invokevirtual 106, 3) := by decide +kernel
theorem dX8_present_41 : decode cX8_present 41 = .ok (.iconst 1, 1) := by decide +kernel
theorem dX8_present_42 : decode cX8_present 42 = .ok (.ireturn, 1) := by decide +kernel
theorem dX8_of_0 : decode cX8_of 0 = .ok (.aload_n 0, 1) := by decide +kernel
theorem dX8_of_1 : decode cX8_of 1 = .ok (.getfield 10, 3) := by decide +kernel
theorem dX8_of_4 : decode cX8_of 4 = .ok (.iload_n 1, 1) := by decide +kernel
theorem dX8_of_5 : decode cX8_of 5 = .ok (.invokevirtual 94, 3) := by decide +kernel
theorem dX8_of_8 : decode cX8_of 8 = .ok (.ifCond .ne 10, 3) := by decide +kernel
theorem dX8_of_11 : decode cX8_of 11 = .ok (.aload_n 0, 1) := by decide +kernel
theorem dX8_of_12 : decode cX8_of 12 = .ok (.ldc 80, 2) := by decide +kernel
theorem dX8_of_14 : decode cX8_of 14 = .ok (.invokevirtual 81, 3) := by decide +kernel
theorem dX8_of_17 : decode cX8_of 17 = .ok (.ireturn, 1) := by decide +kernel
theorem dX8_of_18 : decode cX8_of 18 = .ok (.iload_n 2, 1) := by decide +kernel
theorem dX8_of_19 : decode cX8_of 19 = .ok (.tableswitch 86 0 4 #[33, 42, 51, 68, 77], 33) := by decide +kernel
theorem dX8_of_52 : decode cX8_of 52 = .ok (.aload_n 0, 1) := by decide +kernel
theorem dX8_of_53 : decode cX8_of 53 = .ok (.getfield 10, 3) := by decide +kernel
theorem dX8_of_56 : decode cX8_of 56 = .ok (.iload_n 1, 1) := by decide +kernel
theorem dX8_of_57 : decode cX8_of 57 = .ok (.invokevirtual 110, 3) := by decide +kernel
theorem dX8_of_60 : decode cX8_of 60 = .ok (.ireturn, 1) := by decide +kernel
theorem dX8_of_61 : decode cX8_of 61 = .ok (.aload_n 0, 1) := by decide +kernel
theorem dX8_of_62 : decode cX8_of 62 = .ok (.getfield 10, 3) := by decide +kernel
theorem dX8_of_65 : decode cX8_of 65 = .ok (.iload_n 1, 1) := by decide +kernel
theorem dX8_of_66 : decode cX8_of 66 = .ok (.invokevirtual 113, 3) := by decide +kernel
theorem dX8_of_69 : decode cX8_of 69 = .ok (.ireturn, 1) := by decide +kernel
theorem dX8_of_70 : decode cX8_of 70 = .ok (.aload_n 0, 1) := by decide +kernel
theorem dX8_of_71 : decode cX8_of 71 = .ok (.getfield 10, 3) := by decide +kernel
theorem dX8_of_74 : decode cX8_of 74 = .ok (.iload_n 1, 1) := by decide +kernel
theorem dX8_of_75 : decode cX8_of 75 = .ok (.invokevirtual 103, 3) := by decide +kernel
theorem dX8_of_78 : decode cX8_of 78 = .ok (.ifCond .eq 7, 3) := by decide +kernel
theorem dX8_of_81 : decode cX8_of 81 = .ok (.iconst 1, 1) := by decide +kernel
theorem dX8_of_82 : decode cX8_of 82 = .ok (.goto 4, 3) := by decide +kernel
theorem dX8_of_85 : decode cX8_of 85 = .ok (.iconst 0, 1) := by decide +kernel
theorem dX8_of_86 : decode cX8_of 86 = .ok (.ireturn, 1) := by decide +kernel
theorem dX8_of_87 : decode cX8_of 87 = .ok (.aload_n 0, 1) := by decide +kernel
theorem dX8_of_88 : decode cX8_of 88 = .ok (.getfield 21, 3) := by decide +kernel
theorem dX8_of_91 : decode cX8_of 91 = .ok (.iload_n 1, 1) := by decide +kernel
theorem dX8_of_92 : decode cX8_of 92 = .ok (.invokevirtual 116, 3) := by decide +kernel
theorem dX8_of_95 : decode cX8_of 95 = .ok (.ireturn, 1) := by decide +kernel
theorem dX8_of_96 : decode cX8_of 96 = .ok (.aload_n 0, 1) := by decide +kernel
theorem dX8_of_97 : decode cX8_of 97 = .ok (.getfield 21, 3) := by decide +kernel
theorem dX8_of_100 : decode cX8_of 100 = .ok (.iload_n 1, 1) := by decide +kernel
theorem dX8_of_101 : decode cX8_of 101 = .ok (.invokevirtual 119, 3) := by decide +kernel
theorem dX8_of_104 : decode cX8_of 104 = .ok (.ireturn, 1) := by decide +kernel
theorem dX8_of_105 : decode cX8_of 105 = .ok (.aload_n 0, 1) := by decide +kernel
theorem dX8_of_106 : decode cX8_of 106 = .ok (.ldc 80, 2) := by decide +kernel
theorem dX8_of_108 : decode cX8_of 108 = .ok (.invokevirtual 81, 3) := by decide +kernel
theorem dX8_of_111 : decode cX8_of 111 = .ok (.ireturn, 1) := by decide +kernel
theorem dX8_time_0 : decode cX8_time 0 = .ok (.iload_n 1, 1) := by decide +kernel
theorem dX8_time_1 : decode cX8_time 1 = .ok (.iconst 0, 1) := by decide +kernel
theorem dX8_time_2 : decode cX8_time 2 = .ok (.iconst 4, 1) := by decide +kernel
theorem dX8_time_3 : decode cX8_time 3 = .ok (.invokestatic 76, 3) := by decide +kernel
theorem dX8_time_6 : decode cX8_time 6 = .ok (.ifCond .ne 10, 3) := by decide +kernel
theorem dX8_time_9 : decode cX8_time 9 = .ok (.aload_n 0, 1) := by decide +kernel
theorem dX8_time_10 : decode cX8_time 10 = .ok (.ldc 80, 2) := by decide +kernel
theorem dX8_time_12 : decode cX8_time 12 = .ok (.invokevirtual 81, 3) := by decide +kernel
theorem dX8_time_15 : decode cX8_time 15 = .ok (.ireturn, 1) := by decide +kernel
theorem dX8_time_16 : decode cX8_time 16 = .ok (.aload_n 0, 1) := by decide +kernel
theorem dX8_time_17 : decode cX8_time 17 = .ok (.getfield 21, 3) := by decide +kernel
theorem dX8_time_20 : decode cX8_time 20 = .ok (.iload_n 1, 1) := by decide +kernel
theorem dX8_time_21 : decode cX8_time 21 = .ok (.invokevirtual 122, 3) := by decide +kernel
theorem dX8_time_24 : decode cX8_time 24 = .ok (.ireturn, 1) := by decide +kernel
theorem dX8_ask_0 : decode cX8_ask 0 = .ok (.aload_n 0, 1) := by decide +kernel
theorem dX8_ask_1 : decode cX8_ask 1 = .ok (.iload_n 1, 1) := by decide +kernel
theorem dX8_ask_2 : decode cX8_ask 2 = .ok (.iload_n 2, 1) := by decide +kernel
theorem dX8_ask_3 : decode cX8_ask 3 = .ok (.invokevirtual 125, 3) := by decide +kernel
theorem dX8_ask_6 : decode cX8_ask 6 = .ok (.ifCond .ne 10, 3) := by decide +kernel
theorem dX8_ask_9 : decode cX8_ask 9 = .ok (.aload_n 0, 1) := by decide +kernel
theorem dX8_ask_10 : decode cX8_ask 10 = .ok (.ldc 80, 2) := by decide +kernel
theorem dX8_ask_12 : decode cX8_ask 12 = .ok (.invokevirtual 81, 3) := by decide +kernel
theorem dX8_ask_15 : decode cX8_ask 15 = .ok (.ireturn, 1) := by decide +kernel
theorem dX8_ask_16 : decode cX8_ask 16 = .ok (.aload_n 0, 1) := by decide +kernel
theorem dX8_ask_17 : decode cX8_ask 17 = .ok (.getfield 21, 3) := by decide +kernel
theorem dX8_ask_20 : decode cX8_ask 20 = .ok (.iload_n 1, 1) := by decide +kernel
theorem dX8_ask_21 : decode cX8_ask 21 = .ok (.iload_n 2, 1) := by decide +kernel
theorem dX8_ask_22 : decode cX8_ask 22 = .ok (.invokevirtual 128, 3) := by decide +kernel
theorem dX8_ask_25 : decode cX8_ask 25 = .ok (.iconst (-1), 1) := by decide +kernel
theorem dX8_ask_26 : decode cX8_ask 26 = .ok (.if_icmp .eq 10, 3) := by decide +kernel
theorem dX8_ask_29 : decode cX8_ask 29 = .ok (.aload_n 0, 1) := by decide +kernel
theorem dX8_ask_30 : decode cX8_ask 30 = .ok (.ldc 131, 2) := by decide +kernel
theorem dX8_ask_32 : decode cX8_ask 32 = .ok (.invokevirtual 81, 3) := by decide +kernel
theorem dX8_ask_35 : decode cX8_ask 35 = .ok (.ireturn, 1) := by decide +kernel
theorem dX8_ask_36 : decode cX8_ask 36 = .ok (.aload_n 0, 1) := by decide +kernel
theorem dX8_ask_37 : decode cX8_ask 37 = .ok (.getfield 21, 3) := by decide +kernel
theorem dX8_ask_40 : decode cX8_ask 40 = .ok (.invokevirtual 132, 3) := by decide +kernel
theorem dX8_ask_43 : decode cX8_ask 43 = .ok (.bipush 20, 2) := by decide +kernel
theorem dX8_ask_45 : decode cX8_ask 45 = .ok (.if_icmp .lt 10, 3) := by decide +kernel
theorem dX8_ask_48 : decode cX8_ask 48 = .ok (.aload_n 0, 1) := by decide +kernel
theorem dX8_ask_49 : decode cX8_ask 49 = .ok (.ldc 89, 2) := by decide +kernel
theorem dX8_ask_51 : decode cX8_ask 51 = .ok (.invokevirtual 81, 3) := by decide +kernel
theorem dX8_ask_54 : decode cX8_ask 54 = .ok (.ireturn, 1) := by decide +kernel
theorem dX8_ask_55 : decode cX8_ask 55 = .ok (.aload_n 0, 1) := by decide +kernel
theorem dX8_ask_56 : decode cX8_ask 56 = .ok (.getfield 21, 3) := by decide +kernel
theorem dX8_ask_59 : decode cX8_ask 59 = .ok (.iload_n 1, 1) := by decide +kernel
theorem dX8_ask_60 : decode cX8_ask 60 = .ok (.iload_n 2, 1) := by decide +kernel
theorem dX8_ask_61 : decode cX8_ask 61 = .ok (.invokevirtual 133, 3) := by decide +kernel
theorem dX8_ask_64 : decode cX8_ask 64 = .ok (.aload_n 0, 1) := by decide +kernel
theorem dX8_ask_65 : decode cX8_ask 65 = .ok (.getfield 21, 3) := by decide +kernel
theorem dX8_ask_68 : decode cX8_ask 68 = .ok (.invokevirtual 132, 3) := by decide +kernel
theorem dX8_ask_71 : decode cX8_ask 71 = .ok (.ireturn, 1) := by decide +kernel
theorem dX8_withdraw_0 : decode cX8_withdraw 0 = .ok (.aload_n 0, 1) := by decide +kernel
theorem dX8_withdraw_1 : decode cX8_withdraw 1 = .ok (.iload_n 1, 1) := by decide +kernel
theorem dX8_withdraw_2 : decode cX8_withdraw 2 = .ok (.iload_n 2, 1) := by decide +kernel
theorem dX8_withdraw_3 : decode cX8_withdraw 3 = .ok (.invokevirtual 125, 3) := by decide +kernel
theorem dX8_withdraw_6 : decode cX8_withdraw 6 = .ok (.ifCond .ne 10, 3) := by decide +kernel
theorem dX8_withdraw_9 : decode cX8_withdraw 9 = .ok (.aload_n 0, 1) := by decide +kernel
theorem dX8_withdraw_10 : decode cX8_withdraw 10 = .ok (.ldc 80, 2) := by decide +kernel
theorem dX8_withdraw_12 : decode cX8_withdraw 12 = .ok (.invokevirtual 81, 3) := by decide +kernel
theorem dX8_withdraw_15 : decode cX8_withdraw 15 = .ok (.ireturn, 1) := by decide +kernel
theorem dX8_withdraw_16 : decode cX8_withdraw 16 = .ok (.aload_n 0, 1) := by decide +kernel
theorem dX8_withdraw_17 : decode cX8_withdraw 17 = .ok (.getfield 21, 3) := by decide +kernel
theorem dX8_withdraw_20 : decode cX8_withdraw 20 = .ok (.iload_n 1, 1) := by decide +kernel
theorem dX8_withdraw_21 : decode cX8_withdraw 21 = .ok (.iload_n 2, 1) := by decide +kernel
theorem dX8_withdraw_22 : decode cX8_withdraw 22 = .ok (.invokevirtual 128, 3) := by decide +kernel
theorem dX8_withdraw_25 : decode cX8_withdraw 25 = .ok (.istore_n 3, 1) := by decide +kernel
theorem dX8_withdraw_26 : decode cX8_withdraw 26 = .ok (.iload_n 3, 1) := by decide +kernel
theorem dX8_withdraw_27 : decode cX8_withdraw 27 = .ok (.iconst (-1), 1) := by decide +kernel
theorem dX8_withdraw_28 : decode cX8_withdraw 28 = .ok (.if_icmp .ne 10, 3) := by decide +kernel
theorem dX8_withdraw_31 : decode cX8_withdraw 31 = .ok (.aload_n 0, 1) := by decide +kernel
theorem dX8_withdraw_32 : decode cX8_withdraw 32 = .ok (.ldc 137, 2) := by decide +kernel
theorem dX8_withdraw_34 : decode cX8_withdraw 34 = .ok (.invokevirtual 81, 3) := by decide +kernel
theorem dX8_withdraw_37 : decode cX8_withdraw 37 = .ok (.ireturn, 1) := by decide +kernel
theorem dX8_withdraw_38 : decode cX8_withdraw 38 = .ok (.aload_n 0, 1) := by decide +kernel
theorem dX8_withdraw_39 : decode cX8_withdraw 39 = .ok (.getfield 21, 3) := by decide +kernel
theorem dX8_withdraw_42 : decode cX8_withdraw 42 = .ok (.iload_n 3, 1) := by decide +kernel
theorem dX8_withdraw_43 : decode cX8_withdraw 43 = .ok (.invokevirtual 138, 3) := by decide +kernel
theorem dX8_withdraw_46 : decode cX8_withdraw 46 = .ok (.aload_n 0, 1) := by decide +kernel
theorem dX8_withdraw_47 : decode cX8_withdraw 47 = .ok (.getfield 21, 3) := by decide +kernel
theorem dX8_withdraw_50 : decode cX8_withdraw 50 = .ok (.invokevirtual 132, 3) := by decide +kernel
theorem dX8_withdraw_53 : decode cX8_withdraw 53 = .ok (.ireturn, 1) := by decide +kernel
theorem dX8_key_0 : decode cX8_key 0 = .ok (.iload_n 1, 1) := by decide +kernel
theorem dX8_key_1 : decode cX8_key 1 = .ok (.invokestatic 142, 3) := by decide +kernel
theorem dX8_key_4 : decode cX8_key 4 = .ok (.ifCond .ne 10, 3) := by decide +kernel
theorem dX8_key_7 : decode cX8_key 7 = .ok (.aload_n 0, 1) := by decide +kernel
theorem dX8_key_8 : decode cX8_key 8 = .ok (.ldc 80, 2) := by decide +kernel
theorem dX8_key_10 : decode cX8_key 10 = .ok (.invokevirtual 81, 3) := by decide +kernel
theorem dX8_key_13 : decode cX8_key 13 = .ok (.ireturn, 1) := by decide +kernel
theorem dX8_key_14 : decode cX8_key 14 = .ok (.aload_n 0, 1) := by decide +kernel
theorem dX8_key_15 : decode cX8_key 15 = .ok (.getfield 31, 3) := by decide +kernel
theorem dX8_key_18 : decode cX8_key 18 = .ok (.iload_n 1, 1) := by decide +kernel
theorem dX8_key_19 : decode cX8_key 19 = .ok (.invokevirtual 145, 3) := by decide +kernel
theorem dX8_key_22 : decode cX8_key 22 = .ok (.ifCond .eq 10, 3) := by decide +kernel
theorem dX8_key_25 : decode cX8_key 25 = .ok (.aload_n 0, 1) := by decide +kernel
theorem dX8_key_26 : decode cX8_key 26 = .ok (.ldc 131, 2) := by decide +kernel
theorem dX8_key_28 : decode cX8_key 28 = .ok (.invokevirtual 81, 3) := by decide +kernel
theorem dX8_key_31 : decode cX8_key 31 = .ok (.ireturn, 1) := by decide +kernel
theorem dX8_key_32 : decode cX8_key 32 = .ok (.aload_n 0, 1) := by decide +kernel
theorem dX8_key_33 : decode cX8_key 33 = .ok (.getfield 31, 3) := by decide +kernel
theorem dX8_key_36 : decode cX8_key 36 = .ok (.invokevirtual 146, 3) := by decide +kernel
theorem dX8_key_39 : decode cX8_key 39 = .ok (.bipush 6, 2) := by decide +kernel
theorem dX8_key_41 : decode cX8_key 41 = .ok (.if_icmp .lt 10, 3) := by decide +kernel
theorem dX8_key_44 : decode cX8_key 44 = .ok (.aload_n 0, 1) := by decide +kernel
theorem dX8_key_45 : decode cX8_key 45 = .ok (.ldc 89, 2) := by decide +kernel
theorem dX8_key_47 : decode cX8_key 47 = .ok (.invokevirtual 81, 3) := by decide +kernel
theorem dX8_key_50 : decode cX8_key 50 = .ok (.ireturn, 1) := by decide +kernel
theorem dX8_key_51 : decode cX8_key 51 = .ok (.aload_n 0, 1) := by decide +kernel
theorem dX8_key_52 : decode cX8_key 52 = .ok (.getfield 31, 3) := by decide +kernel
theorem dX8_key_55 : decode cX8_key 55 = .ok (.iload_n 1, 1) := by decide +kernel
theorem dX8_key_56 : decode cX8_key 56 = .ok (.invokevirtual 147, 3) := by decide +kernel
theorem dX8_key_59 : decode cX8_key 59 = .ok (.aload_n 0, 1) := by decide +kernel
theorem dX8_key_60 : decode cX8_key 60 = .ok (.getfield 31, 3) := by decide +kernel
theorem dX8_key_63 : decode cX8_key 63 = .ok (.invokevirtual 146, 3) := by decide +kernel
theorem dX8_key_66 : decode cX8_key 66 = .ok (.ireturn, 1) := by decide +kernel
theorem dX8_noKeys_0 : decode cX8_noKeys 0 = .ok (.aload_n 0, 1) := by decide +kernel
theorem dX8_noKeys_1 : decode cX8_noKeys 1 = .ok (.getfield 31, 3) := by decide +kernel
theorem dX8_noKeys_4 : decode cX8_noKeys 4 = .ok (.invokevirtual 146, 3) := by decide +kernel
theorem dX8_noKeys_7 : decode cX8_noKeys 7 = .ok (.istore_n 1, 1) := by decide +kernel
theorem dX8_noKeys_8 : decode cX8_noKeys 8 = .ok (.aload_n 0, 1) := by decide +kernel
theorem dX8_noKeys_9 : decode cX8_noKeys 9 = .ok (.getfield 31, 3) := by decide +kernel
theorem dX8_noKeys_12 : decode cX8_noKeys 12 = .ok (.invokevirtual 149, 3) := by decide +kernel
theorem dX8_noKeys_15 : decode cX8_noKeys 15 = .ok (.iload_n 1, 1) := by decide +kernel
theorem dX8_noKeys_16 : decode cX8_noKeys 16 = .ok (.ireturn, 1) := by decide +kernel
theorem dX8_listed_0 : decode cX8_listed 0 = .ok (.aload_n 0, 1) := by decide +kernel
theorem dX8_listed_1 : decode cX8_listed 1 = .ok (.getfield 40, 3) := by decide +kernel
theorem dX8_listed_4 : decode cX8_listed 4 = .ok (.invokevirtual 152, 3) := by decide +kernel
theorem dX8_listed_7 : decode cX8_listed 7 = .ok (.iload_n 1, 1) := by decide +kernel
theorem dX8_listed_8 : decode cX8_listed 8 = .ok (.iconst 0, 1) := by decide +kernel
theorem dX8_listed_9 : decode cX8_listed 9 = .ok (.aload_n 0, 1) := by decide +kernel
theorem dX8_listed_10 : decode cX8_listed 10 = .ok (.getfield 40, 3) := by decide +kernel
theorem dX8_listed_13 : decode cX8_listed 13 = .ok (.invokevirtual 155, 3) := by decide +kernel
theorem dX8_listed_16 : decode cX8_listed 16 = .ok (.iconst 1, 1) := by decide +kernel
theorem dX8_listed_17 : decode cX8_listed 17 = .ok (.isub, 1) := by decide +kernel
theorem dX8_listed_18 : decode cX8_listed 18 = .ok (.invokestatic 76, 3) := by decide +kernel
theorem dX8_listed_21 : decode cX8_listed 21 = .ok (.ifCond .ne 10, 3) := by decide +kernel
theorem dX8_listed_24 : decode cX8_listed 24 = .ok (.aload_n 0, 1) := by decide +kernel
theorem dX8_listed_25 : decode cX8_listed 25 = .ok (.ldc 137, 2) := by decide +kernel
theorem dX8_listed_27 : decode cX8_listed 27 = .ok (.invokevirtual 81, 3) := by decide +kernel
theorem dX8_listed_30 : decode cX8_listed 30 = .ok (.ireturn, 1) := by decide +kernel
theorem dX8_listed_31 : decode cX8_listed 31 = .ok (.aload_n 0, 1) := by decide +kernel
theorem dX8_listed_32 : decode cX8_listed 32 = .ok (.getfield 40, 3) := by decide +kernel
theorem dX8_listed_35 : decode cX8_listed 35 = .ok (.iload_n 1, 1) := by decide +kernel
theorem dX8_listed_36 : decode cX8_listed 36 = .ok (.invokevirtual 156, 3) := by decide +kernel
theorem dX8_listed_39 : decode cX8_listed 39 = .ok (.istore_n 3, 1) := by decide +kernel
theorem dX8_listed_40 : decode cX8_listed 40 = .ok (.iload_n 2, 1) := by decide +kernel
theorem dX8_listed_41 : decode cX8_listed 41 = .ok (.ifCond .eq 14, 3) := by decide +kernel
theorem dX8_listed_44 : decode cX8_listed 44 = .ok (.aload_n 0, 1) := by decide +kernel
theorem dX8_listed_45 : decode cX8_listed 45 = .ok (.getfield 21, 3) := by decide +kernel
theorem dX8_listed_48 : decode cX8_listed 48 = .ok (.iload_n 3, 1) := by decide +kernel
theorem dX8_listed_49 : decode cX8_listed 49 = .ok (.invokevirtual 159, 3) := by decide +kernel
theorem dX8_listed_52 : decode cX8_listed 52 = .ok (.goto 11, 3) := by decide +kernel
theorem dX8_listed_55 : decode cX8_listed 55 = .ok (.aload_n 0, 1) := by decide +kernel
theorem dX8_listed_56 : decode cX8_listed 56 = .ok (.getfield 21, 3) := by decide +kernel
theorem dX8_listed_59 : decode cX8_listed 59 = .ok (.iload_n 3, 1) := by decide +kernel
theorem dX8_listed_60 : decode cX8_listed 60 = .ok (.invokevirtual 162, 3) := by decide +kernel
theorem dX8_listed_63 : decode cX8_listed 63 = .ok (.ireturn, 1) := by decide +kernel
theorem dX8_place_0 : decode cX8_place 0 = .ok (.aload_n 0, 1) := by decide +kernel
theorem dX8_place_1 : decode cX8_place 1 = .ok (.iload_n 1, 1) := by decide +kernel
theorem dX8_place_2 : decode cX8_place 2 = .ok (.iload_n 2, 1) := by decide +kernel
theorem dX8_place_3 : decode cX8_place 3 = .ok (.invokevirtual 125, 3) := by decide +kernel
theorem dX8_place_6 : decode cX8_place 6 = .ok (.ifCond .ne 10, 3) := by decide +kernel
theorem dX8_place_9 : decode cX8_place 9 = .ok (.aload_n 0, 1) := by decide +kernel
theorem dX8_place_10 : decode cX8_place 10 = .ok (.ldc 80, 2) := by decide +kernel
theorem dX8_place_12 : decode cX8_place 12 = .ok (.invokevirtual 81, 3) := by decide +kernel
theorem dX8_place_15 : decode cX8_place 15 = .ok (.ireturn, 1) := by decide +kernel
theorem dX8_place_16 : decode cX8_place 16 = .ok (.aload_n 0, 1) := by decide +kernel
theorem dX8_place_17 : decode cX8_place 17 = .ok (.getfield 21, 3) := by decide +kernel
theorem dX8_place_20 : decode cX8_place 20 = .ok (.iload_n 1, 1) := by decide +kernel
theorem dX8_place_21 : decode cX8_place 21 = .ok (.iload_n 2, 1) := by decide +kernel
theorem dX8_place_22 : decode cX8_place 22 = .ok (.invokevirtual 128, 3) := by decide +kernel
theorem dX8_place_25 : decode cX8_place 25 = .ok (.istore_n 3, 1) := by decide +kernel
theorem dX8_place_26 : decode cX8_place 26 = .ok (.iload_n 3, 1) := by decide +kernel
theorem dX8_place_27 : decode cX8_place 27 = .ok (.iconst (-1), 1) := by decide +kernel
theorem dX8_place_28 : decode cX8_place 28 = .ok (.if_icmp .eq 14, 3) := by decide +kernel
theorem dX8_place_31 : decode cX8_place 31 = .ok (.aload_n 0, 1) := by decide +kernel
theorem dX8_place_32 : decode cX8_place 32 = .ok (.getfield 10, 3) := by decide +kernel
theorem dX8_place_35 : decode cX8_place 35 = .ok (.iload_n 1, 1) := by decide +kernel
theorem dX8_place_36 : decode cX8_place 36 = .ok (.invokevirtual 103, 3) := by decide +kernel
theorem dX8_place_39 : decode cX8_place 39 = .ok (.ifCond .ne 10, 3) := by decide +kernel
theorem dX8_place_42 : decode cX8_place 42 = .ok (.aload_n 0, 1) := by decide +kernel
theorem dX8_place_43 : decode cX8_place 43 = .ok (.ldc 137, 2) := by decide +kernel
theorem dX8_place_45 : decode cX8_place 45 = .ok (.invokevirtual 81, 3) := by decide +kernel
theorem dX8_place_48 : decode cX8_place 48 = .ok (.ireturn, 1) := by decide +kernel
theorem dX8_place_49 : decode cX8_place 49 = .ok (.aload_n 0, 1) := by decide +kernel
theorem dX8_place_50 : decode cX8_place 50 = .ok (.getfield 40, 3) := by decide +kernel
theorem dX8_place_53 : decode cX8_place 53 = .ok (.invokevirtual 152, 3) := by decide +kernel
theorem dX8_place_56 : decode cX8_place 56 = .ok (.aload_n 0, 1) := by decide +kernel
theorem dX8_place_57 : decode cX8_place 57 = .ok (.getfield 40, 3) := by decide +kernel
theorem dX8_place_60 : decode cX8_place 60 = .ok (.iload_n 3, 1) := by decide +kernel
theorem dX8_place_61 : decode cX8_place 61 = .ok (.invokevirtual 165, 3) := by decide +kernel
theorem dX8_place_64 : decode cX8_place 64 = .ok (.ireturn, 1) := by decide +kernel
theorem dX8_wait_0 : decode cX8_wait 0 = .ok (.aload_n 0, 1) := by decide +kernel
theorem dX8_wait_1 : decode cX8_wait 1 = .ok (.getfield 10, 3) := by decide +kernel
theorem dX8_wait_4 : decode cX8_wait 4 = .ok (.iload_n 1, 1) := by decide +kernel
theorem dX8_wait_5 : decode cX8_wait 5 = .ok (.invokevirtual 94, 3) := by decide +kernel
theorem dX8_wait_8 : decode cX8_wait 8 = .ok (.ifCond .ne 10, 3) := by decide +kernel
theorem dX8_wait_11 : decode cX8_wait 11 = .ok (.aload_n 0, 1) := by decide +kernel
theorem dX8_wait_12 : decode cX8_wait 12 = .ok (.ldc 80, 2) := by decide +kernel
theorem dX8_wait_14 : decode cX8_wait 14 = .ok (.invokevirtual 81, 3) := by decide +kernel
theorem dX8_wait_17 : decode cX8_wait 17 = .ok (.ireturn, 1) := by decide +kernel
theorem dX8_wait_18 : decode cX8_wait 18 = .ok (.aload_n 0, 1) := by decide +kernel
theorem dX8_wait_19 : decode cX8_wait 19 = .ok (.getfield 21, 3) := by decide +kernel
theorem dX8_wait_22 : decode cX8_wait 22 = .ok (.iload_n 1, 1) := by decide +kernel
theorem dX8_wait_23 : decode cX8_wait 23 = .ok (.iconst 0, 1) := by decide +kernel
theorem dX8_wait_24 : decode cX8_wait 24 = .ok (.invokevirtual 128, 3) := by decide +kernel
theorem dX8_wait_27 : decode cX8_wait 27 = .ok (.iconst (-1), 1) := by decide +kernel
theorem dX8_wait_28 : decode cX8_wait 28 = .ok (.if_icmp .eq 14, 3) := by decide +kernel
theorem dX8_wait_31 : decode cX8_wait 31 = .ok (.aload_n 0, 1) := by decide +kernel
theorem dX8_wait_32 : decode cX8_wait 32 = .ok (.getfield 10, 3) := by decide +kernel
theorem dX8_wait_35 : decode cX8_wait 35 = .ok (.iload_n 1, 1) := by decide +kernel
theorem dX8_wait_36 : decode cX8_wait 36 = .ok (.invokevirtual 103, 3) := by decide +kernel
theorem dX8_wait_39 : decode cX8_wait 39 = .ok (.ifCond .ne 10, 3) := by decide +kernel
theorem dX8_wait_42 : decode cX8_wait 42 = .ok (.aload_n 0, 1) := by decide +kernel
theorem dX8_wait_43 : decode cX8_wait 43 = .ok (.ldc 137, 2) := by decide +kernel
theorem dX8_wait_45 : decode cX8_wait 45 = .ok (.invokevirtual 81, 3) := by decide +kernel
theorem dX8_wait_48 : decode cX8_wait 48 = .ok (.ireturn, 1) := by decide +kernel
theorem dX8_wait_49 : decode cX8_wait 49 = .ok (.aload_n 0, 1) := by decide +kernel
theorem dX8_wait_50 : decode cX8_wait 50 = .ok (.getfield 25, 3) := by decide +kernel
theorem dX8_wait_53 : decode cX8_wait 53 = .ok (.aload_n 0, 1) := by decide +kernel
theorem dX8_wait_54 : decode cX8_wait 54 = .ok (.getfield 21, 3) := by decide +kernel
theorem dX8_wait_57 : decode cX8_wait 57 = .ok (.invokevirtual 168, 3) := by decide +kernel
theorem dX8_wait_60 : decode cX8_wait 60 = .ok (.iconst 0, 1) := by decide +kernel
theorem dX8_wait_61 : decode cX8_wait 61 = .ok (.istore_n 2, 1) := by decide +kernel
theorem dX8_wait_62 : decode cX8_wait 62 = .ok (.iload_n 2, 1) := by decide +kernel
theorem dX8_wait_63 : decode cX8_wait 63 = .ok (.bipush 100, 2) := by decide +kernel
theorem dX8_wait_65 : decode cX8_wait 65 = .ok (.if_icmp .ge 74, 3) := by decide +kernel
theorem dX8_wait_68 : decode cX8_wait 68 = .ok (.aload_n 0, 1) := by decide +kernel
theorem dX8_wait_69 : decode cX8_wait 69 = .ok (.getfield 31, 3) := by decide +kernel
theorem dX8_wait_72 : decode cX8_wait 72 = .ok (.aload_n 0, 1) := by decide +kernel
theorem dX8_wait_73 : decode cX8_wait 73 = .ok (.getfield 25, 3) := by decide +kernel
theorem dX8_wait_76 : decode cX8_wait 76 = .ok (.iconst 0, 1) := by decide +kernel
theorem dX8_wait_77 : decode cX8_wait 77 = .ok (.invokevirtual 172, 3) := by decide +kernel
theorem dX8_wait_80 : decode cX8_wait 80 = .ok (.istore_n 3, 1) := by decide +kernel
theorem dX8_wait_81 : decode cX8_wait 81 = .ok (.aload_n 0, 1) := by decide +kernel
theorem dX8_wait_82 : decode cX8_wait 82 = .ok (.getfield 25, 3) := by decide +kernel
theorem dX8_wait_85 : decode cX8_wait 85 = .ok (.iload_n 3, 1) := by decide +kernel
theorem dX8_wait_86 : decode cX8_wait 86 = .ok (.invokevirtual 162, 3) := by decide +kernel
theorem dX8_wait_89 : decode cX8_wait 89 = .ok (.istore 4, 2) := by decide +kernel
theorem dX8_wait_91 : decode cX8_wait 91 = .ok (.iload 4, 2) := by decide +kernel
theorem dX8_wait_93 : decode cX8_wait 93 = .ok (.iload_n 1, 1) := by decide +kernel
theorem dX8_wait_94 : decode cX8_wait 94 = .ok (.if_icmp .ne 5, 3) := by decide +kernel
theorem dX8_wait_97 : decode cX8_wait 97 = .ok (.iload_n 2, 1) := by decide +kernel
theorem dX8_wait_98 : decode cX8_wait 98 = .ok (.ireturn, 1) := by decide +kernel
theorem dX8_wait_99 : decode cX8_wait 99 = .ok (.aload_n 0, 1) := by decide +kernel
theorem dX8_wait_100 : decode cX8_wait 100 = .ok (.getfield 25, 3) := by decide +kernel
theorem dX8_wait_103 : decode cX8_wait 103 = .ok (.iload_n 3, 1) := by decide +kernel
theorem dX8_wait_104 : decode cX8_wait 104 = .ok (.invokevirtual 176, 3) := by decide +kernel
theorem dX8_wait_107 : decode cX8_wait 107 = .ok (.aload_n 0, 1) := by decide +kernel
theorem dX8_wait_108 : decode cX8_wait 108 = .ok (.getfield 25, 3) := by decide +kernel
theorem dX8_wait_111 : decode cX8_wait 111 = .ok (.iload 4, 2) := by decide +kernel
theorem dX8_wait_113 : decode cX8_wait 113 = .ok (.aload_n 0, 1) := by decide +kernel
theorem dX8_wait_114 : decode cX8_wait 114 = .ok (.iload 4, 2) := by decide +kernel
theorem dX8_wait_116 : decode cX8_wait 116 = .ok (.iconst 0, 1) := by decide +kernel
theorem dX8_wait_117 : decode cX8_wait 117 = .ok (.invokevirtual 179, 3) := by decide +kernel
theorem dX8_wait_120 : decode cX8_wait 120 = .ok (.invokevirtual 182, 3) := by decide +kernel
theorem dX8_wait_123 : decode cX8_wait 123 = .ok (.aload_n 0, 1) := by decide +kernel
theorem dX8_wait_124 : decode cX8_wait 124 = .ok (.getfield 25, 3) := by decide +kernel
theorem dX8_wait_127 : decode cX8_wait 127 = .ok (.iload 4, 2) := by decide +kernel
theorem dX8_wait_129 : decode cX8_wait 129 = .ok (.iconst 0, 1) := by decide +kernel
theorem dX8_wait_130 : decode cX8_wait 130 = .ok (.invokevirtual 133, 3) := by decide +kernel
theorem dX8_wait_133 : decode cX8_wait 133 = .ok (.iinc 2 1, 3) := by decide +kernel
theorem dX8_wait_136 : decode cX8_wait 136 = .ok (.goto (-74), 3) := by decide +kernel
theorem dX8_wait_139 : decode cX8_wait 139 = .ok (.aload_n 0, 1) := by decide +kernel
theorem dX8_wait_140 : decode cX8_wait 140 = .ok (.ldc 185, 2) := by decide +kernel
theorem dX8_wait_142 : decode cX8_wait 142 = .ok (.invokevirtual 81, 3) := by decide +kernel
theorem dX8_wait_145 : decode cX8_wait 145 = .ok (.ireturn, 1) := by decide +kernel
theorem dX8_fits_0 : decode cX8_fits 0 = .ok (.iload_n 1, 1) := by decide +kernel
theorem dX8_fits_1 : decode cX8_fits 1 = .ok (.iconst 0, 1) := by decide +kernel
theorem dX8_fits_2 : decode cX8_fits 2 = .ok (.sipush 1000, 3) := by decide +kernel
theorem dX8_fits_5 : decode cX8_fits 5 = .ok (.invokestatic 76, 3) := by decide +kernel
theorem dX8_fits_8 : decode cX8_fits 8 = .ok (.ifCond .ne 10, 3) := by decide +kernel
theorem dX8_fits_11 : decode cX8_fits 11 = .ok (.aload_n 0, 1) := by decide +kernel
theorem dX8_fits_12 : decode cX8_fits 12 = .ok (.ldc 80, 2) := by decide +kernel
theorem dX8_fits_14 : decode cX8_fits 14 = .ok (.invokevirtual 81, 3) := by decide +kernel
theorem dX8_fits_17 : decode cX8_fits 17 = .ok (.ireturn, 1) := by decide +kernel
theorem dX8_fits_18 : decode cX8_fits 18 = .ok (.aload_n 0, 1) := by decide +kernel
theorem dX8_fits_19 : decode cX8_fits 19 = .ok (.getfield 40, 3) := by decide +kernel
theorem dX8_fits_22 : decode cX8_fits 22 = .ok (.invokevirtual 152, 3) := by decide +kernel
theorem dX8_fits_25 : decode cX8_fits 25 = .ok (.iload_n 1, 1) := by decide +kernel
theorem dX8_fits_26 : decode cX8_fits 26 = .ok (.istore_n 3, 1) := by decide +kernel
theorem dX8_fits_27 : decode cX8_fits 27 = .ok (.iconst 0, 1) := by decide +kernel
theorem dX8_fits_28 : decode cX8_fits 28 = .ok (.istore 4, 2) := by decide +kernel
theorem dX8_fits_30 : decode cX8_fits 30 = .ok (.iconst 0, 1) := by decide +kernel
theorem dX8_fits_31 : decode cX8_fits 31 = .ok (.istore 5, 2) := by decide +kernel
theorem dX8_fits_33 : decode cX8_fits 33 = .ok (.iload 5, 2) := by decide +kernel
theorem dX8_fits_35 : decode cX8_fits 35 = .ok (.aload_n 0, 1) := by decide +kernel
theorem dX8_fits_36 : decode cX8_fits 36 = .ok (.getfield 40, 3) := by decide +kernel
theorem dX8_fits_39 : decode cX8_fits 39 = .ok (.invokevirtual 155, 3) := by decide +kernel
theorem dX8_fits_42 : decode cX8_fits 42 = .ok (.if_icmp .ge 68, 3) := by decide +kernel
theorem dX8_fits_45 : decode cX8_fits 45 = .ok (.aload_n 0, 1) := by decide +kernel
theorem dX8_fits_46 : decode cX8_fits 46 = .ok (.getfield 40, 3) := by decide +kernel
theorem dX8_fits_49 : decode cX8_fits 49 = .ok (.iload 5, 2) := by decide +kernel
theorem dX8_fits_51 : decode cX8_fits 51 = .ok (.invokevirtual 156, 3) := by decide +kernel
theorem dX8_fits_54 : decode cX8_fits 54 = .ok (.istore 6, 2) := by decide +kernel
theorem dX8_fits_56 : decode cX8_fits 56 = .ok (.aload_n 0, 1) := by decide +kernel
theorem dX8_fits_57 : decode cX8_fits 57 = .ok (.aload_n 0, 1) := by decide +kernel
theorem dX8_fits_58 : decode cX8_fits 58 = .ok (.getfield 21, 3) := by decide +kernel
theorem dX8_fits_61 : decode cX8_fits 61 = .ok (.iload 6, 2) := by decide +kernel
theorem dX8_fits_63 : decode cX8_fits 63 = .ok (.invokevirtual 162, 3) := by decide +kernel
theorem dX8_fits_66 : decode cX8_fits 66 = .ok (.aload_n 0, 1) := by decide +kernel
theorem dX8_fits_67 : decode cX8_fits 67 = .ok (.getfield 21, 3) := by decide +kernel
theorem dX8_fits_70 : decode cX8_fits 70 = .ok (.iload 6, 2) := by decide +kernel
theorem dX8_fits_72 : decode cX8_fits 72 = .ok (.invokevirtual 159, 3) := by decide +kernel
theorem dX8_fits_75 : decode cX8_fits 75 = .ok (.invokevirtual 179, 3) := by decide +kernel
theorem dX8_fits_78 : decode cX8_fits 78 = .ok (.istore 7, 2) := by decide +kernel
theorem dX8_fits_80 : decode cX8_fits 80 = .ok (.iload 7, 2) := by decide +kernel
theorem dX8_fits_82 : decode cX8_fits 82 = .ok (.iload_n 3, 1) := by decide +kernel
theorem dX8_fits_83 : decode cX8_fits 83 = .ok (.if_icmp .gt 14, 3) := by decide +kernel
theorem dX8_fits_86 : decode cX8_fits 86 = .ok (.iload_n 3, 1) := by decide +kernel
theorem dX8_fits_87 : decode cX8_fits 87 = .ok (.iload 7, 2) := by decide +kernel
theorem dX8_fits_89 : decode cX8_fits 89 = .ok (.isub, 1) := by decide +kernel
theorem dX8_fits_90 : decode cX8_fits 90 = .ok (.istore_n 3, 1) := by decide +kernel
theorem dX8_fits_91 : decode cX8_fits 91 = .ok (.iinc 4 1, 3) := by decide +kernel
theorem dX8_fits_94 : decode cX8_fits 94 = .ok (.goto 10, 3) := by decide +kernel
theorem dX8_fits_97 : decode cX8_fits 97 = .ok (.iload_n 2, 1) := by decide +kernel
theorem dX8_fits_98 : decode cX8_fits 98 = .ok (.ifCond .ne 6, 3) := by decide +kernel
theorem dX8_fits_101 : decode cX8_fits 101 = .ok (.iload 4, 2) := by decide +kernel
theorem dX8_fits_103 : decode cX8_fits 103 = .ok (.ireturn, 1) := by decide +kernel
theorem dX8_fits_104 : decode cX8_fits 104 = .ok (.iinc 5 1, 3) := by decide +kernel
theorem dX8_fits_107 : decode cX8_fits 107 = .ok (.goto (-74), 3) := by decide +kernel
theorem dX8_fits_110 : decode cX8_fits 110 = .ok (.iload 4, 2) := by decide +kernel
theorem dX8_fits_112 : decode cX8_fits 112 = .ok (.ireturn, 1) := by decide +kernel
theorem dX8_begin_0 : decode cX8_begin 0 = .ok (.aload_n 0, 1) := by decide +kernel
theorem dX8_begin_1 : decode cX8_begin 1 = .ok (.getfield 47, 3) := by decide +kernel
theorem dX8_begin_4 : decode cX8_begin 4 = .ok (.invokevirtual 186, 3) := by decide +kernel
theorem dX8_begin_7 : decode cX8_begin 7 = .ok (.ifCond .eq 10, 3) := by decide +kernel
theorem dX8_begin_10 : decode cX8_begin 10 = .ok (.aload_n 0, 1) := by decide +kernel
theorem dX8_begin_11 : decode cX8_begin 11 = .ok (.ldc 190, 2) := by decide +kernel
theorem dX8_begin_13 : decode cX8_begin 13 = .ok (.invokevirtual 81, 3) := by decide +kernel
theorem dX8_begin_16 : decode cX8_begin 16 = .ok (.ireturn, 1) := by decide +kernel
theorem dX8_begin_17 : decode cX8_begin 17 = .ok (.aload_n 0, 1) := by decide +kernel
theorem dX8_begin_18 : decode cX8_begin 18 = .ok (.getfield 31, 3) := by decide +kernel
theorem dX8_begin_21 : decode cX8_begin 21 = .ok (.aload_n 0, 1) := by decide +kernel
theorem dX8_begin_22 : decode cX8_begin 22 = .ok (.getfield 21, 3) := by decide +kernel
theorem dX8_begin_25 : decode cX8_begin 25 = .ok (.iconst (-1), 1) := by decide +kernel
theorem dX8_begin_26 : decode cX8_begin 26 = .ok (.invokevirtual 172, 3) := by decide +kernel
theorem dX8_begin_29 : decode cX8_begin 29 = .ok (.istore_n 1, 1) := by decide +kernel
theorem dX8_begin_30 : decode cX8_begin 30 = .ok (.iload_n 1, 1) := by decide +kernel
theorem dX8_begin_31 : decode cX8_begin 31 = .ok (.iconst (-1), 1) := by decide +kernel
theorem dX8_begin_32 : decode cX8_begin 32 = .ok (.if_icmp .ne 10, 3) := by decide +kernel
theorem dX8_begin_35 : decode cX8_begin 35 = .ok (.aload_n 0, 1) := by decide +kernel
theorem dX8_begin_36 : decode cX8_begin 36 = .ok (.ldc 137, 2) := by decide +kernel
theorem dX8_begin_38 : decode cX8_begin 38 = .ok (.invokevirtual 81, 3) := by decide +kernel
theorem dX8_begin_41 : decode cX8_begin 41 = .ok (.ireturn, 1) := by decide +kernel
theorem dX8_begin_42 : decode cX8_begin 42 = .ok (.aload_n 0, 1) := by decide +kernel
theorem dX8_begin_43 : decode cX8_begin 43 = .ok (.iload_n 1, 1) := by decide +kernel
theorem dX8_begin_44 : decode cX8_begin 44 = .ok (.invokevirtual 191, 3) := by decide +kernel
theorem dX8_begin_47 : decode cX8_begin 47 = .ok (.ireturn, 1) := by decide +kernel
theorem dX8_cut_0 : decode cX8_cut 0 = .ok (.aload_n 0, 1) := by decide +kernel
theorem dX8_cut_1 : decode cX8_cut 1 = .ok (.getfield 31, 3) := by decide +kernel
theorem dX8_cut_4 : decode cX8_cut 4 = .ok (.aload_n 0, 1) := by decide +kernel
theorem dX8_cut_5 : decode cX8_cut 5 = .ok (.getfield 21, 3) := by decide +kernel
theorem dX8_cut_8 : decode cX8_cut 8 = .ok (.iconst 2, 1) := by decide +kernel
theorem dX8_cut_9 : decode cX8_cut 9 = .ok (.invokevirtual 172, 3) := by decide +kernel
theorem dX8_cut_12 : decode cX8_cut 12 = .ok (.istore_n 1, 1) := by decide +kernel
theorem dX8_cut_13 : decode cX8_cut 13 = .ok (.aload_n 0, 1) := by decide +kernel
theorem dX8_cut_14 : decode cX8_cut 14 = .ok (.getfield 47, 3) := by decide +kernel
theorem dX8_cut_17 : decode cX8_cut 17 = .ok (.invokevirtual 186, 3) := by decide +kernel
theorem dX8_cut_20 : decode cX8_cut 20 = .ok (.ifCond .eq 8, 3) := by decide +kernel
theorem dX8_cut_23 : decode cX8_cut 23 = .ok (.iload_n 1, 1) := by decide +kernel
theorem dX8_cut_24 : decode cX8_cut 24 = .ok (.iconst (-1), 1) := by decide +kernel
theorem dX8_cut_25 : decode cX8_cut 25 = .ok (.if_icmp .ne 10, 3) := by decide +kernel
theorem dX8_cut_28 : decode cX8_cut 28 = .ok (.aload_n 0, 1) := by decide +kernel
theorem dX8_cut_29 : decode cX8_cut 29 = .ok (.ldc 137, 2) := by decide +kernel
theorem dX8_cut_31 : decode cX8_cut 31 = .ok (.invokevirtual 81, 3) := by decide +kernel
theorem dX8_cut_34 : decode cX8_cut 34 = .ok (.ireturn, 1) := by decide +kernel
theorem dX8_cut_35 : decode cX8_cut 35 = .ok (.aload_n 0, 1) := by decide +kernel
theorem dX8_cut_36 : decode cX8_cut 36 = .ok (.getfield 47, 3) := by decide +kernel
theorem dX8_cut_39 : decode cX8_cut 39 = .ok (.invokevirtual 194, 3) := by decide +kernel
theorem dX8_cut_42 : decode cX8_cut 42 = .ok (.iconst 4, 1) := by decide +kernel
theorem dX8_cut_43 : decode cX8_cut 43 = .ok (.if_icmp .lt 10, 3) := by decide +kernel
theorem dX8_cut_46 : decode cX8_cut 46 = .ok (.aload_n 0, 1) := by decide +kernel
theorem dX8_cut_47 : decode cX8_cut 47 = .ok (.ldc 89, 2) := by decide +kernel
theorem dX8_cut_49 : decode cX8_cut 49 = .ok (.invokevirtual 81, 3) := by decide +kernel
theorem dX8_cut_52 : decode cX8_cut 52 = .ok (.ireturn, 1) := by decide +kernel
theorem dX8_cut_53 : decode cX8_cut 53 = .ok (.aload_n 0, 1) := by decide +kernel
theorem dX8_cut_54 : decode cX8_cut 54 = .ok (.iload_n 1, 1) := by decide +kernel
theorem dX8_cut_55 : decode cX8_cut 55 = .ok (.invokevirtual 191, 3) := by decide +kernel
theorem dX8_cut_58 : decode cX8_cut 58 = .ok (.ireturn, 1) := by decide +kernel
theorem dX8_tick_0 : decode cX8_tick 0 = .ok (.iload_n 1, 1) := by decide +kernel
theorem dX8_tick_1 : decode cX8_tick 1 = .ok (.iconst 1, 1) := by decide +kernel
theorem dX8_tick_2 : decode cX8_tick 2 = .ok (.bipush 100, 2) := by decide +kernel
theorem dX8_tick_4 : decode cX8_tick 4 = .ok (.invokestatic 76, 3) := by decide +kernel
theorem dX8_tick_7 : decode cX8_tick 7 = .ok (.ifCond .ne 10, 3) := by decide +kernel
theorem dX8_tick_10 : decode cX8_tick 10 = .ok (.aload_n 0, 1) := by decide +kernel
theorem dX8_tick_11 : decode cX8_tick 11 = .ok (.ldc 80, 2) := by decide +kernel
theorem dX8_tick_13 : decode cX8_tick 13 = .ok (.invokevirtual 81, 3) := by decide +kernel
theorem dX8_tick_16 : decode cX8_tick 16 = .ok (.ireturn, 1) := by decide +kernel
theorem dX8_tick_17 : decode cX8_tick 17 = .ok (.iconst 0, 1) := by decide +kernel
theorem dX8_tick_18 : decode cX8_tick 18 = .ok (.istore_n 2, 1) := by decide +kernel
theorem dX8_tick_19 : decode cX8_tick 19 = .ok (.iconst 0, 1) := by decide +kernel
theorem dX8_tick_20 : decode cX8_tick 20 = .ok (.istore_n 3, 1) := by decide +kernel
theorem dX8_tick_21 : decode cX8_tick 21 = .ok (.iload_n 3, 1) := by decide +kernel
theorem dX8_tick_22 : decode cX8_tick 22 = .ok (.iload_n 1, 1) := by decide +kernel
theorem dX8_tick_23 : decode cX8_tick 23 = .ok (.if_icmp .ge 58, 3) := by decide +kernel
theorem dX8_tick_26 : decode cX8_tick 26 = .ok (.aload_n 0, 1) := by decide +kernel
theorem dX8_tick_27 : decode cX8_tick 27 = .ok (.getfield 47, 3) := by decide +kernel
theorem dX8_tick_30 : decode cX8_tick 30 = .ok (.invokevirtual 186, 3) := by decide +kernel
theorem dX8_tick_33 : decode cX8_tick 33 = .ok (.ifCond .eq 48, 3) := by decide +kernel
theorem dX8_tick_36 : decode cX8_tick 36 = .ok (.aload_n 0, 1) := by decide +kernel
theorem dX8_tick_37 : decode cX8_tick 37 = .ok (.getfield 21, 3) := by decide +kernel
theorem dX8_tick_40 : decode cX8_tick 40 = .ok (.aload_n 0, 1) := by decide +kernel
theorem dX8_tick_41 : decode cX8_tick 41 = .ok (.getfield 47, 3) := by decide +kernel
theorem dX8_tick_44 : decode cX8_tick 44 = .ok (.invokevirtual 197, 3) := by decide +kernel
theorem dX8_tick_47 : decode cX8_tick 47 = .ok (.iconst 1, 1) := by decide +kernel
theorem dX8_tick_48 : decode cX8_tick 48 = .ok (.invokevirtual 182, 3) := by decide +kernel
theorem dX8_tick_51 : decode cX8_tick 51 = .ok (.aload_n 0, 1) := by decide +kernel
theorem dX8_tick_52 : decode cX8_tick 52 = .ok (.getfield 47, 3) := by decide +kernel
theorem dX8_tick_55 : decode cX8_tick 55 = .ok (.invokevirtual 200, 3) := by decide +kernel
theorem dX8_tick_58 : decode cX8_tick 58 = .ok (.aload_n 0, 1) := by decide +kernel
theorem dX8_tick_59 : decode cX8_tick 59 = .ok (.getfield 47, 3) := by decide +kernel
theorem dX8_tick_62 : decode cX8_tick 62 = .ok (.invokevirtual 203, 3) := by decide +kernel
theorem dX8_tick_65 : decode cX8_tick 65 = .ok (.ifCond .gt 7, 3) := by decide +kernel
theorem dX8_tick_68 : decode cX8_tick 68 = .ok (.aload_n 0, 1) := by decide +kernel
theorem dX8_tick_69 : decode cX8_tick 69 = .ok (.invokevirtual 206, 3) := by decide +kernel
theorem dX8_tick_72 : decode cX8_tick 72 = .ok (.iinc 2 1, 3) := by decide +kernel
theorem dX8_tick_75 : decode cX8_tick 75 = .ok (.iinc 3 1, 3) := by decide +kernel
theorem dX8_tick_78 : decode cX8_tick 78 = .ok (.goto (-57), 3) := by decide +kernel
theorem dX8_tick_81 : decode cX8_tick 81 = .ok (.iload_n 2, 1) := by decide +kernel
theorem dX8_tick_82 : decode cX8_tick 82 = .ok (.ireturn, 1) := by decide +kernel
theorem dX8_yield_0 : decode cX8_yield 0 = .ok (.aload_n 0, 1) := by decide +kernel
theorem dX8_yield_1 : decode cX8_yield 1 = .ok (.getfield 47, 3) := by decide +kernel
theorem dX8_yield_4 : decode cX8_yield 4 = .ok (.invokevirtual 186, 3) := by decide +kernel
theorem dX8_yield_7 : decode cX8_yield 7 = .ok (.ifCond .ne 10, 3) := by decide +kernel
theorem dX8_yield_10 : decode cX8_yield 10 = .ok (.aload_n 0, 1) := by decide +kernel
theorem dX8_yield_11 : decode cX8_yield 11 = .ok (.ldc 137, 2) := by decide +kernel
theorem dX8_yield_13 : decode cX8_yield 13 = .ok (.invokevirtual 81, 3) := by decide +kernel
theorem dX8_yield_16 : decode cX8_yield 16 = .ok (.ireturn, 1) := by decide +kernel
theorem dX8_yield_17 : decode cX8_yield 17 = .ok (.aload_n 0, 1) := by decide +kernel
theorem dX8_yield_18 : decode cX8_yield 18 = .ok (.invokevirtual 206, 3) := by decide +kernel
theorem dX8_yield_21 : decode cX8_yield 21 = .ok (.aload_n 0, 1) := by decide +kernel
theorem dX8_yield_22 : decode cX8_yield 22 = .ok (.getfield 47, 3) := by decide +kernel
theorem dX8_yield_25 : decode cX8_yield 25 = .ok (.invokevirtual 197, 3) := by decide +kernel
theorem dX8_yield_28 : decode cX8_yield 28 = .ok (.ireturn, 1) := by decide +kernel
theorem dX8_floor_0 : decode cX8_floor 0 = .ok (.iload_n 1, 1) := by decide +kernel
theorem dX8_floor_1 : decode cX8_floor 1 = .ok (.iconst 0, 1) := by decide +kernel
theorem dX8_floor_2 : decode cX8_floor 2 = .ok (.iconst 3, 1) := by decide +kernel
theorem dX8_floor_3 : decode cX8_floor 3 = .ok (.invokestatic 76, 3) := by decide +kernel
theorem dX8_floor_6 : decode cX8_floor 6 = .ok (.ifCond .ne 10, 3) := by decide +kernel
theorem dX8_floor_9 : decode cX8_floor 9 = .ok (.aload_n 0, 1) := by decide +kernel
theorem dX8_floor_10 : decode cX8_floor 10 = .ok (.ldc 80, 2) := by decide +kernel
theorem dX8_floor_12 : decode cX8_floor 12 = .ok (.invokevirtual 81, 3) := by decide +kernel
theorem dX8_floor_15 : decode cX8_floor 15 = .ok (.ireturn, 1) := by decide +kernel
theorem dX8_floor_16 : decode cX8_floor 16 = .ok (.iload_n 1, 1) := by decide +kernel
theorem dX8_floor_17 : decode cX8_floor 17 = .ok (.iconst 3, 1) := by decide +kernel
theorem dX8_floor_18 : decode cX8_floor 18 = .ok (.if_icmp .ne 11, 3) := by decide +kernel
theorem dX8_floor_21 : decode cX8_floor 21 = .ok (.aload_n 0, 1) := by decide +kernel
theorem dX8_floor_22 : decode cX8_floor 22 = .ok (.getfield 47, 3) := by decide +kernel
theorem dX8_floor_25 : decode cX8_floor 25 = .ok (.invokevirtual 194, 3) := by decide +kernel
theorem dX8_floor_28 : decode cX8_floor 28 = .ok (.ireturn, 1) := by decide +kernel
theorem dX8_floor_29 : decode cX8_floor 29 = .ok (.aload_n 0, 1) := by decide +kernel
theorem dX8_floor_30 : decode cX8_floor 30 = .ok (.getfield 47, 3) := by decide +kernel
theorem dX8_floor_33 : decode cX8_floor 33 = .ok (.invokevirtual 186, 3) := by decide +kernel
theorem dX8_floor_36 : decode cX8_floor 36 = .ok (.ifCond .ne 10, 3) := by decide +kernel
theorem dX8_floor_39 : decode cX8_floor 39 = .ok (.aload_n 0, 1) := by decide +kernel
theorem dX8_floor_40 : decode cX8_floor 40 = .ok (.ldc 137, 2) := by decide +kernel
theorem dX8_floor_42 : decode cX8_floor 42 = .ok (.invokevirtual 81, 3) := by decide +kernel
theorem dX8_floor_45 : decode cX8_floor 45 = .ok (.ireturn, 1) := by decide +kernel
theorem dX8_floor_46 : decode cX8_floor 46 = .ok (.iload_n 1, 1) := by decide +kernel
theorem dX8_floor_47 : decode cX8_floor 47 = .ok (.lookupswitch 41 #[(0, 25), (1, 33)], 25) := by decide +kernel
theorem dX8_floor_72 : decode cX8_floor 72 = .ok (.aload_n 0, 1) := by decide +kernel
theorem dX8_floor_73 : decode cX8_floor 73 = .ok (.getfield 47, 3) := by decide +kernel
theorem dX8_floor_76 : decode cX8_floor 76 = .ok (.invokevirtual 197, 3) := by decide +kernel
theorem dX8_floor_79 : decode cX8_floor 79 = .ok (.ireturn, 1) := by decide +kernel
theorem dX8_floor_80 : decode cX8_floor 80 = .ok (.aload_n 0, 1) := by decide +kernel
theorem dX8_floor_81 : decode cX8_floor 81 = .ok (.getfield 47, 3) := by decide +kernel
theorem dX8_floor_84 : decode cX8_floor 84 = .ok (.invokevirtual 209, 3) := by decide +kernel
theorem dX8_floor_87 : decode cX8_floor 87 = .ok (.ireturn, 1) := by decide +kernel
theorem dX8_floor_88 : decode cX8_floor 88 = .ok (.aload_n 0, 1) := by decide +kernel
theorem dX8_floor_89 : decode cX8_floor 89 = .ok (.getfield 47, 3) := by decide +kernel
theorem dX8_floor_92 : decode cX8_floor 92 = .ok (.invokevirtual 203, 3) := by decide +kernel
theorem dX8_floor_95 : decode cX8_floor 95 = .ok (.ireturn, 1) := by decide +kernel
theorem dX8_limit_0 : decode cX8_limit 0 = .ok (.iload_n 1, 1) := by decide +kernel
theorem dX8_limit_1 : decode cX8_limit 1 = .ok (.iconst 0, 1) := by decide +kernel
theorem dX8_limit_2 : decode cX8_limit 2 = .ok (.iconst 2, 1) := by decide +kernel
theorem dX8_limit_3 : decode cX8_limit 3 = .ok (.invokestatic 76, 3) := by decide +kernel
theorem dX8_limit_6 : decode cX8_limit 6 = .ok (.ifCond .eq 13, 3) := by decide +kernel
theorem dX8_limit_9 : decode cX8_limit 9 = .ok (.iload_n 2, 1) := by decide +kernel
theorem dX8_limit_10 : decode cX8_limit 10 = .ok (.iconst 1, 1) := by decide +kernel
theorem dX8_limit_11 : decode cX8_limit 11 = .ok (.bipush 50, 2) := by decide +kernel
theorem dX8_limit_13 : decode cX8_limit 13 = .ok (.invokestatic 76, 3) := by decide +kernel
theorem dX8_limit_16 : decode cX8_limit 16 = .ok (.ifCond .ne 10, 3) := by decide +kernel
theorem dX8_limit_19 : decode cX8_limit 19 = .ok (.aload_n 0, 1) := by decide +kernel
theorem dX8_limit_20 : decode cX8_limit 20 = .ok (.ldc 80, 2) := by decide +kernel
theorem dX8_limit_22 : decode cX8_limit 22 = .ok (.invokevirtual 81, 3) := by decide +kernel
theorem dX8_limit_25 : decode cX8_limit 25 = .ok (.ireturn, 1) := by decide +kernel
theorem dX8_limit_26 : decode cX8_limit 26 = .ok (.aload_n 0, 1) := by decide +kernel
theorem dX8_limit_27 : decode cX8_limit 27 = .ok (.getfield 47, 3) := by decide +kernel
theorem dX8_limit_30 : decode cX8_limit 30 = .ok (.iload_n 1, 1) := by decide +kernel
theorem dX8_limit_31 : decode cX8_limit 31 = .ok (.invokevirtual 212, 3) := by decide +kernel
theorem dX8_limit_34 : decode cX8_limit 34 = .ok (.istore_n 3, 1) := by decide +kernel
theorem dX8_limit_35 : decode cX8_limit 35 = .ok (.aload_n 0, 1) := by decide +kernel
theorem dX8_limit_36 : decode cX8_limit 36 = .ok (.getfield 47, 3) := by decide +kernel
theorem dX8_limit_39 : decode cX8_limit 39 = .ok (.iload_n 1, 1) := by decide +kernel
theorem dX8_limit_40 : decode cX8_limit 40 = .ok (.iload_n 2, 1) := by decide +kernel
theorem dX8_limit_41 : decode cX8_limit 41 = .ok (.invokevirtual 215, 3) := by decide +kernel
theorem dX8_limit_44 : decode cX8_limit 44 = .ok (.iload_n 3, 1) := by decide +kernel
theorem dX8_limit_45 : decode cX8_limit 45 = .ok (.ireturn, 1) := by decide +kernel
theorem dX8_vote_0 : decode cX8_vote 0 = .ok (.aload_n 0, 1) := by decide +kernel
theorem dX8_vote_1 : decode cX8_vote 1 = .ok (.getfield 54, 3) := by decide +kernel
theorem dX8_vote_4 : decode cX8_vote 4 = .ok (.invokevirtual 218, 3) := by decide +kernel
theorem dX8_vote_7 : decode cX8_vote 7 = .ok (.ifCond .eq 10, 3) := by decide +kernel
theorem dX8_vote_10 : decode cX8_vote 10 = .ok (.aload_n 0, 1) := by decide +kernel
theorem dX8_vote_11 : decode cX8_vote 11 = .ok (.ldc 190, 2) := by decide +kernel
theorem dX8_vote_13 : decode cX8_vote 13 = .ok (.invokevirtual 81, 3) := by decide +kernel
theorem dX8_vote_16 : decode cX8_vote 16 = .ok (.ireturn, 1) := by decide +kernel
theorem dX8_vote_17 : decode cX8_vote 17 = .ok (.aload_n 0, 1) := by decide +kernel
theorem dX8_vote_18 : decode cX8_vote 18 = .ok (.getfield 54, 3) := by decide +kernel
theorem dX8_vote_21 : decode cX8_vote 21 = .ok (.invokevirtual 221, 3) := by decide +kernel
theorem dX8_vote_24 : decode cX8_vote 24 = .ok (.iconst 1, 1) := by decide +kernel
theorem dX8_vote_25 : decode cX8_vote 25 = .ok (.ireturn, 1) := by decide +kernel
theorem dX8_say_0 : decode cX8_say 0 = .ok (.aload_n 0, 1) := by decide +kernel
theorem dX8_say_1 : decode cX8_say 1 = .ok (.getfield 10, 3) := by decide +kernel
theorem dX8_say_4 : decode cX8_say 4 = .ok (.iload_n 1, 1) := by decide +kernel
theorem dX8_say_5 : decode cX8_say 5 = .ok (.invokevirtual 94, 3) := by decide +kernel
theorem dX8_say_8 : decode cX8_say 8 = .ok (.ifCond .eq 12, 3) := by decide +kernel
theorem dX8_say_11 : decode cX8_say 11 = .ok (.iload_n 2, 1) := by decide +kernel
theorem dX8_say_12 : decode cX8_say 12 = .ok (.iconst 0, 1) := by decide +kernel
theorem dX8_say_13 : decode cX8_say 13 = .ok (.iconst 2, 1) := by decide +kernel
theorem dX8_say_14 : decode cX8_say 14 = .ok (.invokestatic 76, 3) := by decide +kernel
theorem dX8_say_17 : decode cX8_say 17 = .ok (.ifCond .ne 10, 3) := by decide +kernel
theorem dX8_say_20 : decode cX8_say 20 = .ok (.aload_n 0, 1) := by decide +kernel
theorem dX8_say_21 : decode cX8_say 21 = .ok (.ldc 80, 2) := by decide +kernel
theorem dX8_say_23 : decode cX8_say 23 = .ok (.invokevirtual 81, 3) := by decide +kernel
theorem dX8_say_26 : decode cX8_say 26 = .ok (.ireturn, 1) := by decide +kernel
theorem dX8_say_27 : decode cX8_say 27 = .ok (.aload_n 0, 1) := by decide +kernel
theorem dX8_say_28 : decode cX8_say 28 = .ok (.getfield 54, 3) := by decide +kernel
theorem dX8_say_31 : decode cX8_say 31 = .ok (.invokevirtual 218, 3) := by decide +kernel
theorem dX8_say_34 : decode cX8_say 34 = .ok (.ifCond .ne 10, 3) := by decide +kernel
theorem dX8_say_37 : decode cX8_say 37 = .ok (.aload_n 0, 1) := by decide +kernel
theorem dX8_say_38 : decode cX8_say 38 = .ok (.ldc 137, 2) := by decide +kernel
theorem dX8_say_40 : decode cX8_say 40 = .ok (.invokevirtual 81, 3) := by decide +kernel
theorem dX8_say_43 : decode cX8_say 43 = .ok (.ireturn, 1) := by decide +kernel
theorem dX8_say_44 : decode cX8_say 44 = .ok (.aload_n 0, 1) := by decide +kernel
theorem dX8_say_45 : decode cX8_say 45 = .ok (.getfield 10, 3) := by decide +kernel
theorem dX8_say_48 : decode cX8_say 48 = .ok (.iload_n 1, 1) := by decide +kernel
theorem dX8_say_49 : decode cX8_say 49 = .ok (.invokevirtual 224, 3) := by decide +kernel
theorem dX8_say_52 : decode cX8_say 52 = .ok (.ifCond .ne 10, 3) := by decide +kernel
theorem dX8_say_55 : decode cX8_say 55 = .ok (.aload_n 0, 1) := by decide +kernel
theorem dX8_say_56 : decode cX8_say 56 = .ok (.ldc 102, 2) := by decide +kernel
theorem dX8_say_58 : decode cX8_say 58 = .ok (.invokevirtual 81, 3) := by decide +kernel
theorem dX8_say_61 : decode cX8_say 61 = .ok (.ireturn, 1) := by decide +kernel
theorem dX8_say_62 : decode cX8_say 62 = .ok (.aload_n 0, 1) := by decide +kernel
theorem dX8_say_63 : decode cX8_say 63 = .ok (.getfield 54, 3) := by decide +kernel
theorem dX8_say_66 : decode cX8_say 66 = .ok (.iload_n 1, 1) := by decide +kernel
theorem dX8_say_67 : decode cX8_say 67 = .ok (.invokevirtual 227, 3) := by decide +kernel
theorem dX8_say_70 : decode cX8_say 70 = .ok (.istore_n 3, 1) := by decide +kernel
theorem dX8_say_71 : decode cX8_say 71 = .ok (.aload_n 0, 1) := by decide +kernel
theorem dX8_say_72 : decode cX8_say 72 = .ok (.getfield 54, 3) := by decide +kernel
theorem dX8_say_75 : decode cX8_say 75 = .ok (.iload_n 1, 1) := by decide +kernel
theorem dX8_say_76 : decode cX8_say 76 = .ok (.iload_n 2, 1) := by decide +kernel
theorem dX8_say_77 : decode cX8_say 77 = .ok (.invokevirtual 230, 3) := by decide +kernel
theorem dX8_say_80 : decode cX8_say 80 = .ok (.iload_n 3, 1) := by decide +kernel
theorem dX8_say_81 : decode cX8_say 81 = .ok (.ireturn, 1) := by decide +kernel
theorem dX8_votes_0 : decode cX8_votes 0 = .ok (.iload_n 1, 1) := by decide +kernel
theorem dX8_votes_1 : decode cX8_votes 1 = .ok (.iconst 0, 1) := by decide +kernel
theorem dX8_votes_2 : decode cX8_votes 2 = .ok (.iconst 2, 1) := by decide +kernel
theorem dX8_votes_3 : decode cX8_votes 3 = .ok (.invokestatic 76, 3) := by decide +kernel
theorem dX8_votes_6 : decode cX8_votes 6 = .ok (.ifCond .ne 10, 3) := by decide +kernel
theorem dX8_votes_9 : decode cX8_votes 9 = .ok (.aload_n 0, 1) := by decide +kernel
theorem dX8_votes_10 : decode cX8_votes 10 = .ok (.ldc 80, 2) := by decide +kernel
theorem dX8_votes_12 : decode cX8_votes 12 = .ok (.invokevirtual 81, 3) := by decide +kernel
theorem dX8_votes_15 : decode cX8_votes 15 = .ok (.ireturn, 1) := by decide +kernel
theorem dX8_votes_16 : decode cX8_votes 16 = .ok (.aload_n 0, 1) := by decide +kernel
theorem dX8_votes_17 : decode cX8_votes 17 = .ok (.getfield 54, 3) := by decide +kernel
theorem dX8_votes_20 : decode cX8_votes 20 = .ok (.invokevirtual 218, 3) := by decide +kernel
theorem dX8_votes_23 : decode cX8_votes 23 = .ok (.ifCond .ne 10, 3) := by decide +kernel
theorem dX8_votes_26 : decode cX8_votes 26 = .ok (.aload_n 0, 1) := by decide +kernel
theorem dX8_votes_27 : decode cX8_votes 27 = .ok (.ldc 137, 2) := by decide +kernel
theorem dX8_votes_29 : decode cX8_votes 29 = .ok (.invokevirtual 81, 3) := by decide +kernel
theorem dX8_votes_32 : decode cX8_votes 32 = .ok (.ireturn, 1) := by decide +kernel
theorem dX8_votes_33 : decode cX8_votes 33 = .ok (.aload_n 0, 1) := by decide +kernel
theorem dX8_votes_34 : decode cX8_votes 34 = .ok (.getfield 54, 3) := by decide +kernel
theorem dX8_votes_37 : decode cX8_votes 37 = .ok (.iload_n 1, 1) := by decide +kernel
theorem dX8_votes_38 : decode cX8_votes 38 = .ok (.invokevirtual 233, 3) := by decide +kernel
theorem dX8_votes_41 : decode cX8_votes 41 = .ok (.ireturn, 1) := by decide +kernel
theorem dX8_close_0 : decode cX8_close 0 = .ok (.iload_n 1, 1) := by decide +kernel
theorem dX8_close_1 : decode cX8_close 1 = .ok (.invokestatic 236, 3) := by decide +kernel
theorem dX8_close_4 : decode cX8_close 4 = .ok (.ifCond .ne 10, 3) := by decide +kernel
theorem dX8_close_7 : decode cX8_close 7 = .ok (.aload_n 0, 1) := by decide +kernel
theorem dX8_close_8 : decode cX8_close 8 = .ok (.ldc 80, 2) := by decide +kernel
theorem dX8_close_10 : decode cX8_close 10 = .ok (.invokevirtual 81, 3) := by decide +kernel
theorem dX8_close_13 : decode cX8_close 13 = .ok (.ireturn, 1) := by decide +kernel
theorem dX8_close_14 : decode cX8_close 14 = .ok (.aload_n 0, 1) := by decide +kernel
theorem dX8_close_15 : decode cX8_close 15 = .ok (.getfield 54, 3) := by decide +kernel
theorem dX8_close_18 : decode cX8_close 18 = .ok (.invokevirtual 218, 3) := by decide +kernel
theorem dX8_close_21 : decode cX8_close 21 = .ok (.ifCond .ne 10, 3) := by decide +kernel
theorem dX8_close_24 : decode cX8_close 24 = .ok (.aload_n 0, 1) := by decide +kernel
theorem dX8_close_25 : decode cX8_close 25 = .ok (.ldc 137, 2) := by decide +kernel
theorem dX8_close_27 : decode cX8_close 27 = .ok (.invokevirtual 81, 3) := by decide +kernel
theorem dX8_close_30 : decode cX8_close 30 = .ok (.ireturn, 1) := by decide +kernel
theorem dX8_close_31 : decode cX8_close 31 = .ok (.iload_n 1, 1) := by decide +kernel
theorem dX8_close_32 : decode cX8_close 32 = .ok (.aload_n 0, 1) := by decide +kernel
theorem dX8_close_33 : decode cX8_close 33 = .ok (.getfield 54, 3) := by decide +kernel
theorem dX8_close_36 : decode cX8_close 36 = .ok (.iconst 1, 1) := by decide +kernel
theorem dX8_close_37 : decode cX8_close 37 = .ok (.invokevirtual 233, 3) := by decide +kernel
theorem dX8_close_40 : decode cX8_close 40 = .ok (.aload_n 0, 1) := by decide +kernel
theorem dX8_close_41 : decode cX8_close 41 = .ok (.getfield 54, 3) := by decide +kernel
theorem dX8_close_44 : decode cX8_close 44 = .ok (.iconst 2, 1) := by decide +kernel
theorem dX8_close_45 : decode cX8_close 45 = .ok (.invokevirtual 233, 3) := by decide +kernel
theorem dX8_close_48 : decode cX8_close 48 = .ok (.invokestatic 239, 3) := by decide +kernel
theorem dX8_close_51 : decode cX8_close 51 = .ok (.istore_n 2, 1) := by decide +kernel
theorem dX8_close_52 : decode cX8_close 52 = .ok (.aload_n 0, 1) := by decide +kernel
theorem dX8_close_53 : decode cX8_close 53 = .ok (.getfield 54, 3) := by decide +kernel
theorem dX8_close_56 : decode cX8_close 56 = .ok (.invokevirtual 242, 3) := by decide +kernel
theorem dX8_close_59 : decode cX8_close 59 = .ok (.iload_n 2, 1) := by decide +kernel
theorem dX8_close_60 : decode cX8_close 60 = .ok (.ifCond .eq 7, 3) := by decide +kernel
theorem dX8_close_63 : decode cX8_close 63 = .ok (.iconst 1, 1) := by decide +kernel
theorem dX8_close_64 : decode cX8_close 64 = .ok (.goto 4, 3) := by decide +kernel
theorem dX8_close_67 : decode cX8_close 67 = .ok (.iconst 0, 1) := by decide +kernel
theorem dX8_close_68 : decode cX8_close 68 = .ok (.ireturn, 1) := by decide +kernel
theorem dX8_hands_0 : decode cX8_hands 0 = .ok (.iload_n 1, 1) := by decide +kernel
theorem dX8_hands_1 : decode cX8_hands 1 = .ok (.invokestatic 236, 3) := by decide +kernel
theorem dX8_hands_4 : decode cX8_hands 4 = .ok (.ifCond .eq 36, 3) := by decide +kernel
theorem dX8_hands_7 : decode cX8_hands 7 = .ok (.iload_n 2, 1) := by decide +kernel
theorem dX8_hands_8 : decode cX8_hands 8 = .ok (.iconst 0, 1) := by decide +kernel
theorem dX8_hands_9 : decode cX8_hands 9 = .ok (.sipush 1000, 3) := by decide +kernel
theorem dX8_hands_12 : decode cX8_hands 12 = .ok (.invokestatic 76, 3) := by decide +kernel
theorem dX8_hands_15 : decode cX8_hands 15 = .ok (.ifCond .eq 25, 3) := by decide +kernel
theorem dX8_hands_18 : decode cX8_hands 18 = .ok (.iload_n 3, 1) := by decide +kernel
theorem dX8_hands_19 : decode cX8_hands 19 = .ok (.iconst 0, 1) := by decide +kernel
theorem dX8_hands_20 : decode cX8_hands 20 = .ok (.sipush 1000, 3) := by decide +kernel
theorem dX8_hands_23 : decode cX8_hands 23 = .ok (.invokestatic 76, 3) := by decide +kernel
theorem dX8_hands_26 : decode cX8_hands 26 = .ok (.ifCond .eq 14, 3) := by decide +kernel
theorem dX8_hands_29 : decode cX8_hands 29 = .ok (.iload 4, 2) := by decide +kernel
theorem dX8_hands_31 : decode cX8_hands 31 = .ok (.iconst 0, 1) := by decide +kernel
theorem dX8_hands_32 : decode cX8_hands 32 = .ok (.bipush 100, 2) := by decide +kernel
theorem dX8_hands_34 : decode cX8_hands 34 = .ok (.invokestatic 76, 3) := by decide +kernel
theorem dX8_hands_37 : decode cX8_hands 37 = .ok (.ifCond .ne 10, 3) := by decide +kernel
theorem dX8_hands_40 : decode cX8_hands 40 = .ok (.aload_n 0, 1) := by decide +kernel
theorem dX8_hands_41 : decode cX8_hands 41 = .ok (.ldc 80, 2) := by decide +kernel
theorem dX8_hands_43 : decode cX8_hands 43 = .ok (.invokevirtual 81, 3) := by decide +kernel
theorem dX8_hands_46 : decode cX8_hands 46 = .ok (.ireturn, 1) := by decide +kernel
theorem dX8_hands_47 : decode cX8_hands 47 = .ok (.iload_n 1, 1) := by decide +kernel
theorem dX8_hands_48 : decode cX8_hands 48 = .ok (.iconst 0, 1) := by decide +kernel
theorem dX8_hands_49 : decode cX8_hands 49 = .ok (.iload_n 2, 1) := by decide +kernel
theorem dX8_hands_50 : decode cX8_hands 50 = .ok (.iload 4, 2) := by decide +kernel
theorem dX8_hands_52 : decode cX8_hands 52 = .ok (.isub, 1) := by decide +kernel
theorem dX8_hands_53 : decode cX8_hands 53 = .ok (.invokestatic 245, 3) := by decide +kernel
theorem dX8_hands_56 : decode cX8_hands 56 = .ok (.iload_n 3, 1) := by decide +kernel
theorem dX8_hands_57 : decode cX8_hands 57 = .ok (.iload 4, 2) := by decide +kernel
theorem dX8_hands_59 : decode cX8_hands 59 = .ok (.iadd, 1) := by decide +kernel
theorem dX8_hands_60 : decode cX8_hands 60 = .ok (.invokestatic 239, 3) := by decide +kernel
theorem dX8_hands_63 : decode cX8_hands 63 = .ok (.ifCond .eq 5, 3) := by decide +kernel
theorem dX8_hands_66 : decode cX8_hands 66 = .ok (.iconst 1, 1) := by decide +kernel
theorem dX8_hands_67 : decode cX8_hands 67 = .ok (.ireturn, 1) := by decide +kernel
theorem dX8_hands_68 : decode cX8_hands 68 = .ok (.iload_n 1, 1) := by decide +kernel
theorem dX8_hands_69 : decode cX8_hands 69 = .ok (.iload_n 2, 1) := by decide +kernel
theorem dX8_hands_70 : decode cX8_hands 70 = .ok (.iload 4, 2) := by decide +kernel
theorem dX8_hands_72 : decode cX8_hands 72 = .ok (.iadd, 1) := by decide +kernel
theorem dX8_hands_73 : decode cX8_hands 73 = .ok (.iconst 0, 1) := by decide +kernel
theorem dX8_hands_74 : decode cX8_hands 74 = .ok (.iload_n 3, 1) := by decide +kernel
theorem dX8_hands_75 : decode cX8_hands 75 = .ok (.iload 4, 2) := by decide +kernel
theorem dX8_hands_77 : decode cX8_hands 77 = .ok (.isub, 1) := by decide +kernel
theorem dX8_hands_78 : decode cX8_hands 78 = .ok (.invokestatic 245, 3) := by decide +kernel
theorem dX8_hands_81 : decode cX8_hands 81 = .ok (.invokestatic 239, 3) := by decide +kernel
theorem dX8_hands_84 : decode cX8_hands 84 = .ok (.ifCond .eq 7, 3) := by decide +kernel
theorem dX8_hands_87 : decode cX8_hands 87 = .ok (.iconst 2, 1) := by decide +kernel
theorem dX8_hands_88 : decode cX8_hands 88 = .ok (.goto 4, 3) := by decide +kernel
theorem dX8_hands_91 : decode cX8_hands 91 = .ok (.iconst 0, 1) := by decide +kernel
theorem dX8_hands_92 : decode cX8_hands 92 = .ok (.ireturn, 1) := by decide +kernel
theorem dX8_apart_0 : decode cX8_apart 0 = .ok (.iconst 0, 1) := by decide +kernel
theorem dX8_apart_1 : decode cX8_apart 1 = .ok (.istore_n 1, 1) := by decide +kernel
theorem dX8_apart_2 : decode cX8_apart 2 = .ok (.iconst 0, 1) := by decide +kernel
theorem dX8_apart_3 : decode cX8_apart 3 = .ok (.istore_n 2, 1) := by decide +kernel
theorem dX8_apart_4 : decode cX8_apart 4 = .ok (.iconst 0, 1) := by decide +kernel
theorem dX8_apart_5 : decode cX8_apart 5 = .ok (.istore_n 3, 1) := by decide +kernel
theorem dX8_apart_6 : decode cX8_apart 6 = .ok (.iconst 0, 1) := by decide +kernel
theorem dX8_apart_7 : decode cX8_apart 7 = .ok (.istore 4, 2) := by decide +kernel
theorem dX8_apart_9 : decode cX8_apart 9 = .ok (.iload 4, 2) := by decide +kernel
theorem dX8_apart_11 : decode cX8_apart 11 = .ok (.iconst 5, 1) := by decide +kernel
theorem dX8_apart_12 : decode cX8_apart 12 = .ok (.if_icmp .ge 66, 3) := by decide +kernel
theorem dX8_apart_15 : decode cX8_apart 15 = .ok (.aload_n 0, 1) := by decide +kernel
theorem dX8_apart_16 : decode cX8_apart 16 = .ok (.getfield 10, 3) := by decide +kernel
theorem dX8_apart_19 : decode cX8_apart 19 = .ok (.iload 4, 2) := by decide +kernel
theorem dX8_apart_21 : decode cX8_apart 21 = .ok (.invokevirtual 250, 3) := by decide +kernel
theorem dX8_apart_24 : decode cX8_apart 24 = .ok (.ifCond .eq 48, 3) := by decide +kernel
theorem dX8_apart_27 : decode cX8_apart 27 = .ok (.aload_n 0, 1) := by decide +kernel
theorem dX8_apart_28 : decode cX8_apart 28 = .ok (.getfield 21, 3) := by decide +kernel
theorem dX8_apart_31 : decode cX8_apart 31 = .ok (.iload 4, 2) := by decide +kernel
theorem dX8_apart_33 : decode cX8_apart 33 = .ok (.invokevirtual 122, 3) := by decide +kernel
theorem dX8_apart_36 : decode cX8_apart 36 = .ok (.istore 5, 2) := by decide +kernel
theorem dX8_apart_38 : decode cX8_apart 38 = .ok (.iload_n 3, 1) := by decide +kernel
theorem dX8_apart_39 : decode cX8_apart 39 = .ok (.ifCond .eq 12, 3) := by decide +kernel
theorem dX8_apart_42 : decode cX8_apart 42 = .ok (.iload_n 1, 1) := by decide +kernel
theorem dX8_apart_43 : decode cX8_apart 43 = .ok (.iload 5, 2) := by decide +kernel
theorem dX8_apart_45 : decode cX8_apart 45 = .ok (.invokestatic 245, 3) := by decide +kernel
theorem dX8_apart_48 : decode cX8_apart 48 = .ok (.goto 5, 3) := by decide +kernel
theorem dX8_apart_51 : decode cX8_apart 51 = .ok (.iload 5, 2) := by decide +kernel
theorem dX8_apart_53 : decode cX8_apart 53 = .ok (.istore_n 1, 1) := by decide +kernel
theorem dX8_apart_54 : decode cX8_apart 54 = .ok (.iload_n 3, 1) := by decide +kernel
theorem dX8_apart_55 : decode cX8_apart 55 = .ok (.ifCond .eq 12, 3) := by decide +kernel
theorem dX8_apart_58 : decode cX8_apart 58 = .ok (.iload_n 2, 1) := by decide +kernel
theorem dX8_apart_59 : decode cX8_apart 59 = .ok (.iload 5, 2) := by decide +kernel
theorem dX8_apart_61 : decode cX8_apart 61 = .ok (.invokestatic 253, 3) := by decide +kernel
theorem dX8_apart_64 : decode cX8_apart 64 = .ok (.goto 5, 3) := by decide +kernel
theorem dX8_apart_67 : decode cX8_apart 67 = .ok (.iload 5, 2) := by decide +kernel
theorem dX8_apart_69 : decode cX8_apart 69 = .ok (.istore_n 2, 1) := by decide +kernel
theorem dX8_apart_70 : decode cX8_apart 70 = .ok (.iconst 1, 1) := by decide +kernel
theorem dX8_apart_71 : decode cX8_apart 71 = .ok (.istore_n 3, 1) := by decide +kernel
theorem dX8_apart_72 : decode cX8_apart 72 = .ok (.iinc 4 1, 3) := by decide +kernel
theorem dX8_apart_75 : decode cX8_apart 75 = .ok (.goto (-66), 3) := by decide +kernel
theorem dX8_apart_78 : decode cX8_apart 78 = .ok (.iload_n 1, 1) := by decide +kernel
theorem dX8_apart_79 : decode cX8_apart 79 = .ok (.iload_n 2, 1) := by decide +kernel
theorem dX8_apart_80 : decode cX8_apart 80 = .ok (.isub, 1) := by decide +kernel
theorem dX8_apart_81 : decode cX8_apart 81 = .ok (.ireturn, 1) := by decide +kernel
theorem dX8_uneven_0 : decode cX8_uneven 0 = .ok (.aload_n 0, 1) := by decide +kernel
theorem dX8_uneven_1 : decode cX8_uneven 1 = .ok (.invokevirtual 256, 3) := by decide +kernel
theorem dX8_uneven_4 : decode cX8_uneven 4 = .ok (.istore_n 2, 1) := by decide +kernel
theorem dX8_uneven_5 : decode cX8_uneven 5 = .ok (.aload_n 0, 1) := by decide +kernel
theorem dX8_uneven_6 : decode cX8_uneven 6 = .ok (.invokevirtual 259, 3) := by decide +kernel
theorem dX8_uneven_9 : decode cX8_uneven 9 = .ok (.aload_n 0, 1) := by decide +kernel
theorem dX8_uneven_10 : decode cX8_uneven 10 = .ok (.invokevirtual 262, 3) := by decide +kernel
theorem dX8_uneven_13 : decode cX8_uneven 13 = .ok (.imul, 1) := by decide +kernel
theorem dX8_uneven_14 : decode cX8_uneven 14 = .ok (.istore_n 3, 1) := by decide +kernel
theorem dX8_uneven_15 : decode cX8_uneven 15 = .ok (.iload_n 2, 1) := by decide +kernel
theorem dX8_uneven_16 : decode cX8_uneven 16 = .ok (.iload_n 3, 1) := by decide +kernel
theorem dX8_uneven_17 : decode cX8_uneven 17 = .ok (.invokestatic 265, 3) := by decide +kernel
theorem dX8_uneven_20 : decode cX8_uneven 20 = .ok (.istore 4, 2) := by decide +kernel
theorem dX8_uneven_22 : decode cX8_uneven 22 = .ok (.iload 4, 2) := by decide +kernel
theorem dX8_uneven_24 : decode cX8_uneven 24 = .ok (.ifCond .ne 13, 3) := by decide +kernel
theorem dX8_uneven_27 : decode cX8_uneven 27 = .ok (.iload_n 1, 1) := by decide +kernel
theorem dX8_uneven_28 : decode cX8_uneven 28 = .ok (.ifCond .eq 7, 3) := by decide +kernel
theorem dX8_uneven_31 : decode cX8_uneven 31 = .ok (.iconst 1, 1) := by decide +kernel
theorem dX8_uneven_32 : decode cX8_uneven 32 = .ok (.goto 4, 3) := by decide +kernel
theorem dX8_uneven_35 : decode cX8_uneven 35 = .ok (.iconst 0, 1) := by decide +kernel
theorem dX8_uneven_36 : decode cX8_uneven 36 = .ok (.ireturn, 1) := by decide +kernel
theorem dX8_uneven_37 : decode cX8_uneven 37 = .ok (.iload_n 1, 1) := by decide +kernel
theorem dX8_uneven_38 : decode cX8_uneven 38 = .ok (.ifCond .eq 7, 3) := by decide +kernel
theorem dX8_uneven_41 : decode cX8_uneven 41 = .ok (.iload_n 3, 1) := by decide +kernel
theorem dX8_uneven_42 : decode cX8_uneven 42 = .ok (.goto 4, 3) := by decide +kernel
theorem dX8_uneven_45 : decode cX8_uneven 45 = .ok (.iload_n 2, 1) := by decide +kernel
theorem dX8_uneven_46 : decode cX8_uneven 46 = .ok (.iload 4, 2) := by decide +kernel
theorem dX8_uneven_48 : decode cX8_uneven 48 = .ok (.idiv, 1) := by decide +kernel
theorem dX8_uneven_49 : decode cX8_uneven 49 = .ok (.ireturn, 1) := by decide +kernel
theorem dX8_minutes_0 : decode cX8_minutes 0 = .ok (.aload_n 0, 1) := by decide +kernel
theorem dX8_minutes_1 : decode cX8_minutes 1 = .ok (.getfield 61, 3) := by decide +kernel
theorem dX8_minutes_4 : decode cX8_minutes 4 = .ok (.iload_n 1, 1) := by decide +kernel
theorem dX8_minutes_5 : decode cX8_minutes 5 = .ok (.invokevirtual 268, 3) := by decide +kernel
theorem dX8_minutes_8 : decode cX8_minutes 8 = .ok (.ifCond .ne 10, 3) := by decide +kernel
theorem dX8_minutes_11 : decode cX8_minutes 11 = .ok (.aload_n 0, 1) := by decide +kernel
theorem dX8_minutes_12 : decode cX8_minutes 12 = .ok (.ldc 80, 2) := by decide +kernel
theorem dX8_minutes_14 : decode cX8_minutes 14 = .ok (.invokevirtual 81, 3) := by decide +kernel
theorem dX8_minutes_17 : decode cX8_minutes 17 = .ok (.ireturn, 1) := by decide +kernel
theorem dX8_minutes_18 : decode cX8_minutes 18 = .ok (.iload_n 2, 1) := by decide +kernel
theorem dX8_minutes_19 : decode cX8_minutes 19 = .ok (.tableswitch 72 0 3 #[29, 38, 47, 63], 29) := by decide +kernel
theorem dX8_minutes_48 : decode cX8_minutes 48 = .ok (.aload_n 0, 1) := by decide +kernel
theorem dX8_minutes_49 : decode cX8_minutes 49 = .ok (.getfield 61, 3) := by decide +kernel
theorem dX8_minutes_52 : decode cX8_minutes 52 = .ok (.iload_n 1, 1) := by decide +kernel
theorem dX8_minutes_53 : decode cX8_minutes 53 = .ok (.invokevirtual 269, 3) := by decide +kernel
theorem dX8_minutes_56 : decode cX8_minutes 56 = .ok (.ireturn, 1) := by decide +kernel
theorem dX8_minutes_57 : decode cX8_minutes 57 = .ok (.aload_n 0, 1) := by decide +kernel
theorem dX8_minutes_58 : decode cX8_minutes 58 = .ok (.getfield 61, 3) := by decide +kernel
theorem dX8_minutes_61 : decode cX8_minutes 61 = .ok (.iload_n 1, 1) := by decide +kernel
theorem dX8_minutes_62 : decode cX8_minutes 62 = .ok (.invokevirtual 270, 3) := by decide +kernel
theorem dX8_minutes_65 : decode cX8_minutes 65 = .ok (.ireturn, 1) := by decide +kernel
theorem dX8_minutes_66 : decode cX8_minutes 66 = .ok (.aload_n 0, 1) := by decide +kernel
theorem dX8_minutes_67 : decode cX8_minutes 67 = .ok (.getfield 61, 3) := by decide +kernel
theorem dX8_minutes_70 : decode cX8_minutes 70 = .ok (.iload_n 1, 1) := by decide +kernel
theorem dX8_minutes_71 : decode cX8_minutes 71 = .ok (.aload_n 0, 1) := by decide +kernel
theorem dX8_minutes_72 : decode cX8_minutes 72 = .ok (.getfield 61, 3) := by decide +kernel
theorem dX8_minutes_75 : decode cX8_minutes 75 = .ok (.invokevirtual 271, 3) := by decide +kernel
theorem dX8_minutes_78 : decode cX8_minutes 78 = .ok (.invokevirtual 274, 3) := by decide +kernel
theorem dX8_minutes_81 : decode cX8_minutes 81 = .ok (.ireturn, 1) := by decide +kernel
theorem dX8_minutes_82 : decode cX8_minutes 82 = .ok (.aload_n 0, 1) := by decide +kernel
theorem dX8_minutes_83 : decode cX8_minutes 83 = .ok (.getfield 61, 3) := by decide +kernel
theorem dX8_minutes_86 : decode cX8_minutes 86 = .ok (.iload_n 1, 1) := by decide +kernel
theorem dX8_minutes_87 : decode cX8_minutes 87 = .ok (.invokevirtual 277, 3) := by decide +kernel
theorem dX8_minutes_90 : decode cX8_minutes 90 = .ok (.ireturn, 1) := by decide +kernel
theorem dX8_minutes_91 : decode cX8_minutes 91 = .ok (.aload_n 0, 1) := by decide +kernel
theorem dX8_minutes_92 : decode cX8_minutes 92 = .ok (.ldc 80, 2) := by decide +kernel
theorem dX8_minutes_94 : decode cX8_minutes 94 = .ok (.invokevirtual 81, 3) := by decide +kernel
theorem dX8_minutes_97 : decode cX8_minutes 97 = .ok (.ireturn, 1) := by decide +kernel
theorem dX8_right_0 : decode cX8_right 0 = .ok (.aload_n 0, 1) := by decide +kernel
theorem dX8_right_1 : decode cX8_right 1 = .ok (.getfield 61, 3) := by decide +kernel
theorem dX8_right_4 : decode cX8_right 4 = .ok (.iload_n 1, 1) := by decide +kernel
theorem dX8_right_5 : decode cX8_right 5 = .ok (.invokevirtual 268, 3) := by decide +kernel
theorem dX8_right_8 : decode cX8_right 8 = .ok (.ifCond .eq 14, 3) := by decide +kernel
theorem dX8_right_11 : decode cX8_right 11 = .ok (.iload_n 2, 1) := by decide +kernel
theorem dX8_right_12 : decode cX8_right 12 = .ok (.iconst 0, 1) := by decide +kernel
theorem dX8_right_13 : decode cX8_right 13 = .ok (.sipush 200, 3) := by decide +kernel
theorem dX8_right_16 : decode cX8_right 16 = .ok (.invokestatic 76, 3) := by decide +kernel
theorem dX8_right_19 : decode cX8_right 19 = .ok (.ifCond .ne 10, 3) := by decide +kernel
theorem dX8_right_22 : decode cX8_right 22 = .ok (.aload_n 0, 1) := by decide +kernel
theorem dX8_right_23 : decode cX8_right 23 = .ok (.ldc 80, 2) := by decide +kernel
theorem dX8_right_25 : decode cX8_right 25 = .ok (.invokevirtual 81, 3) := by decide +kernel
theorem dX8_right_28 : decode cX8_right 28 = .ok (.ireturn, 1) := by decide +kernel
theorem dX8_right_29 : decode cX8_right 29 = .ok (.aload_n 0, 1) := by decide +kernel
theorem dX8_right_30 : decode cX8_right 30 = .ok (.getfield 61, 3) := by decide +kernel
theorem dX8_right_33 : decode cX8_right 33 = .ok (.invokevirtual 271, 3) := by decide +kernel
theorem dX8_right_36 : decode cX8_right 36 = .ok (.bipush 40, 2) := by decide +kernel
theorem dX8_right_38 : decode cX8_right 38 = .ok (.if_icmp .lt 10, 3) := by decide +kernel
theorem dX8_right_41 : decode cX8_right 41 = .ok (.aload_n 0, 1) := by decide +kernel
theorem dX8_right_42 : decode cX8_right 42 = .ok (.ldc 89, 2) := by decide +kernel
theorem dX8_right_44 : decode cX8_right 44 = .ok (.invokevirtual 81, 3) := by decide +kernel
theorem dX8_right_47 : decode cX8_right 47 = .ok (.ireturn, 1) := by decide +kernel
theorem dX8_right_48 : decode cX8_right 48 = .ok (.aload_n 0, 1) := by decide +kernel
theorem dX8_right_49 : decode cX8_right 49 = .ok (.getfield 61, 3) := by decide +kernel
theorem dX8_right_52 : decode cX8_right 52 = .ok (.iload_n 1, 1) := by decide +kernel
theorem dX8_right_53 : decode cX8_right 53 = .ok (.iload_n 2, 1) := by decide +kernel
theorem dX8_right_54 : decode cX8_right 54 = .ok (.invokevirtual 280, 3) := by decide +kernel
theorem dX8_right_57 : decode cX8_right 57 = .ok (.aload_n 0, 1) := by decide +kernel
theorem dX8_right_58 : decode cX8_right 58 = .ok (.getfield 61, 3) := by decide +kernel
theorem dX8_right_61 : decode cX8_right 61 = .ok (.invokevirtual 271, 3) := by decide +kernel
theorem dX8_right_64 : decode cX8_right 64 = .ok (.ireturn, 1) := by decide +kernel
theorem dX8_sum_0 : decode cX8_sum 0 = .ok (.aload_n 0, 1) := by decide +kernel
theorem dX8_sum_1 : decode cX8_sum 1 = .ok (.getfield 10, 3) := by decide +kernel
theorem dX8_sum_4 : decode cX8_sum 4 = .ok (.iload_n 1, 1) := by decide +kernel
theorem dX8_sum_5 : decode cX8_sum 5 = .ok (.invokevirtual 94, 3) := by decide +kernel
theorem dX8_sum_8 : decode cX8_sum 8 = .ok (.ifCond .eq 18, 3) := by decide +kernel
theorem dX8_sum_11 : decode cX8_sum 11 = .ok (.iload_n 2, 1) := by decide +kernel
theorem dX8_sum_12 : decode cX8_sum 12 = .ok (.iconst 0, 1) := by decide +kernel
theorem dX8_sum_13 : decode cX8_sum 13 = .ok (.aload_n 0, 1) := by decide +kernel
theorem dX8_sum_14 : decode cX8_sum 14 = .ok (.getfield 61, 3) := by decide +kernel
theorem dX8_sum_17 : decode cX8_sum 17 = .ok (.invokevirtual 271, 3) := by decide +kernel
theorem dX8_sum_20 : decode cX8_sum 20 = .ok (.invokestatic 76, 3) := by decide +kernel
theorem dX8_sum_23 : decode cX8_sum 23 = .ok (.ifCond .ne 10, 3) := by decide +kernel
theorem dX8_sum_26 : decode cX8_sum 26 = .ok (.aload_n 0, 1) := by decide +kernel
theorem dX8_sum_27 : decode cX8_sum 27 = .ok (.ldc 80, 2) := by decide +kernel
theorem dX8_sum_29 : decode cX8_sum 29 = .ok (.invokevirtual 81, 3) := by decide +kernel
theorem dX8_sum_32 : decode cX8_sum 32 = .ok (.ireturn, 1) := by decide +kernel
theorem dX8_sum_33 : decode cX8_sum 33 = .ok (.aload_n 0, 1) := by decide +kernel
theorem dX8_sum_34 : decode cX8_sum 34 = .ok (.getfield 61, 3) := by decide +kernel
theorem dX8_sum_37 : decode cX8_sum 37 = .ok (.iload_n 1, 1) := by decide +kernel
theorem dX8_sum_38 : decode cX8_sum 38 = .ok (.iload_n 2, 1) := by decide +kernel
theorem dX8_sum_39 : decode cX8_sum 39 = .ok (.invokevirtual 283, 3) := by decide +kernel
theorem dX8_sum_42 : decode cX8_sum 42 = .ok (.ireturn, 1) := by decide +kernel
theorem dX8_sheet_0 : decode cX8_sheet 0 = .ok (.aload_n 0, 1) := by decide +kernel
theorem dX8_sheet_1 : decode cX8_sheet 1 = .ok (.iload_n 1, 1) := by decide +kernel
theorem dX8_sheet_2 : decode cX8_sheet 2 = .ok (.invokevirtual 286, 3) := by decide +kernel
theorem dX8_sheet_5 : decode cX8_sheet 5 = .ok (.astore 4, 2) := by decide +kernel
theorem dX8_sheet_7 : decode cX8_sheet 7 = .ok (.aload 4, 2) := by decide +kernel
theorem dX8_sheet_9 : decode cX8_sheet 9 = .ok (.ifnull 10, 3) := by decide +kernel
theorem dX8_sheet_12 : decode cX8_sheet 12 = .ok (.iload_n 2, 1) := by decide +kernel
theorem dX8_sheet_13 : decode cX8_sheet 13 = .ok (.invokestatic 290, 3) := by decide +kernel
theorem dX8_sheet_16 : decode cX8_sheet 16 = .ok (.ifCond .ne 10, 3) := by decide +kernel
theorem dX8_sheet_19 : decode cX8_sheet 19 = .ok (.aload_n 0, 1) := by decide +kernel
theorem dX8_sheet_20 : decode cX8_sheet 20 = .ok (.ldc 80, 2) := by decide +kernel
theorem dX8_sheet_22 : decode cX8_sheet 22 = .ok (.invokevirtual 81, 3) := by decide +kernel
theorem dX8_sheet_25 : decode cX8_sheet 25 = .ok (.ireturn, 1) := by decide +kernel
theorem dX8_sheet_26 : decode cX8_sheet 26 = .ok (.iload_n 3, 1) := by decide +kernel
theorem dX8_sheet_27 : decode cX8_sheet 27 = .ok (.ifCond .ge 10, 3) := by decide +kernel
theorem dX8_sheet_30 : decode cX8_sheet 30 = .ok (.aload_n 0, 1) := by decide +kernel
theorem dX8_sheet_31 : decode cX8_sheet 31 = .ok (.ldc 131, 2) := by decide +kernel
theorem dX8_sheet_33 : decode cX8_sheet 33 = .ok (.invokevirtual 81, 3) := by decide +kernel
theorem dX8_sheet_36 : decode cX8_sheet 36 = .ok (.ireturn, 1) := by decide +kernel
theorem dX8_sheet_37 : decode cX8_sheet 37 = .ok (.iload_n 3, 1) := by decide +kernel
theorem dX8_sheet_38 : decode cX8_sheet 38 = .ok (.bipush 12, 2) := by decide +kernel
theorem dX8_sheet_40 : decode cX8_sheet 40 = .ok (.if_icmp .le 10, 3) := by decide +kernel
theorem dX8_sheet_43 : decode cX8_sheet 43 = .ok (.aload_n 0, 1) := by decide +kernel
theorem dX8_sheet_44 : decode cX8_sheet 44 = .ok (.ldc 80, 2) := by decide +kernel
theorem dX8_sheet_46 : decode cX8_sheet 46 = .ok (.invokevirtual 81, 3) := by decide +kernel
theorem dX8_sheet_49 : decode cX8_sheet 49 = .ok (.ireturn, 1) := by decide +kernel
theorem dX8_sheet_50 : decode cX8_sheet 50 = .ok (.aload 4, 2) := by decide +kernel
theorem dX8_sheet_52 : decode cX8_sheet 52 = .ok (.iload_n 2, 1) := by decide +kernel
theorem dX8_sheet_53 : decode cX8_sheet 53 = .ok (.iload_n 3, 1) := by decide +kernel
theorem dX8_sheet_54 : decode cX8_sheet 54 = .ok (.invokevirtual 293, 3) := by decide +kernel
theorem dX8_sheet_57 : decode cX8_sheet 57 = .ok (.aload 4, 2) := by decide +kernel
theorem dX8_sheet_59 : decode cX8_sheet 59 = .ok (.invokevirtual 295, 3) := by decide +kernel
theorem dX8_sheet_62 : decode cX8_sheet 62 = .ok (.ireturn, 1) := by decide +kernel
theorem dX8_put_0 : decode cX8_put 0 = .ok (.aload_n 0, 1) := by decide +kernel
theorem dX8_put_1 : decode cX8_put 1 = .ok (.iload_n 1, 1) := by decide +kernel
theorem dX8_put_2 : decode cX8_put 2 = .ok (.invokevirtual 286, 3) := by decide +kernel
theorem dX8_put_5 : decode cX8_put 5 = .ok (.astore 4, 2) := by decide +kernel
theorem dX8_put_7 : decode cX8_put 7 = .ok (.aload 4, 2) := by decide +kernel
theorem dX8_put_9 : decode cX8_put 9 = .ok (.ifnonnull 10, 3) := by decide +kernel
theorem dX8_put_12 : decode cX8_put 12 = .ok (.aload_n 0, 1) := by decide +kernel
theorem dX8_put_13 : decode cX8_put 13 = .ok (.ldc 80, 2) := by decide +kernel
theorem dX8_put_15 : decode cX8_put 15 = .ok (.invokevirtual 81, 3) := by decide +kernel
theorem dX8_put_18 : decode cX8_put 18 = .ok (.ireturn, 1) := by decide +kernel
theorem dX8_put_19 : decode cX8_put 19 = .ok (.aload 4, 2) := by decide +kernel
theorem dX8_put_21 : decode cX8_put 21 = .ok (.invokevirtual 296, 3) := by decide +kernel
theorem dX8_put_24 : decode cX8_put 24 = .ok (.ifCond .eq 11, 3) := by decide +kernel
theorem dX8_put_27 : decode cX8_put 27 = .ok (.aload_n 0, 1) := by decide +kernel
theorem dX8_put_28 : decode cX8_put 28 = .ok (.ldc_w 299, 3) := by decide +kernel
theorem dX8_put_31 : decode cX8_put 31 = .ok (.invokevirtual 81, 3) := by decide +kernel
theorem dX8_put_34 : decode cX8_put 34 = .ok (.ireturn, 1) := by decide +kernel
theorem dX8_put_35 : decode cX8_put 35 = .ok (.iload_n 2, 1) := by decide +kernel
theorem dX8_put_36 : decode cX8_put 36 = .ok (.iconst 0, 1) := by decide +kernel
theorem dX8_put_37 : decode cX8_put 37 = .ok (.aload 4, 2) := by decide +kernel
theorem dX8_put_39 : decode cX8_put 39 = .ok (.invokevirtual 295, 3) := by decide +kernel
theorem dX8_put_42 : decode cX8_put 42 = .ok (.iconst 1, 1) := by decide +kernel
theorem dX8_put_43 : decode cX8_put 43 = .ok (.isub, 1) := by decide +kernel
theorem dX8_put_44 : decode cX8_put 44 = .ok (.invokestatic 76, 3) := by decide +kernel
theorem dX8_put_47 : decode cX8_put 47 = .ok (.ifCond .ne 10, 3) := by decide +kernel
theorem dX8_put_50 : decode cX8_put 50 = .ok (.aload_n 0, 1) := by decide +kernel
theorem dX8_put_51 : decode cX8_put 51 = .ok (.ldc 80, 2) := by decide +kernel
theorem dX8_put_53 : decode cX8_put 53 = .ok (.invokevirtual 81, 3) := by decide +kernel
theorem dX8_put_56 : decode cX8_put 56 = .ok (.ireturn, 1) := by decide +kernel
theorem dX8_put_57 : decode cX8_put 57 = .ok (.aload 4, 2) := by decide +kernel
theorem dX8_put_59 : decode cX8_put 59 = .ok (.iload_n 2, 1) := by decide +kernel
theorem dX8_put_60 : decode cX8_put 60 = .ok (.iload_n 3, 1) := by decide +kernel
theorem dX8_put_61 : decode cX8_put 61 = .ok (.invokevirtual 300, 3) := by decide +kernel
theorem dX8_put_64 : decode cX8_put 64 = .ok (.iconst 0, 1) := by decide +kernel
theorem dX8_put_65 : decode cX8_put 65 = .ok (.ireturn, 1) := by decide +kernel
theorem dX8_copy_0 : decode cX8_copy 0 = .ok (.aload_n 0, 1) := by decide +kernel
theorem dX8_copy_1 : decode cX8_copy 1 = .ok (.iload_n 1, 1) := by decide +kernel
theorem dX8_copy_2 : decode cX8_copy 2 = .ok (.invokevirtual 286, 3) := by decide +kernel
theorem dX8_copy_5 : decode cX8_copy 5 = .ok (.astore 6, 2) := by decide +kernel
theorem dX8_copy_7 : decode cX8_copy 7 = .ok (.aload_n 0, 1) := by decide +kernel
theorem dX8_copy_8 : decode cX8_copy 8 = .ok (.iload_n 3, 1) := by decide +kernel
theorem dX8_copy_9 : decode cX8_copy 9 = .ok (.invokevirtual 286, 3) := by decide +kernel
theorem dX8_copy_12 : decode cX8_copy 12 = .ok (.astore 7, 2) := by decide +kernel
theorem dX8_copy_14 : decode cX8_copy 14 = .ok (.aload 6, 2) := by decide +kernel
theorem dX8_copy_16 : decode cX8_copy 16 = .ok (.ifnull 8, 3) := by decide +kernel
theorem dX8_copy_19 : decode cX8_copy 19 = .ok (.aload 7, 2) := by decide +kernel
theorem dX8_copy_21 : decode cX8_copy 21 = .ok (.ifnonnull 10, 3) := by decide +kernel
theorem dX8_copy_24 : decode cX8_copy 24 = .ok (.aload_n 0, 1) := by decide +kernel
theorem dX8_copy_25 : decode cX8_copy 25 = .ok (.ldc 80, 2) := by decide +kernel
theorem dX8_copy_27 : decode cX8_copy 27 = .ok (.invokevirtual 81, 3) := by decide +kernel
theorem dX8_copy_30 : decode cX8_copy 30 = .ok (.ireturn, 1) := by decide +kernel
theorem dX8_copy_31 : decode cX8_copy 31 = .ok (.aload 6, 2) := by decide +kernel
theorem dX8_copy_33 : decode cX8_copy 33 = .ok (.invokevirtual 296, 3) := by decide +kernel
theorem dX8_copy_36 : decode cX8_copy 36 = .ok (.ifCond .ne 11, 3) := by decide +kernel
theorem dX8_copy_39 : decode cX8_copy 39 = .ok (.aload 7, 2) := by decide +kernel
theorem dX8_copy_41 : decode cX8_copy 41 = .ok (.invokevirtual 296, 3) := by decide +kernel
theorem dX8_copy_44 : decode cX8_copy 44 = .ok (.ifCond .eq 11, 3) := by decide +kernel
theorem dX8_copy_47 : decode cX8_copy 47 = .ok (.aload_n 0, 1) := by decide +kernel
theorem dX8_copy_48 : decode cX8_copy 48 = .ok (.ldc_w 299, 3) := by decide +kernel
theorem dX8_copy_51 : decode cX8_copy 51 = .ok (.invokevirtual 81, 3) := by decide +kernel
theorem dX8_copy_54 : decode cX8_copy 54 = .ok (.ireturn, 1) := by decide +kernel
theorem dX8_copy_55 : decode cX8_copy 55 = .ok (.aload 6, 2) := by decide +kernel
theorem dX8_copy_57 : decode cX8_copy 57 = .ok (.invokevirtual 303, 3) := by decide +kernel
theorem dX8_copy_60 : decode cX8_copy 60 = .ok (.aload 7, 2) := by decide +kernel
theorem dX8_copy_62 : decode cX8_copy 62 = .ok (.invokevirtual 303, 3) := by decide +kernel
theorem dX8_copy_65 : decode cX8_copy 65 = .ok (.if_icmp .eq 10, 3) := by decide +kernel
theorem dX8_copy_68 : decode cX8_copy 68 = .ok (.aload_n 0, 1) := by decide +kernel
theorem dX8_copy_69 : decode cX8_copy 69 = .ok (.ldc 102, 2) := by decide +kernel
theorem dX8_copy_71 : decode cX8_copy 71 = .ok (.invokevirtual 81, 3) := by decide +kernel
theorem dX8_copy_74 : decode cX8_copy 74 = .ok (.ireturn, 1) := by decide +kernel
theorem dX8_copy_75 : decode cX8_copy 75 = .ok (.aload 6, 2) := by decide +kernel
theorem dX8_copy_77 : decode cX8_copy 77 = .ok (.iload_n 2, 1) := by decide +kernel
theorem dX8_copy_78 : decode cX8_copy 78 = .ok (.iload 5, 2) := by decide +kernel
theorem dX8_copy_80 : decode cX8_copy 80 = .ok (.invokevirtual 306, 3) := by decide +kernel
theorem dX8_copy_83 : decode cX8_copy 83 = .ok (.ifCond .eq 15, 3) := by decide +kernel
theorem dX8_copy_86 : decode cX8_copy 86 = .ok (.aload 7, 2) := by decide +kernel
theorem dX8_copy_88 : decode cX8_copy 88 = .ok (.iload 4, 2) := by decide +kernel
theorem dX8_copy_90 : decode cX8_copy 90 = .ok (.iload 5, 2) := by decide +kernel
theorem dX8_copy_92 : decode cX8_copy 92 = .ok (.invokevirtual 306, 3) := by decide +kernel
theorem dX8_copy_95 : decode cX8_copy 95 = .ok (.ifCond .ne 10, 3) := by decide +kernel
theorem dX8_copy_98 : decode cX8_copy 98 = .ok (.aload_n 0, 1) := by decide +kernel
theorem dX8_copy_99 : decode cX8_copy 99 = .ok (.ldc 80, 2) := by decide +kernel
theorem dX8_copy_101 : decode cX8_copy 101 = .ok (.invokevirtual 81, 3) := by decide +kernel
theorem dX8_copy_104 : decode cX8_copy 104 = .ok (.ireturn, 1) := by decide +kernel
theorem dX8_copy_105 : decode cX8_copy 105 = .ok (.aload 7, 2) := by decide +kernel
theorem dX8_copy_107 : decode cX8_copy 107 = .ok (.iload 4, 2) := by decide +kernel
theorem dX8_copy_109 : decode cX8_copy 109 = .ok (.aload 6, 2) := by decide +kernel
theorem dX8_copy_111 : decode cX8_copy 111 = .ok (.iload_n 2, 1) := by decide +kernel
theorem dX8_copy_112 : decode cX8_copy 112 = .ok (.iload 5, 2) := by decide +kernel
theorem dX8_copy_114 : decode cX8_copy 114 = .ok (.invokevirtual 309, 3) := by decide +kernel
theorem dX8_copy_117 : decode cX8_copy 117 = .ok (.iload 5, 2) := by decide +kernel
theorem dX8_copy_119 : decode cX8_copy 119 = .ok (.ireturn, 1) := by decide +kernel
theorem dX8_read_0 : decode cX8_read 0 = .ok (.aload_n 0, 1) := by decide +kernel
theorem dX8_read_1 : decode cX8_read 1 = .ok (.iload_n 1, 1) := by decide +kernel
theorem dX8_read_2 : decode cX8_read 2 = .ok (.invokevirtual 286, 3) := by decide +kernel
theorem dX8_read_5 : decode cX8_read 5 = .ok (.astore_n 2, 1) := by decide +kernel
theorem dX8_read_6 : decode cX8_read 6 = .ok (.aload_n 2, 1) := by decide +kernel
theorem dX8_read_7 : decode cX8_read 7 = .ok (.ifnonnull 10, 3) := by decide +kernel
theorem dX8_read_10 : decode cX8_read 10 = .ok (.aload_n 0, 1) := by decide +kernel
theorem dX8_read_11 : decode cX8_read 11 = .ok (.ldc 80, 2) := by decide +kernel
theorem dX8_read_13 : decode cX8_read 13 = .ok (.invokevirtual 81, 3) := by decide +kernel
theorem dX8_read_16 : decode cX8_read 16 = .ok (.ireturn, 1) := by decide +kernel
theorem dX8_read_17 : decode cX8_read 17 = .ok (.aload_n 2, 1) := by decide +kernel
theorem dX8_read_18 : decode cX8_read 18 = .ok (.invokevirtual 296, 3) := by decide +kernel
theorem dX8_read_21 : decode cX8_read 21 = .ok (.ifCond .eq 11, 3) := by decide +kernel
theorem dX8_read_24 : decode cX8_read 24 = .ok (.aload_n 0, 1) := by decide +kernel
theorem dX8_read_25 : decode cX8_read 25 = .ok (.ldc_w 299, 3) := by decide +kernel
theorem dX8_read_28 : decode cX8_read 28 = .ok (.invokevirtual 81, 3) := by decide +kernel
theorem dX8_read_31 : decode cX8_read 31 = .ok (.ireturn, 1) := by decide +kernel
theorem dX8_read_32 : decode cX8_read 32 = .ok (.aload_n 2, 1) := by decide +kernel
theorem dX8_read_33 : decode cX8_read 33 = .ok (.invokevirtual 312, 3) := by decide +kernel
theorem dX8_read_36 : decode cX8_read 36 = .ok (.istore_n 3, 1) := by decide +kernel
theorem dX8_read_37 : decode cX8_read 37 = .ok (.aload_n 2, 1) := by decide +kernel
theorem dX8_read_38 : decode cX8_read 38 = .ok (.iload_n 3, 1) := by decide +kernel
theorem dX8_read_39 : decode cX8_read 39 = .ok (.invokestatic 315, 3) := by decide +kernel
theorem dX8_read_42 : decode cX8_read 42 = .ok (.istore 4, 2) := by decide +kernel
theorem dX8_read_44 : decode cX8_read 44 = .ok (.iload 4, 2) := by decide +kernel
theorem dX8_read_46 : decode cX8_read 46 = .ok (.ifCond .eq 10, 3) := by decide +kernel
theorem dX8_read_49 : decode cX8_read 49 = .ok (.aload_n 0, 1) := by decide +kernel
theorem dX8_read_50 : decode cX8_read 50 = .ok (.iload 4, 2) := by decide +kernel
theorem dX8_read_52 : decode cX8_read 52 = .ok (.invokevirtual 81, 3) := by decide +kernel
theorem dX8_read_55 : decode cX8_read 55 = .ok (.ireturn, 1) := by decide +kernel
theorem dX8_read_56 : decode cX8_read 56 = .ok (.aload_n 0, 1) := by decide +kernel
theorem dX8_read_57 : decode cX8_read 57 = .ok (.getfield 31, 3) := by decide +kernel
theorem dX8_read_60 : decode cX8_read 60 = .ok (.invokevirtual 149, 3) := by decide +kernel
theorem dX8_read_63 : decode cX8_read 63 = .ok (.iconst 0, 1) := by decide +kernel
theorem dX8_read_64 : decode cX8_read 64 = .ok (.istore 5, 2) := by decide +kernel
theorem dX8_read_66 : decode cX8_read 66 = .ok (.iload 5, 2) := by decide +kernel
theorem dX8_read_68 : decode cX8_read 68 = .ok (.iload_n 3, 1) := by decide +kernel
theorem dX8_read_69 : decode cX8_read 69 = .ok (.if_icmp .ge 22, 3) := by decide +kernel
theorem dX8_read_72 : decode cX8_read 72 = .ok (.aload_n 0, 1) := by decide +kernel
theorem dX8_read_73 : decode cX8_read 73 = .ok (.getfield 31, 3) := by decide +kernel
theorem dX8_read_76 : decode cX8_read 76 = .ok (.aload_n 2, 1) := by decide +kernel
theorem dX8_read_77 : decode cX8_read 77 = .ok (.iload 5, 2) := by decide +kernel
theorem dX8_read_79 : decode cX8_read 79 = .ok (.invokevirtual 319, 3) := by decide +kernel
theorem dX8_read_82 : decode cX8_read 82 = .ok (.invokevirtual 147, 3) := by decide +kernel
theorem dX8_read_85 : decode cX8_read 85 = .ok (.iinc 5 1, 3) := by decide +kernel
