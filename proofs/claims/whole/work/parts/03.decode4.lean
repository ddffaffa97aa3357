theorem dX9_sheet_7 : decode cX9_sheet 7 = .ok (.iload_n 2, 1) := by decide +kernel
theorem dX9_sheet_8 : decode cX9_sheet 8 = .ok (.ifCond .eq 28, 3) := by decide +kernel
theorem dX9_sheet_11 : decode cX9_sheet 11 = .ok (.iload_n 2, 1) := by decide +kernel
theorem dX9_sheet_12 : decode cX9_sheet 12 = .ok (.bipush 8, 2) := by decide +kernel
theorem dX9_sheet_14 : decode cX9_sheet 14 = .ok (.if_icmp .eq 22, 3) := by decide +kernel
theorem dX9_sheet_17 : decode cX9_sheet 17 = .ok (.iload_n 2, 1) := by decide +kernel
theorem dX9_sheet_18 : decode cX9_sheet 18 = .ok (.bipush 16, 2) := by decide +kernel
theorem dX9_sheet_20 : decode cX9_sheet 20 = .ok (.if_icmp .eq 16, 3) := by decide +kernel
theorem dX9_sheet_23 : decode cX9_sheet 23 = .ok (.iload_n 2, 1) := by decide +kernel
theorem dX9_sheet_24 : decode cX9_sheet 24 = .ok (.bipush 32, 2) := by decide +kernel
theorem dX9_sheet_26 : decode cX9_sheet 26 = .ok (.if_icmp .eq 10, 3) := by decide +kernel
theorem dX9_sheet_29 : decode cX9_sheet 29 = .ok (.aload_n 0, 1) := by decide +kernel
theorem dX9_sheet_30 : decode cX9_sheet 30 = .ok (.ldc 109, 2) := by decide +kernel
theorem dX9_sheet_32 : decode cX9_sheet 32 = .ok (.invokevirtual 110, 3) := by decide +kernel
theorem dX9_sheet_35 : decode cX9_sheet 35 = .ok (.ireturn, 1) := by decide +kernel
theorem dX9_sheet_36 : decode cX9_sheet 36 = .ok (.iload_n 3, 1) := by decide +kernel
theorem dX9_sheet_37 : decode cX9_sheet 37 = .ok (.ifCond .ge 10, 3) := by decide +kernel
theorem dX9_sheet_40 : decode cX9_sheet 40 = .ok (.aload_n 0, 1) := by decide +kernel
theorem dX9_sheet_41 : decode cX9_sheet 41 = .ok (.ldc 136, 2) := by decide +kernel
theorem dX9_sheet_43 : decode cX9_sheet 43 = .ok (.invokevirtual 110, 3) := by decide +kernel
theorem dX9_sheet_46 : decode cX9_sheet 46 = .ok (.ireturn, 1) := by decide +kernel
theorem dX9_sheet_47 : decode cX9_sheet 47 = .ok (.iload_n 3, 1) := by decide +kernel
theorem dX9_sheet_48 : decode cX9_sheet 48 = .ok (.bipush 12, 2) := by decide +kernel
theorem dX9_sheet_50 : decode cX9_sheet 50 = .ok (.if_icmp .le 10, 3) := by decide +kernel
theorem dX9_sheet_53 : decode cX9_sheet 53 = .ok (.aload_n 0, 1) := by decide +kernel
theorem dX9_sheet_54 : decode cX9_sheet 54 = .ok (.ldc 109, 2) := by decide +kernel
theorem dX9_sheet_56 : decode cX9_sheet 56 = .ok (.invokevirtual 110, 3) := by decide +kernel
theorem dX9_sheet_59 : decode cX9_sheet 59 = .ok (.ireturn, 1) := by decide +kernel
theorem dX9_sheet_60 : decode cX9_sheet 60 = .ok (.aload_n 0, 1) := by decide +kernel
theorem dX9_sheet_61 : decode cX9_sheet 61 = .ok (.getfield 72, 3) := by decide +kernel
theorem dX9_sheet_64 : decode cX9_sheet 64 = .ok (.iload_n 1, 1) := by decide +kernel
theorem dX9_sheet_65 : decode cX9_sheet 65 = .ok (.iload_n 2, 1) := by decide +kernel
theorem dX9_sheet_66 : decode cX9_sheet 66 = .ok (.iastore, 1) := by decide +kernel
theorem dX9_sheet_67 : decode cX9_sheet 67 = .ok (.aload_n 0, 1) := by decide +kernel
theorem dX9_sheet_68 : decode cX9_sheet 68 = .ok (.getfield 75, 3) := by decide +kernel
theorem dX9_sheet_71 : decode cX9_sheet 71 = .ok (.iload_n 1, 1) := by decide +kernel
theorem dX9_sheet_72 : decode cX9_sheet 72 = .ok (.iload_n 2, 1) := by decide +kernel
theorem dX9_sheet_73 : decode cX9_sheet 73 = .ok (.ifCond .ne 7, 3) := by decide +kernel
theorem dX9_sheet_76 : decode cX9_sheet 76 = .ok (.iconst 0, 1) := by decide +kernel
theorem dX9_sheet_77 : decode cX9_sheet 77 = .ok (.goto 4, 3) := by decide +kernel
theorem dX9_sheet_80 : decode cX9_sheet 80 = .ok (.iload_n 3, 1) := by decide +kernel
theorem dX9_sheet_81 : decode cX9_sheet 81 = .ok (.iastore, 1) := by decide +kernel
theorem dX9_sheet_82 : decode cX9_sheet 82 = .ok (.iconst 0, 1) := by decide +kernel
theorem dX9_sheet_83 : decode cX9_sheet 83 = .ok (.istore 4, 2) := by decide +kernel
theorem dX9_sheet_85 : decode cX9_sheet 85 = .ok (.iload 4, 2) := by decide +kernel
theorem dX9_sheet_87 : decode cX9_sheet 87 = .ok (.bipush 12, 2) := by decide +kernel
theorem dX9_sheet_89 : decode cX9_sheet 89 = .ok (.if_icmp .ge 22, 3) := by decide +kernel
theorem dX9_sheet_92 : decode cX9_sheet 92 = .ok (.aload_n 0, 1) := by decide +kernel
theorem dX9_sheet_93 : decode cX9_sheet 93 = .ok (.getfield 78, 3) := by decide +kernel
theorem dX9_sheet_96 : decode cX9_sheet 96 = .ok (.bipush 12, 2) := by decide +kernel
theorem dX9_sheet_98 : decode cX9_sheet 98 = .ok (.iload_n 1, 1) := by decide +kernel
theorem dX9_sheet_99 : decode cX9_sheet 99 = .ok (.imul, 1) := by decide +kernel
theorem dX9_sheet_100 : decode cX9_sheet 100 = .ok (.iload 4, 2) := by decide +kernel
theorem dX9_sheet_102 : decode cX9_sheet 102 = .ok (.iadd, 1) := by decide +kernel
theorem dX9_sheet_103 : decode cX9_sheet 103 = .ok (.iconst 0, 1) := by decide +kernel
theorem dX9_sheet_104 : decode cX9_sheet 104 = .ok (.iastore, 1) := by decide +kernel
theorem dX9_sheet_105 : decode cX9_sheet 105 = .ok (.iinc 4 1, 3) := by decide +kernel
theorem dX9_sheet_108 : decode cX9_sheet 108 = .ok (.goto (-23), 3) := by decide +kernel
theorem dX9_sheet_111 : decode cX9_sheet 111 = .ok (.aload_n 0, 1) := by decide +kernel
theorem dX9_sheet_112 : decode cX9_sheet 112 = .ok (.getfield 75, 3) := by decide +kernel
theorem dX9_sheet_115 : decode cX9_sheet 115 = .ok (.iload_n 1, 1) := by decide +kernel
theorem dX9_sheet_116 : decode cX9_sheet 116 = .ok (.iaload, 1) := by decide +kernel
theorem dX9_sheet_117 : decode cX9_sheet 117 = .ok (.ireturn, 1) := by decide +kernel
theorem dX9_put_0 : decode cX9_put 0 = .ok (.iload_n 1, 1) := by decide +kernel
theorem dX9_put_1 : decode cX9_put 1 = .ok (.invokestatic 213, 3) := by decide +kernel
theorem dX9_put_4 : decode cX9_put 4 = .ok (.ifCond .ne 10, 3) := by decide +kernel
theorem dX9_put_7 : decode cX9_put 7 = .ok (.aload_n 0, 1) := by decide +kernel
theorem dX9_put_8 : decode cX9_put 8 = .ok (.ldc 109, 2) := by decide +kernel
theorem dX9_put_10 : decode cX9_put 10 = .ok (.invokevirtual 110, 3) := by decide +kernel
theorem dX9_put_13 : decode cX9_put 13 = .ok (.ireturn, 1) := by decide +kernel
theorem dX9_put_14 : decode cX9_put 14 = .ok (.aload_n 0, 1) := by decide +kernel
theorem dX9_put_15 : decode cX9_put 15 = .ok (.getfield 72, 3) := by decide +kernel
theorem dX9_put_18 : decode cX9_put 18 = .ok (.iload_n 1, 1) := by decide +kernel
theorem dX9_put_19 : decode cX9_put 19 = .ok (.iaload, 1) := by decide +kernel
theorem dX9_put_20 : decode cX9_put 20 = .ok (.ifCond .ne 10, 3) := by decide +kernel
theorem dX9_put_23 : decode cX9_put 23 = .ok (.aload_n 0, 1) := by decide +kernel
theorem dX9_put_24 : decode cX9_put 24 = .ok (.ldc 216, 2) := by decide +kernel
theorem dX9_put_26 : decode cX9_put 26 = .ok (.invokevirtual 110, 3) := by decide +kernel
theorem dX9_put_29 : decode cX9_put 29 = .ok (.ireturn, 1) := by decide +kernel
theorem dX9_put_30 : decode cX9_put 30 = .ok (.iload_n 2, 1) := by decide +kernel
theorem dX9_put_31 : decode cX9_put 31 = .ok (.ifCond .lt 13, 3) := by decide +kernel
theorem dX9_put_34 : decode cX9_put 34 = .ok (.iload_n 2, 1) := by decide +kernel
theorem dX9_put_35 : decode cX9_put 35 = .ok (.aload_n 0, 1) := by decide +kernel
theorem dX9_put_36 : decode cX9_put 36 = .ok (.getfield 75, 3) := by decide +kernel
theorem dX9_put_39 : decode cX9_put 39 = .ok (.iload_n 1, 1) := by decide +kernel
theorem dX9_put_40 : decode cX9_put 40 = .ok (.iaload, 1) := by decide +kernel
theorem dX9_put_41 : decode cX9_put 41 = .ok (.if_icmp .lt 10, 3) := by decide +kernel
theorem dX9_put_44 : decode cX9_put 44 = .ok (.aload_n 0, 1) := by decide +kernel
theorem dX9_put_45 : decode cX9_put 45 = .ok (.ldc 109, 2) := by decide +kernel
theorem dX9_put_47 : decode cX9_put 47 = .ok (.invokevirtual 110, 3) := by decide +kernel
theorem dX9_put_50 : decode cX9_put 50 = .ok (.ireturn, 1) := by decide +kernel
theorem dX9_put_51 : decode cX9_put 51 = .ok (.aload_n 0, 1) := by decide +kernel
theorem dX9_put_52 : decode cX9_put 52 = .ok (.getfield 78, 3) := by decide +kernel
theorem dX9_put_55 : decode cX9_put 55 = .ok (.bipush 12, 2) := by decide +kernel
theorem dX9_put_57 : decode cX9_put 57 = .ok (.iload_n 1, 1) := by decide +kernel
theorem dX9_put_58 : decode cX9_put 58 = .ok (.imul, 1) := by decide +kernel
theorem dX9_put_59 : decode cX9_put 59 = .ok (.iload_n 2, 1) := by decide +kernel
theorem dX9_put_60 : decode cX9_put 60 = .ok (.iadd, 1) := by decide +kernel
theorem dX9_put_61 : decode cX9_put 61 = .ok (.aload_n 0, 1) := by decide +kernel
theorem dX9_put_62 : decode cX9_put 62 = .ok (.getfield 72, 3) := by decide +kernel
theorem dX9_put_65 : decode cX9_put 65 = .ok (.iload_n 1, 1) := by decide +kernel
theorem dX9_put_66 : decode cX9_put 66 = .ok (.iaload, 1) := by decide +kernel
theorem dX9_put_67 : decode cX9_put 67 = .ok (.bipush 8, 2) := by decide +kernel
theorem dX9_put_69 : decode cX9_put 69 = .ok (.if_icmp .ne 8, 3) := by decide +kernel
theorem dX9_put_72 : decode cX9_put 72 = .ok (.iload_n 3, 1) := by decide +kernel
theorem dX9_put_73 : decode cX9_put 73 = .ok (.i2b, 1) := by decide +kernel
theorem dX9_put_74 : decode cX9_put 74 = .ok (.goto 20, 3) := by decide +kernel
theorem dX9_put_77 : decode cX9_put 77 = .ok (.aload_n 0, 1) := by decide +kernel
theorem dX9_put_78 : decode cX9_put 78 = .ok (.getfield 72, 3) := by decide +kernel
theorem dX9_put_81 : decode cX9_put 81 = .ok (.iload_n 1, 1) := by decide +kernel
theorem dX9_put_82 : decode cX9_put 82 = .ok (.iaload, 1) := by decide +kernel
theorem dX9_put_83 : decode cX9_put 83 = .ok (.bipush 16, 2) := by decide +kernel
theorem dX9_put_85 : decode cX9_put 85 = .ok (.if_icmp .ne 8, 3) := by decide +kernel
theorem dX9_put_88 : decode cX9_put 88 = .ok (.iload_n 3, 1) := by decide +kernel
theorem dX9_put_89 : decode cX9_put 89 = .ok (.i2s, 1) := by decide +kernel
theorem dX9_put_90 : decode cX9_put 90 = .ok (.goto 4, 3) := by decide +kernel
theorem dX9_put_93 : decode cX9_put 93 = .ok (.iload_n 3, 1) := by decide +kernel
theorem dX9_put_94 : decode cX9_put 94 = .ok (.iastore, 1) := by decide +kernel
theorem dX9_put_95 : decode cX9_put 95 = .ok (.iconst 0, 1) := by decide +kernel
theorem dX9_put_96 : decode cX9_put 96 = .ok (.ireturn, 1) := by decide +kernel
theorem dX9_hasPart_0 : decode cX9_hasPart 0 = .ok (.iload_n 2, 1) := by decide +kernel
theorem dX9_hasPart_1 : decode cX9_hasPart 1 = .ok (.ifCond .lt 33, 3) := by decide +kernel
theorem dX9_hasPart_4 : decode cX9_hasPart 4 = .ok (.iload_n 3, 1) := by decide +kernel
theorem dX9_hasPart_5 : decode cX9_hasPart 5 = .ok (.ifCond .lt 29, 3) := by decide +kernel
theorem dX9_hasPart_8 : decode cX9_hasPart 8 = .ok (.iload_n 3, 1) := by decide +kernel
theorem dX9_hasPart_9 : decode cX9_hasPart 9 = .ok (.aload_n 0, 1) := by decide +kernel
theorem dX9_hasPart_10 : decode cX9_hasPart 10 = .ok (.getfield 75, 3) := by decide +kernel
theorem dX9_hasPart_13 : decode cX9_hasPart 13 = .ok (.iload_n 1, 1) := by decide +kernel
theorem dX9_hasPart_14 : decode cX9_hasPart 14 = .ok (.iaload, 1) := by decide +kernel
theorem dX9_hasPart_15 : decode cX9_hasPart 15 = .ok (.if_icmp .gt 19, 3) := by decide +kernel
theorem dX9_hasPart_18 : decode cX9_hasPart 18 = .ok (.iload_n 2, 1) := by decide +kernel
theorem dX9_hasPart_19 : decode cX9_hasPart 19 = .ok (.aload_n 0, 1) := by decide +kernel
theorem dX9_hasPart_20 : decode cX9_hasPart 20 = .ok (.getfield 75, 3) := by decide +kernel
theorem dX9_hasPart_23 : decode cX9_hasPart 23 = .ok (.iload_n 1, 1) := by decide +kernel
theorem dX9_hasPart_24 : decode cX9_hasPart 24 = .ok (.iaload, 1) := by decide +kernel
theorem dX9_hasPart_25 : decode cX9_hasPart 25 = .ok (.iload_n 3, 1) := by decide +kernel
theorem dX9_hasPart_26 : decode cX9_hasPart 26 = .ok (.isub, 1) := by decide +kernel
theorem dX9_hasPart_27 : decode cX9_hasPart 27 = .ok (.if_icmp .gt 7, 3) := by decide +kernel
theorem dX9_hasPart_30 : decode cX9_hasPart 30 = .ok (.iconst 1, 1) := by decide +kernel
theorem dX9_hasPart_31 : decode cX9_hasPart 31 = .ok (.goto 4, 3) := by decide +kernel
theorem dX9_hasPart_34 : decode cX9_hasPart 34 = .ok (.iconst 0, 1) := by decide +kernel
theorem dX9_hasPart_35 : decode cX9_hasPart 35 = .ok (.ireturn, 1) := by decide +kernel
theorem dX9_copy_0 : decode cX9_copy 0 = .ok (.iload_n 1, 1) := by decide +kernel
theorem dX9_copy_1 : decode cX9_copy 1 = .ok (.invokestatic 213, 3) := by decide +kernel
theorem dX9_copy_4 : decode cX9_copy 4 = .ok (.ifCond .eq 10, 3) := by decide +kernel
theorem dX9_copy_7 : decode cX9_copy 7 = .ok (.iload_n 3, 1) := by decide +kernel
theorem dX9_copy_8 : decode cX9_copy 8 = .ok (.invokestatic 213, 3) := by decide +kernel
theorem dX9_copy_11 : decode cX9_copy 11 = .ok (.ifCond .ne 10, 3) := by decide +kernel
theorem dX9_copy_14 : decode cX9_copy 14 = .ok (.aload_n 0, 1) := by decide +kernel
theorem dX9_copy_15 : decode cX9_copy 15 = .ok (.ldc 109, 2) := by decide +kernel
theorem dX9_copy_17 : decode cX9_copy 17 = .ok (.invokevirtual 110, 3) := by decide +kernel
theorem dX9_copy_20 : decode cX9_copy 20 = .ok (.ireturn, 1) := by decide +kernel
theorem dX9_copy_21 : decode cX9_copy 21 = .ok (.aload_n 0, 1) := by decide +kernel
theorem dX9_copy_22 : decode cX9_copy 22 = .ok (.getfield 72, 3) := by decide +kernel
theorem dX9_copy_25 : decode cX9_copy 25 = .ok (.iload_n 1, 1) := by decide +kernel
theorem dX9_copy_26 : decode cX9_copy 26 = .ok (.iaload, 1) := by decide +kernel
theorem dX9_copy_27 : decode cX9_copy 27 = .ok (.ifCond .eq 12, 3) := by decide +kernel
theorem dX9_copy_30 : decode cX9_copy 30 = .ok (.aload_n 0, 1) := by decide +kernel
theorem dX9_copy_31 : decode cX9_copy 31 = .ok (.getfield 72, 3) := by decide +kernel
theorem dX9_copy_34 : decode cX9_copy 34 = .ok (.iload_n 3, 1) := by decide +kernel
theorem dX9_copy_35 : decode cX9_copy 35 = .ok (.iaload, 1) := by decide +kernel
theorem dX9_copy_36 : decode cX9_copy 36 = .ok (.ifCond .ne 10, 3) := by decide +kernel
theorem dX9_copy_39 : decode cX9_copy 39 = .ok (.aload_n 0, 1) := by decide +kernel
theorem dX9_copy_40 : decode cX9_copy 40 = .ok (.ldc 216, 2) := by decide +kernel
theorem dX9_copy_42 : decode cX9_copy 42 = .ok (.invokevirtual 110, 3) := by decide +kernel
theorem dX9_copy_45 : decode cX9_copy 45 = .ok (.ireturn, 1) := by decide +kernel
theorem dX9_copy_46 : decode cX9_copy 46 = .ok (.aload_n 0, 1) := by decide +kernel
theorem dX9_copy_47 : decode cX9_copy 47 = .ok (.getfield 72, 3) := by decide +kernel
theorem dX9_copy_50 : decode cX9_copy 50 = .ok (.iload_n 1, 1) := by decide +kernel
theorem dX9_copy_51 : decode cX9_copy 51 = .ok (.iaload, 1) := by decide +kernel
theorem dX9_copy_52 : decode cX9_copy 52 = .ok (.aload_n 0, 1) := by decide +kernel
theorem dX9_copy_53 : decode cX9_copy 53 = .ok (.getfield 72, 3) := by decide +kernel
theorem dX9_copy_56 : decode cX9_copy 56 = .ok (.iload_n 3, 1) := by decide +kernel
theorem dX9_copy_57 : decode cX9_copy 57 = .ok (.iaload, 1) := by decide +kernel
theorem dX9_copy_58 : decode cX9_copy 58 = .ok (.if_icmp .eq 10, 3) := by decide +kernel
theorem dX9_copy_61 : decode cX9_copy 61 = .ok (.aload_n 0, 1) := by decide +kernel
theorem dX9_copy_62 : decode cX9_copy 62 = .ok (.ldc 122, 2) := by decide +kernel
theorem dX9_copy_64 : decode cX9_copy 64 = .ok (.invokevirtual 110, 3) := by decide +kernel
theorem dX9_copy_67 : decode cX9_copy 67 = .ok (.ireturn, 1) := by decide +kernel
theorem dX9_copy_68 : decode cX9_copy 68 = .ok (.aload_n 0, 1) := by decide +kernel
theorem dX9_copy_69 : decode cX9_copy 69 = .ok (.iload_n 1, 1) := by decide +kernel
theorem dX9_copy_70 : decode cX9_copy 70 = .ok (.iload_n 2, 1) := by decide +kernel
theorem dX9_copy_71 : decode cX9_copy 71 = .ok (.iload 5, 2) := by decide +kernel
theorem dX9_copy_73 : decode cX9_copy 73 = .ok (.invokevirtual 217, 3) := by decide +kernel
theorem dX9_copy_76 : decode cX9_copy 76 = .ok (.ifCond .eq 15, 3) := by decide +kernel
theorem dX9_copy_79 : decode cX9_copy 79 = .ok (.aload_n 0, 1) := by decide +kernel
theorem dX9_copy_80 : decode cX9_copy 80 = .ok (.iload_n 3, 1) := by decide +kernel
theorem dX9_copy_81 : decode cX9_copy 81 = .ok (.iload 4, 2) := by decide +kernel
theorem dX9_copy_83 : decode cX9_copy 83 = .ok (.iload 5, 2) := by decide +kernel
theorem dX9_copy_85 : decode cX9_copy 85 = .ok (.invokevirtual 217, 3) := by decide +kernel
theorem dX9_copy_88 : decode cX9_copy 88 = .ok (.ifCond .ne 10, 3) := by decide +kernel
theorem dX9_copy_91 : decode cX9_copy 91 = .ok (.aload_n 0, 1) := by decide +kernel
theorem dX9_copy_92 : decode cX9_copy 92 = .ok (.ldc 109, 2) := by decide +kernel
theorem dX9_copy_94 : decode cX9_copy 94 = .ok (.invokevirtual 110, 3) := by decide +kernel
theorem dX9_copy_97 : decode cX9_copy 97 = .ok (.ireturn, 1) := by decide +kernel
theorem dX9_copy_98 : decode cX9_copy 98 = .ok (.iconst 0, 1) := by decide +kernel
theorem dX9_copy_99 : decode cX9_copy 99 = .ok (.istore 6, 2) := by decide +kernel
theorem dX9_copy_101 : decode cX9_copy 101 = .ok (.iload 6, 2) := by decide +kernel
theorem dX9_copy_103 : decode cX9_copy 103 = .ok (.iload 5, 2) := by decide +kernel
theorem dX9_copy_105 : decode cX9_copy 105 = .ok (.if_icmp .ge 30, 3) := by decide +kernel
theorem dX9_copy_108 : decode cX9_copy 108 = .ok (.aload_n 0, 1) := by decide +kernel
theorem dX9_copy_109 : decode cX9_copy 109 = .ok (.getfield 96, 3) := by decide +kernel
theorem dX9_copy_112 : decode cX9_copy 112 = .ok (.iload 6, 2) := by decide +kernel
theorem dX9_copy_114 : decode cX9_copy 114 = .ok (.aload_n 0, 1) := by decide +kernel
theorem dX9_copy_115 : decode cX9_copy 115 = .ok (.getfield 78, 3) := by decide +kernel
theorem dX9_copy_118 : decode cX9_copy 118 = .ok (.bipush 12, 2) := by decide +kernel
theorem dX9_copy_120 : decode cX9_copy 120 = .ok (.iload_n 1, 1) := by decide +kernel
theorem dX9_copy_121 : decode cX9_copy 121 = .ok (.imul, 1) := by decide +kernel
theorem dX9_copy_122 : decode cX9_copy 122 = .ok (.iload_n 2, 1) := by decide +kernel
theorem dX9_copy_123 : decode cX9_copy 123 = .ok (.iadd, 1) := by decide +kernel
theorem dX9_copy_124 : decode cX9_copy 124 = .ok (.iload 6, 2) := by decide +kernel
theorem dX9_copy_126 : decode cX9_copy 126 = .ok (.iadd, 1) := by decide +kernel
theorem dX9_copy_127 : decode cX9_copy 127 = .ok (.iaload, 1) := by decide +kernel
theorem dX9_copy_128 : decode cX9_copy 128 = .ok (.iastore, 1) := by decide +kernel
theorem dX9_copy_129 : decode cX9_copy 129 = .ok (.iinc 6 1, 3) := by decide +kernel
theorem dX9_copy_132 : decode cX9_copy 132 = .ok (.goto (-31), 3) := by decide +kernel
theorem dX9_copy_135 : decode cX9_copy 135 = .ok (.iconst 0, 1) := by decide +kernel
theorem dX9_copy_136 : decode cX9_copy 136 = .ok (.istore 6, 2) := by decide +kernel
theorem dX9_copy_138 : decode cX9_copy 138 = .ok (.iload 6, 2) := by decide +kernel
theorem dX9_copy_140 : decode cX9_copy 140 = .ok (.iload 5, 2) := by decide +kernel
theorem dX9_copy_142 : decode cX9_copy 142 = .ok (.if_icmp .ge 31, 3) := by decide +kernel
theorem dX9_copy_145 : decode cX9_copy 145 = .ok (.aload_n 0, 1) := by decide +kernel
theorem dX9_copy_146 : decode cX9_copy 146 = .ok (.getfield 78, 3) := by decide +kernel
theorem dX9_copy_149 : decode cX9_copy 149 = .ok (.bipush 12, 2) := by decide +kernel
theorem dX9_copy_151 : decode cX9_copy 151 = .ok (.iload_n 3, 1) := by decide +kernel
theorem dX9_copy_152 : decode cX9_copy 152 = .ok (.imul, 1) := by decide +kernel
theorem dX9_copy_153 : decode cX9_copy 153 = .ok (.iload 4, 2) := by decide +kernel
theorem dX9_copy_155 : decode cX9_copy 155 = .ok (.iadd, 1) := by decide +kernel
theorem dX9_copy_156 : decode cX9_copy 156 = .ok (.iload 6, 2) := by decide +kernel
theorem dX9_copy_158 : decode cX9_copy 158 = .ok (.iadd, 1) := by decide +kernel
theorem dX9_copy_159 : decode cX9_copy 159 = .ok (.aload_n 0, 1) := by decide +kernel
theorem dX9_copy_160 : decode cX9_copy 160 = .ok (.getfield 96, 3) := by decide +kernel
theorem dX9_copy_163 : decode cX9_copy 163 = .ok (.iload 6, 2) := by decide +kernel
theorem dX9_copy_165 : decode cX9_copy 165 = .ok (.iaload, 1) := by decide +kernel
theorem dX9_copy_166 : decode cX9_copy 166 = .ok (.iastore, 1) := by decide +kernel
theorem dX9_copy_167 : decode cX9_copy 167 = .ok (.iinc 6 1, 3) := by decide +kernel
theorem dX9_copy_170 : decode cX9_copy 170 = .ok (.goto (-32), 3) := by decide +kernel
theorem dX9_copy_173 : decode cX9_copy 173 = .ok (.iload 5, 2) := by decide +kernel
theorem dX9_copy_175 : decode cX9_copy 175 = .ok (.ireturn, 1) := by decide +kernel
theorem dX9_read_0 : decode cX9_read 0 = .ok (.iload_n 1, 1) := by decide +kernel
theorem dX9_read_1 : decode cX9_read 1 = .ok (.invokestatic 213, 3) := by decide +kernel
theorem dX9_read_4 : decode cX9_read 4 = .ok (.ifCond .ne 10, 3) := by decide +kernel
theorem dX9_read_7 : decode cX9_read 7 = .ok (.aload_n 0, 1) := by decide +kernel
theorem dX9_read_8 : decode cX9_read 8 = .ok (.ldc 109, 2) := by decide +kernel
theorem dX9_read_10 : decode cX9_read 10 = .ok (.invokevirtual 110, 3) := by decide +kernel
theorem dX9_read_13 : decode cX9_read 13 = .ok (.ireturn, 1) := by decide +kernel
theorem dX9_read_14 : decode cX9_read 14 = .ok (.aload_n 0, 1) := by decide +kernel
theorem dX9_read_15 : decode cX9_read 15 = .ok (.getfield 72, 3) := by decide +kernel
theorem dX9_read_18 : decode cX9_read 18 = .ok (.iload_n 1, 1) := by decide +kernel
theorem dX9_read_19 : decode cX9_read 19 = .ok (.iaload, 1) := by decide +kernel
theorem dX9_read_20 : decode cX9_read 20 = .ok (.ifCond .ne 10, 3) := by decide +kernel
theorem dX9_read_23 : decode cX9_read 23 = .ok (.aload_n 0, 1) := by decide +kernel
theorem dX9_read_24 : decode cX9_read 24 = .ok (.ldc 216, 2) := by decide +kernel
theorem dX9_read_26 : decode cX9_read 26 = .ok (.invokevirtual 110, 3) := by decide +kernel
theorem dX9_read_29 : decode cX9_read 29 = .ok (.ireturn, 1) := by decide +kernel
theorem dX9_read_30 : decode cX9_read 30 = .ok (.iconst 0, 1) := by decide +kernel
theorem dX9_read_31 : decode cX9_read 31 = .ok (.istore_n 2, 1) := by decide +kernel
theorem dX9_read_32 : decode cX9_read 32 = .ok (.iload_n 2, 1) := by decide +kernel
theorem dX9_read_33 : decode cX9_read 33 = .ok (.aload_n 0, 1) := by decide +kernel
theorem dX9_read_34 : decode cX9_read 34 = .ok (.getfield 75, 3) := by decide +kernel
theorem dX9_read_37 : decode cX9_read 37 = .ok (.iload_n 1, 1) := by decide +kernel
theorem dX9_read_38 : decode cX9_read 38 = .ok (.iaload, 1) := by decide +kernel
theorem dX9_read_39 : decode cX9_read 39 = .ok (.if_icmp .ge 23, 3) := by decide +kernel
theorem dX9_read_42 : decode cX9_read 42 = .ok (.aload_n 0, 1) := by decide +kernel
theorem dX9_read_43 : decode cX9_read 43 = .ok (.getfield 78, 3) := by decide +kernel
theorem dX9_read_46 : decode cX9_read 46 = .ok (.bipush 12, 2) := by decide +kernel
theorem dX9_read_48 : decode cX9_read 48 = .ok (.iload_n 1, 1) := by decide +kernel
theorem dX9_read_49 : decode cX9_read 49 = .ok (.imul, 1) := by decide +kernel
theorem dX9_read_50 : decode cX9_read 50 = .ok (.iload_n 2, 1) := by decide +kernel
theorem dX9_read_51 : decode cX9_read 51 = .ok (.iadd, 1) := by decide +kernel
theorem dX9_read_52 : decode cX9_read 52 = .ok (.iaload, 1) := by decide +kernel
theorem dX9_read_53 : decode cX9_read 53 = .ok (.ifCond .eq 9, 3) := by decide +kernel
theorem dX9_read_56 : decode cX9_read 56 = .ok (.iinc 2 1, 3) := by decide +kernel
theorem dX9_read_59 : decode cX9_read 59 = .ok (.goto (-27), 3) := by decide +kernel
theorem dX9_read_62 : decode cX9_read 62 = .ok (.iconst 1, 1) := by decide +kernel
theorem dX9_read_63 : decode cX9_read 63 = .ok (.istore_n 3, 1) := by decide +kernel
theorem dX9_read_64 : decode cX9_read 64 = .ok (.iconst 0, 1) := by decide +kernel
theorem dX9_read_65 : decode cX9_read 65 = .ok (.istore 4, 2) := by decide +kernel
theorem dX9_read_67 : decode cX9_read 67 = .ok (.iconst 0, 1) := by decide +kernel
theorem dX9_read_68 : decode cX9_read 68 = .ok (.istore 5, 2) := by decide +kernel
theorem dX9_read_70 : decode cX9_read 70 = .ok (.iload 5, 2) := by decide +kernel
theorem dX9_read_72 : decode cX9_read 72 = .ok (.iload_n 2, 1) := by decide +kernel
theorem dX9_read_73 : decode cX9_read 73 = .ok (.if_icmp .ge 83, 3) := by decide +kernel
theorem dX9_read_76 : decode cX9_read 76 = .ok (.iload_n 3, 1) := by decide +kernel
theorem dX9_read_77 : decode cX9_read 77 = .ok (.aload_n 0, 1) := by decide +kernel
theorem dX9_read_78 : decode cX9_read 78 = .ok (.getfield 78, 3) := by decide +kernel
theorem dX9_read_81 : decode cX9_read 81 = .ok (.bipush 12, 2) := by decide +kernel
theorem dX9_read_83 : decode cX9_read 83 = .ok (.iload_n 1, 1) := by decide +kernel
theorem dX9_read_84 : decode cX9_read 84 = .ok (.imul, 1) := by decide +kernel
theorem dX9_read_85 : decode cX9_read 85 = .ok (.iload 5, 2) := by decide +kernel
theorem dX9_read_87 : decode cX9_read 87 = .ok (.iadd, 1) := by decide +kernel
theorem dX9_read_88 : decode cX9_read 88 = .ok (.iaload, 1) := by decide +kernel
theorem dX9_read_89 : decode cX9_read 89 = .ok (.iconst 1, 1) := by decide +kernel
theorem dX9_read_90 : decode cX9_read 90 = .ok (.bipush 9, 2) := by decide +kernel
theorem dX9_read_92 : decode cX9_read 92 = .ok (.invokestatic 105, 3) := by decide +kernel
theorem dX9_read_95 : decode cX9_read 95 = .ok (.iand, 1) := by decide +kernel
theorem dX9_read_96 : decode cX9_read 96 = .ok (.istore_n 3, 1) := by decide +kernel
theorem dX9_read_97 : decode cX9_read 97 = .ok (.iconst 0, 1) := by decide +kernel
theorem dX9_read_98 : decode cX9_read 98 = .ok (.istore 6, 2) := by decide +kernel
theorem dX9_read_100 : decode cX9_read 100 = .ok (.iload 6, 2) := by decide +kernel
theorem dX9_read_102 : decode cX9_read 102 = .ok (.iload 5, 2) := by decide +kernel
theorem dX9_read_104 : decode cX9_read 104 = .ok (.if_icmp .ge 46, 3) := by decide +kernel
theorem dX9_read_107 : decode cX9_read 107 = .ok (.iload 4, 2) := by decide +kernel
theorem dX9_read_109 : decode cX9_read 109 = .ok (.aload_n 0, 1) := by decide +kernel
theorem dX9_read_110 : decode cX9_read 110 = .ok (.getfield 78, 3) := by decide +kernel
theorem dX9_read_113 : decode cX9_read 113 = .ok (.bipush 12, 2) := by decide +kernel
theorem dX9_read_115 : decode cX9_read 115 = .ok (.iload_n 1, 1) := by decide +kernel
theorem dX9_read_116 : decode cX9_read 116 = .ok (.imul, 1) := by decide +kernel
theorem dX9_read_117 : decode cX9_read 117 = .ok (.iload 5, 2) := by decide +kernel
theorem dX9_read_119 : decode cX9_read 119 = .ok (.iadd, 1) := by decide +kernel
theorem dX9_read_120 : decode cX9_read 120 = .ok (.iaload, 1) := by decide +kernel
theorem dX9_read_121 : decode cX9_read 121 = .ok (.aload_n 0, 1) := by decide +kernel
theorem dX9_read_122 : decode cX9_read 122 = .ok (.getfield 78, 3) := by decide +kernel
theorem dX9_read_125 : decode cX9_read 125 = .ok (.bipush 12, 2) := by decide +kernel
theorem dX9_read_127 : decode cX9_read 127 = .ok (.iload_n 1, 1) := by decide +kernel
theorem dX9_read_128 : decode cX9_read 128 = .ok (.imul, 1) := by decide +kernel
theorem dX9_read_129 : decode cX9_read 129 = .ok (.iload 6, 2) := by decide +kernel
theorem dX9_read_131 : decode cX9_read 131 = .ok (.iadd, 1) := by decide +kernel
theorem dX9_read_132 : decode cX9_read 132 = .ok (.iaload, 1) := by decide +kernel
theorem dX9_read_133 : decode cX9_read 133 = .ok (.if_icmp .ne 7, 3) := by decide +kernel
theorem dX9_read_136 : decode cX9_read 136 = .ok (.iconst 1, 1) := by decide +kernel
theorem dX9_read_137 : decode cX9_read 137 = .ok (.goto 4, 3) := by decide +kernel
theorem dX9_read_140 : decode cX9_read 140 = .ok (.iconst 0, 1) := by decide +kernel
theorem dX9_read_141 : decode cX9_read 141 = .ok (.ior, 1) := by decide +kernel
theorem dX9_read_142 : decode cX9_read 142 = .ok (.istore 4, 2) := by decide +kernel
theorem dX9_read_144 : decode cX9_read 144 = .ok (.iinc 6 1, 3) := by decide +kernel
theorem dX9_read_147 : decode cX9_read 147 = .ok (.goto (-47), 3) := by decide +kernel
theorem dX9_read_150 : decode cX9_read 150 = .ok (.iinc 5 1, 3) := by decide +kernel
theorem dX9_read_153 : decode cX9_read 153 = .ok (.goto (-83), 3) := by decide +kernel
theorem dX9_read_156 : decode cX9_read 156 = .ok (.iload_n 3, 1) := by decide +kernel
theorem dX9_read_157 : decode cX9_read 157 = .ok (.ifCond .eq 14, 3) := by decide +kernel
theorem dX9_read_160 : decode cX9_read 160 = .ok (.iload 4, 2) := by decide +kernel
theorem dX9_read_162 : decode cX9_read 162 = .ok (.ifCond .ne 9, 3) := by decide +kernel
theorem dX9_read_165 : decode cX9_read 165 = .ok (.iload_n 2, 1) := by decide +kernel
theorem dX9_read_166 : decode cX9_read 166 = .ok (.bipush 6, 2) := by decide +kernel
theorem dX9_read_168 : decode cX9_read 168 = .ok (.if_icmp .le 29, 3) := by decide +kernel
theorem dX9_read_171 : decode cX9_read 171 = .ok (.aload_n 0, 1) := by decide +kernel
theorem dX9_read_172 : decode cX9_read 172 = .ok (.iload_n 3, 1) := by decide +kernel
theorem dX9_read_173 : decode cX9_read 173 = .ok (.ifCond .ne 8, 3) := by decide +kernel
theorem dX9_read_176 : decode cX9_read 176 = .ok (.ldc 109, 2) := by decide +kernel
theorem dX9_read_178 : decode cX9_read 178 = .ok (.goto 15, 3) := by decide +kernel
theorem dX9_read_181 : decode cX9_read 181 = .ok (.iload 4, 2) := by decide +kernel
theorem dX9_read_183 : decode cX9_read 183 = .ok (.ifCond .eq 8, 3) := by decide +kernel
theorem dX9_read_186 : decode cX9_read 186 = .ok (.ldc 136, 2) := by decide +kernel
theorem dX9_read_188 : decode cX9_read 188 = .ok (.goto 5, 3) := by decide +kernel
theorem dX9_read_191 : decode cX9_read 191 = .ok (.ldc 114, 2) := by decide +kernel
theorem dX9_read_193 : decode cX9_read 193 = .ok (.invokevirtual 110, 3) := by decide +kernel
theorem dX9_read_196 : decode cX9_read 196 = .ok (.ireturn, 1) := by decide +kernel
theorem dX9_read_197 : decode cX9_read 197 = .ok (.iconst 0, 1) := by decide +kernel
theorem dX9_read_198 : decode cX9_read 198 = .ok (.istore 5, 2) := by decide +kernel
theorem dX9_read_200 : decode cX9_read 200 = .ok (.iload 5, 2) := by decide +kernel
theorem dX9_read_202 : decode cX9_read 202 = .ok (.iload_n 2, 1) := by decide +kernel
theorem dX9_read_203 : decode cX9_read 203 = .ok (.if_icmp .ge 28, 3) := by decide +kernel
theorem dX9_read_206 : decode cX9_read 206 = .ok (.aload_n 0, 1) := by decide +kernel
theorem dX9_read_207 : decode cX9_read 207 = .ok (.getfield 32, 3) := by decide +kernel
theorem dX9_read_210 : decode cX9_read 210 = .ok (.iload 5, 2) := by decide +kernel
theorem dX9_read_212 : decode cX9_read 212 = .ok (.aload_n 0, 1) := by decide +kernel
theorem dX9_read_213 : decode cX9_read 213 = .ok (.getfield 78, 3) := by decide +kernel
theorem dX9_read_216 : decode cX9_read 216 = .ok (.bipush 12, 2) := by decide +kernel
theorem dX9_read_218 : decode cX9_read 218 = .ok (.iload_n 1, 1) := by decide +kernel
theorem dX9_read_219 : decode cX9_read 219 = .ok (.imul, 1) := by decide +kernel
theorem dX9_read_220 : decode cX9_read 220 = .ok (.iload 5, 2) := by decide +kernel
theorem dX9_read_222 : decode cX9_read 222 = .ok (.iadd, 1) := by decide +kernel
theorem dX9_read_223 : decode cX9_read 223 = .ok (.iaload, 1) := by decide +kernel
theorem dX9_read_224 : decode cX9_read 224 = .ok (.iastore, 1) := by decide +kernel
theorem dX9_read_225 : decode cX9_read 225 = .ok (.iinc 5 1, 3) := by decide +kernel
theorem dX9_read_228 : decode cX9_read 228 = .ok (.goto (-28), 3) := by decide +kernel
theorem dX9_read_231 : decode cX9_read 231 = .ok (.aload_n 0, 1) := by decide +kernel
theorem dX9_read_232 : decode cX9_read 232 = .ok (.iload_n 2, 1) := by decide +kernel
theorem dX9_read_233 : decode cX9_read 233 = .ok (.putfield 146, 3) := by decide +kernel
theorem dX9_read_236 : decode cX9_read 236 = .ok (.iload_n 2, 1) := by decide +kernel
theorem dX9_read_237 : decode cX9_read 237 = .ok (.ireturn, 1) := by decide +kernel
theorem dX9_told_0 : decode cX9_told 0 = .ok (.iload_n 1, 1) := by decide +kernel
theorem dX9_told_1 : decode cX9_told 1 = .ok (.tableswitch 86 0 6 #[43, 48, 53, 58, 63, 68, 73], 43) := by decide +kernel
theorem dX9_told_44 : decode cX9_told 44 = .ok (.aload_n 0, 1) := by decide +kernel
theorem dX9_told_45 : decode cX9_told 45 = .ok (.getfield 102, 3) := by decide +kernel
theorem dX9_told_48 : decode cX9_told 48 = .ok (.ireturn, 1) := by decide +kernel
theorem dX9_told_49 : decode cX9_told 49 = .ok (.aload_n 0, 1) := by decide +kernel
theorem dX9_told_50 : decode cX9_told 50 = .ok (.getfield 126, 3) := by decide +kernel
theorem dX9_told_53 : decode cX9_told 53 = .ok (.ireturn, 1) := by decide +kernel
theorem dX9_told_54 : decode cX9_told 54 = .ok (.aload_n 0, 1) := by decide +kernel
theorem dX9_told_55 : decode cX9_told 55 = .ok (.getfield 146, 3) := by decide +kernel
theorem dX9_told_58 : decode cX9_told 58 = .ok (.ireturn, 1) := by decide +kernel
theorem dX9_told_59 : decode cX9_told 59 = .ok (.aload_n 0, 1) := by decide +kernel
theorem dX9_told_60 : decode cX9_told 60 = .ok (.getfield 175, 3) := by decide +kernel
theorem dX9_told_63 : decode cX9_told 63 = .ok (.ireturn, 1) := by decide +kernel
theorem dX9_told_64 : decode cX9_told 64 = .ok (.aload_n 0, 1) := by decide +kernel
theorem dX9_told_65 : decode cX9_told 65 = .ok (.getfield 99, 3) := by decide +kernel
theorem dX9_told_68 : decode cX9_told 68 = .ok (.ireturn, 1) := by decide +kernel
theorem dX9_told_69 : decode cX9_told 69 = .ok (.aload_n 0, 1) := by decide +kernel
theorem dX9_told_70 : decode cX9_told 70 = .ok (.getfield 207, 3) := by decide +kernel
theorem dX9_told_73 : decode cX9_told 73 = .ok (.ireturn, 1) := by decide +kernel
theorem dX9_told_74 : decode cX9_told 74 = .ok (.aload_n 0, 1) := by decide +kernel
theorem dX9_told_75 : decode cX9_told 75 = .ok (.getfield 188, 3) := by decide +kernel
theorem dX9_told_78 : decode cX9_told 78 = .ok (.ifCond .eq 7, 3) := by decide +kernel
theorem dX9_told_81 : decode cX9_told 81 = .ok (.iconst 1, 1) := by decide +kernel
theorem dX9_told_82 : decode cX9_told 82 = .ok (.goto 4, 3) := by decide +kernel
theorem dX9_told_85 : decode cX9_told 85 = .ok (.iconst 0, 1) := by decide +kernel
theorem dX9_told_86 : decode cX9_told 86 = .ok (.ireturn, 1) := by decide +kernel
theorem dX9_told_87 : decode cX9_told 87 = .ok (.aload_n 0, 1) := by decide +kernel
theorem dX9_told_88 : decode cX9_told 88 = .ok (.ldc 109, 2) := by decide +kernel
theorem dX9_told_90 : decode cX9_told 90 = .ok (.invokevirtual 110, 3) := by decide +kernel
theorem dX9_told_93 : decode cX9_told 93 = .ok (.ireturn, 1) := by decide +kernel
theorem dJ9_abs_0f7a4_0 : decode cJ9_abs_0f7a4 0 = .ok (.iload_n 0, 1) := by decide +kernel
theorem dJ9_abs_0f7a4_1 : decode cJ9_abs_0f7a4 1 = .ok (.ifCond .ge 8, 3) := by decide +kernel
theorem dJ9_abs_0f7a4_4 : decode cJ9_abs_0f7a4 4 = .ok (.iload_n 0, 1) := by decide +kernel
theorem dJ9_abs_0f7a4_5 : decode cJ9_abs_0f7a4 5 = .ok (.ineg, 1) := by decide +kernel
theorem dJ9_abs_0f7a4_6 : decode cJ9_abs_0f7a4 6 = .ok (.goto 4, 3) := by decide +kernel
theorem dJ9_abs_0f7a4_9 : decode cJ9_abs_0f7a4 9 = .ok (.iload_n 0, 1) := by decide +kernel
theorem dJ9_abs_0f7a4_10 : decode cJ9_abs_0f7a4 10 = .ok (.ireturn, 1) := by decide +kernel
theorem dJ9_max_7cf53_0 : decode cJ9_max_7cf53 0 = .ok (.iload_n 0, 1) := by decide +kernel
theorem dJ9_max_7cf53_1 : decode cJ9_max_7cf53 1 = .ok (.iload_n 1, 1) := by decide +kernel
theorem dJ9_max_7cf53_2 : decode cJ9_max_7cf53 2 = .ok (.if_icmp .lt 7, 3) := by decide +kernel
theorem dJ9_max_7cf53_5 : decode cJ9_max_7cf53 5 = .ok (.iload_n 0, 1) := by decide +kernel
theorem dJ9_max_7cf53_6 : decode cJ9_max_7cf53 6 = .ok (.goto 4, 3) := by decide +kernel
theorem dJ9_max_7cf53_9 : decode cJ9_max_7cf53 9 = .ok (.iload_n 1, 1) := by decide +kernel
theorem dJ9_max_7cf53_10 : decode cJ9_max_7cf53 10 = .ok (.ireturn, 1) := by decide +kernel
theorem dJ9_min_7cf53_0 : decode cJ9_min_7cf53 0 = .ok (.iload_n 0, 1) := by decide +kernel
theorem dJ9_min_7cf53_1 : decode cJ9_min_7cf53 1 = .ok (.iload_n 1, 1) := by decide +kernel
theorem dJ9_min_7cf53_2 : decode cJ9_min_7cf53 2 = .ok (.if_icmp .gt 7, 3) := by decide +kernel
theorem dJ9_min_7cf53_5 : decode cJ9_min_7cf53 5 = .ok (.iload_n 0, 1) := by decide +kernel
theorem dJ9_min_7cf53_6 : decode cJ9_min_7cf53 6 = .ok (.goto 4, 3) := by decide +kernel
theorem dJ9_min_7cf53_9 : decode cJ9_min_7cf53 9 = .ok (.iload_n 1, 1) := by decide +kernel
theorem dJ9_min_7cf53_10 : decode cJ9_min_7cf53 10 = .ok (.ireturn, 1) := by decide +kernel
theorem dL_law_0 : decode cL_law 0 = .ok (.new 7, 3) := by decide +kernel
theorem dL_law_3 : decode cL_law 3 = .ok (.dup, 1) := by decide +kernel
theorem dL_law_4 : decode cL_law 4 = .ok (.invokespecial 9, 3) := by decide +kernel
theorem dL_law_7 : decode cL_law 7 = .ok (.astore_n 1, 1) := by decide +kernel
theorem dL_law_8 : decode cL_law 8 = .ok (.new 10, 3) := by decide +kernel
theorem dL_law_11 : decode cL_law 11 = .ok (.dup, 1) := by decide +kernel
theorem dL_law_12 : decode cL_law 12 = .ok (.invokespecial 12, 3) := by decide +kernel
theorem dL_law_15 : decode cL_law 15 = .ok (.astore_n 2, 1) := by decide +kernel
theorem dL_law_16 : decode cL_law 16 = .ok (.iconst 0, 1) := by decide +kernel
theorem dL_law_17 : decode cL_law 17 = .ok (.istore_n 3, 1) := by decide +kernel
theorem dL_law_18 : decode cL_law 18 = .ok (.iload_n 3, 1) := by decide +kernel
theorem dL_law_19 : decode cL_law 19 = .ok (.aload_n 0, 1) := by decide +kernel
theorem dL_law_20 : decode cL_law 20 = .ok (.arraylength, 1) := by decide +kernel
theorem dL_law_21 : decode cL_law 21 = .ok (.bipush 6, 2) := by decide +kernel
theorem dL_law_23 : decode cL_law 23 = .ok (.isub, 1) := by decide +kernel
theorem dL_law_24 : decode cL_law 24 = .ok (.if_icmp .gt 1202, 3) := by decide +kernel
theorem dL_law_27 : decode cL_law 27 = .ok (.aload_n 0, 1) := by decide +kernel
theorem dL_law_28 : decode cL_law 28 = .ok (.iload_n 3, 1) := by decide +kernel
theorem dL_law_29 : decode cL_law 29 = .ok (.iaload, 1) := by decide +kernel
theorem dL_law_30 : decode cL_law 30 = .ok (.bipush 63, 2) := by decide +kernel
theorem dL_law_32 : decode cL_law 32 = .ok (.iand, 1) := by decide +kernel
theorem dL_law_33 : decode cL_law 33 = .ok (.tableswitch 1187 0 33 #[151, 184, 217, 266, 299, 322, 355, 388, 411, 424, 473, 506, 529, 578, 591, 604, 627, 640, 663, 696, 709, 742, 765, 788, 841, 854, 893, 926, 959, 992, 1035, 1078, 1141, 1164], 151) := by decide +kernel
theorem dL_law_184 : decode cL_law 184 = .ok (.aload_n 1, 1) := by decide +kernel
theorem dL_law_185 : decode cL_law 185 = .ok (.aload_n 0, 1) := by decide +kernel
theorem dL_law_186 : decode cL_law 186 = .ok (.iload_n 3, 1) := by decide +kernel
theorem dL_law_187 : decode cL_law 187 = .ok (.iconst 1, 1) := by decide +kernel
theorem dL_law_188 : decode cL_law 188 = .ok (.iadd, 1) := by decide +kernel
theorem dL_law_189 : decode cL_law 189 = .ok (.iaload, 1) := by decide +kernel
theorem dL_law_190 : decode cL_law 190 = .ok (.aload_n 0, 1) := by decide +kernel
theorem dL_law_191 : decode cL_law 191 = .ok (.iload_n 3, 1) := by decide +kernel
theorem dL_law_192 : decode cL_law 192 = .ok (.iconst 2, 1) := by decide +kernel
theorem dL_law_193 : decode cL_law 193 = .ok (.iadd, 1) := by decide +kernel
theorem dL_law_194 : decode cL_law 194 = .ok (.iaload, 1) := by decide +kernel
theorem dL_law_195 : decode cL_law 195 = .ok (.invokevirtual 13, 3) := by decide +kernel
theorem dL_law_198 : decode cL_law 198 = .ok (.aload_n 2, 1) := by decide +kernel
theorem dL_law_199 : decode cL_law 199 = .ok (.aload_n 0, 1) := by decide +kernel
theorem dL_law_200 : decode cL_law 200 = .ok (.iload_n 3, 1) := by decide +kernel
theorem dL_law_201 : decode cL_law 201 = .ok (.iconst 1, 1) := by decide +kernel
theorem dL_law_202 : decode cL_law 202 = .ok (.iadd, 1) := by decide +kernel
theorem dL_law_203 : decode cL_law 203 = .ok (.iaload, 1) := by decide +kernel
theorem dL_law_204 : decode cL_law 204 = .ok (.aload_n 0, 1) := by decide +kernel
theorem dL_law_205 : decode cL_law 205 = .ok (.iload_n 3, 1) := by decide +kernel
theorem dL_law_206 : decode cL_law 206 = .ok (.iconst 2, 1) := by decide +kernel
theorem dL_law_207 : decode cL_law 207 = .ok (.iadd, 1) := by decide +kernel
theorem dL_law_208 : decode cL_law 208 = .ok (.iaload, 1) := by decide +kernel
theorem dL_law_209 : decode cL_law 209 = .ok (.invokevirtual 17, 3) := by decide +kernel
theorem dL_law_212 : decode cL_law 212 = .ok (.if_icmp .eq 1008, 3) := by decide +kernel
theorem dL_law_215 : decode cL_law 215 = .ok (.iconst 0, 1) := by decide +kernel
theorem dL_law_216 : decode cL_law 216 = .ok (.ireturn, 1) := by decide +kernel
theorem dL_law_217 : decode cL_law 217 = .ok (.aload_n 1, 1) := by decide +kernel
theorem dL_law_218 : decode cL_law 218 = .ok (.aload_n 0, 1) := by decide +kernel
theorem dL_law_219 : decode cL_law 219 = .ok (.iload_n 3, 1) := by decide +kernel
theorem dL_law_220 : decode cL_law 220 = .ok (.iconst 1, 1) := by decide +kernel
theorem dL_law_221 : decode cL_law 221 = .ok (.iadd, 1) := by decide +kernel
theorem dL_law_222 : decode cL_law 222 = .ok (.iaload, 1) := by decide +kernel
theorem dL_law_223 : decode cL_law 223 = .ok (.aload_n 0, 1) := by decide +kernel
theorem dL_law_224 : decode cL_law 224 = .ok (.iload_n 3, 1) := by decide +kernel
theorem dL_law_225 : decode cL_law 225 = .ok (.iconst 2, 1) := by decide +kernel
theorem dL_law_226 : decode cL_law 226 = .ok (.iadd, 1) := by decide +kernel
theorem dL_law_227 : decode cL_law 227 = .ok (.iaload, 1) := by decide +kernel
theorem dL_law_228 : decode cL_law 228 = .ok (.invokevirtual 18, 3) := by decide +kernel
theorem dL_law_231 : decode cL_law 231 = .ok (.aload_n 2, 1) := by decide +kernel
theorem dL_law_232 : decode cL_law 232 = .ok (.aload_n 0, 1) := by decide +kernel
theorem dL_law_233 : decode cL_law 233 = .ok (.iload_n 3, 1) := by decide +kernel
theorem dL_law_234 : decode cL_law 234 = .ok (.iconst 1, 1) := by decide +kernel
theorem dL_law_235 : decode cL_law 235 = .ok (.iadd, 1) := by decide +kernel
theorem dL_law_236 : decode cL_law 236 = .ok (.iaload, 1) := by decide +kernel
theorem dL_law_237 : decode cL_law 237 = .ok (.aload_n 0, 1) := by decide +kernel
theorem dL_law_238 : decode cL_law 238 = .ok (.iload_n 3, 1) := by decide +kernel
theorem dL_law_239 : decode cL_law 239 = .ok (.iconst 2, 1) := by decide +kernel
theorem dL_law_240 : decode cL_law 240 = .ok (.iadd, 1) := by decide +kernel
theorem dL_law_241 : decode cL_law 241 = .ok (.iaload, 1) := by decide +kernel
theorem dL_law_242 : decode cL_law 242 = .ok (.invokevirtual 21, 3) := by decide +kernel
theorem dL_law_245 : decode cL_law 245 = .ok (.if_icmp .eq 975, 3) := by decide +kernel
theorem dL_law_248 : decode cL_law 248 = .ok (.iconst 0, 1) := by decide +kernel
theorem dL_law_249 : decode cL_law 249 = .ok (.ireturn, 1) := by decide +kernel
theorem dL_law_250 : decode cL_law 250 = .ok (.aload_n 1, 1) := by decide +kernel
theorem dL_law_251 : decode cL_law 251 = .ok (.aload_n 0, 1) := by decide +kernel
theorem dL_law_252 : decode cL_law 252 = .ok (.iload_n 3, 1) := by decide +kernel
theorem dL_law_253 : decode cL_law 253 = .ok (.iconst 1, 1) := by decide +kernel
theorem dL_law_254 : decode cL_law 254 = .ok (.iadd, 1) := by decide +kernel
theorem dL_law_255 : decode cL_law 255 = .ok (.iaload, 1) := by decide +kernel
theorem dL_law_256 : decode cL_law 256 = .ok (.aload_n 0, 1) := by decide +kernel
theorem dL_law_257 : decode cL_law 257 = .ok (.iload_n 3, 1) := by decide +kernel
theorem dL_law_258 : decode cL_law 258 = .ok (.iconst 2, 1) := by decide +kernel
theorem dL_law_259 : decode cL_law 259 = .ok (.iadd, 1) := by decide +kernel
theorem dL_law_260 : decode cL_law 260 = .ok (.iaload, 1) := by decide +kernel
theorem dL_law_261 : decode cL_law 261 = .ok (.ifCond .eq 7, 3) := by decide +kernel
theorem dL_law_264 : decode cL_law 264 = .ok (.iconst 1, 1) := by decide +kernel
theorem dL_law_265 : decode cL_law 265 = .ok (.goto 4, 3) := by decide +kernel
theorem dL_law_268 : decode cL_law 268 = .ok (.iconst 0, 1) := by decide +kernel
theorem dL_law_269 : decode cL_law 269 = .ok (.invokevirtual 22, 3) := by decide +kernel
theorem dL_law_272 : decode cL_law 272 = .ok (.aload_n 2, 1) := by decide +kernel
theorem dL_law_273 : decode cL_law 273 = .ok (.aload_n 0, 1) := by decide +kernel
theorem dL_law_274 : decode cL_law 274 = .ok (.iload_n 3, 1) := by decide +kernel
theorem dL_law_275 : decode cL_law 275 = .ok (.iconst 1, 1) := by decide +kernel
theorem dL_law_276 : decode cL_law 276 = .ok (.iadd, 1) := by decide +kernel
theorem dL_law_277 : decode cL_law 277 = .ok (.iaload, 1) := by decide +kernel
theorem dL_law_278 : decode cL_law 278 = .ok (.aload_n 0, 1) := by decide +kernel
theorem dL_law_279 : decode cL_law 279 = .ok (.iload_n 3, 1) := by decide +kernel
theorem dL_law_280 : decode cL_law 280 = .ok (.iconst 2, 1) := by decide +kernel
theorem dL_law_281 : decode cL_law 281 = .ok (.iadd, 1) := by decide +kernel
theorem dL_law_282 : decode cL_law 282 = .ok (.iaload, 1) := by decide +kernel
theorem dL_law_283 : decode cL_law 283 = .ok (.ifCond .eq 7, 3) := by decide +kernel
theorem dL_law_286 : decode cL_law 286 = .ok (.iconst 1, 1) := by decide +kernel
theorem dL_law_287 : decode cL_law 287 = .ok (.goto 4, 3) := by decide +kernel
theorem dL_law_290 : decode cL_law 290 = .ok (.iconst 0, 1) := by decide +kernel
theorem dL_law_291 : decode cL_law 291 = .ok (.invokevirtual 26, 3) := by decide +kernel
theorem dL_law_294 : decode cL_law 294 = .ok (.if_icmp .eq 926, 3) := by decide +kernel
theorem dL_law_297 : decode cL_law 297 = .ok (.iconst 0, 1) := by decide +kernel
theorem dL_law_298 : decode cL_law 298 = .ok (.ireturn, 1) := by decide +kernel
theorem dL_law_299 : decode cL_law 299 = .ok (.aload_n 1, 1) := by decide +kernel
theorem dL_law_300 : decode cL_law 300 = .ok (.aload_n 0, 1) := by decide +kernel
theorem dL_law_301 : decode cL_law 301 = .ok (.iload_n 3, 1) := by decide +kernel
theorem dL_law_302 : decode cL_law 302 = .ok (.iconst 1, 1) := by decide +kernel
theorem dL_law_303 : decode cL_law 303 = .ok (.iadd, 1) := by decide +kernel
theorem dL_law_304 : decode cL_law 304 = .ok (.iaload, 1) := by decide +kernel
theorem dL_law_305 : decode cL_law 305 = .ok (.aload_n 0, 1) := by decide +kernel
theorem dL_law_306 : decode cL_law 306 = .ok (.iload_n 3, 1) := by decide +kernel
theorem dL_law_307 : decode cL_law 307 = .ok (.iconst 2, 1) := by decide +kernel
theorem dL_law_308 : decode cL_law 308 = .ok (.iadd, 1) := by decide +kernel
theorem dL_law_309 : decode cL_law 309 = .ok (.iaload, 1) := by decide +kernel
theorem dL_law_310 : decode cL_law 310 = .ok (.invokevirtual 27, 3) := by decide +kernel
theorem dL_law_313 : decode cL_law 313 = .ok (.aload_n 2, 1) := by decide +kernel
theorem dL_law_314 : decode cL_law 314 = .ok (.aload_n 0, 1) := by decide +kernel
theorem dL_law_315 : decode cL_law 315 = .ok (.iload_n 3, 1) := by decide +kernel
theorem dL_law_316 : decode cL_law 316 = .ok (.iconst 1, 1) := by decide +kernel
theorem dL_law_317 : decode cL_law 317 = .ok (.iadd, 1) := by decide +kernel
theorem dL_law_318 : decode cL_law 318 = .ok (.iaload, 1) := by decide +kernel
theorem dL_law_319 : decode cL_law 319 = .ok (.aload_n 0, 1) := by decide +kernel
theorem dL_law_320 : decode cL_law 320 = .ok (.iload_n 3, 1) := by decide +kernel
theorem dL_law_321 : decode cL_law 321 = .ok (.iconst 2, 1) := by decide +kernel
theorem dL_law_322 : decode cL_law 322 = .ok (.iadd, 1) := by decide +kernel
theorem dL_law_323 : decode cL_law 323 = .ok (.iaload, 1) := by decide +kernel
theorem dL_law_324 : decode cL_law 324 = .ok (.invokevirtual 30, 3) := by decide +kernel
theorem dL_law_327 : decode cL_law 327 = .ok (.if_icmp .eq 893, 3) := by decide +kernel
theorem dL_law_330 : decode cL_law 330 = .ok (.iconst 0, 1) := by decide +kernel
theorem dL_law_331 : decode cL_law 331 = .ok (.ireturn, 1) := by decide +kernel
theorem dL_law_332 : decode cL_law 332 = .ok (.aload_n 1, 1) := by decide +kernel
theorem dL_law_333 : decode cL_law 333 = .ok (.aload_n 0, 1) := by decide +kernel
theorem dL_law_334 : decode cL_law 334 = .ok (.iload_n 3, 1) := by decide +kernel
theorem dL_law_335 : decode cL_law 335 = .ok (.iconst 1, 1) := by decide +kernel
theorem dL_law_336 : decode cL_law 336 = .ok (.iadd, 1) := by decide +kernel
theorem dL_law_337 : decode cL_law 337 = .ok (.iaload, 1) := by decide +kernel
theorem dL_law_338 : decode cL_law 338 = .ok (.invokevirtual 31, 3) := by decide +kernel
theorem dL_law_341 : decode cL_law 341 = .ok (.aload_n 2, 1) := by decide +kernel
theorem dL_law_342 : decode cL_law 342 = .ok (.aload_n 0, 1) := by decide +kernel
theorem dL_law_343 : decode cL_law 343 = .ok (.iload_n 3, 1) := by decide +kernel
theorem dL_law_344 : decode cL_law 344 = .ok (.iconst 1, 1) := by decide +kernel
theorem dL_law_345 : decode cL_law 345 = .ok (.iadd, 1) := by decide +kernel
theorem dL_law_346 : decode cL_law 346 = .ok (.iaload, 1) := by decide +kernel
theorem dL_law_347 : decode cL_law 347 = .ok (.invokevirtual 35, 3) := by decide +kernel
theorem dL_law_350 : decode cL_law 350 = .ok (.if_icmp .eq 870, 3) := by decide +kernel
theorem dL_law_353 : decode cL_law 353 = .ok (.iconst 0, 1) := by decide +kernel
theorem dL_law_354 : decode cL_law 354 = .ok (.ireturn, 1) := by decide +kernel
theorem dL_law_355 : decode cL_law 355 = .ok (.aload_n 1, 1) := by decide +kernel
theorem dL_law_356 : decode cL_law 356 = .ok (.aload_n 0, 1) := by decide +kernel
theorem dL_law_357 : decode cL_law 357 = .ok (.iload_n 3, 1) := by decide +kernel
theorem dL_law_358 : decode cL_law 358 = .ok (.iconst 1, 1) := by decide +kernel
theorem dL_law_359 : decode cL_law 359 = .ok (.iadd, 1) := by decide +kernel
theorem dL_law_360 : decode cL_law 360 = .ok (.iaload, 1) := by decide +kernel
theorem dL_law_361 : decode cL_law 361 = .ok (.aload_n 0, 1) := by decide +kernel
theorem dL_law_362 : decode cL_law 362 = .ok (.iload_n 3, 1) := by decide +kernel
theorem dL_law_363 : decode cL_law 363 = .ok (.iconst 2, 1) := by decide +kernel
theorem dL_law_364 : decode cL_law 364 = .ok (.iadd, 1) := by decide +kernel
theorem dL_law_365 : decode cL_law 365 = .ok (.iaload, 1) := by decide +kernel
theorem dL_law_366 : decode cL_law 366 = .ok (.invokevirtual 36, 3) := by decide +kernel
theorem dL_law_369 : decode cL_law 369 = .ok (.aload_n 2, 1) := by decide +kernel
theorem dL_law_370 : decode cL_law 370 = .ok (.aload_n 0, 1) := by decide +kernel
theorem dL_law_371 : decode cL_law 371 = .ok (.iload_n 3, 1) := by decide +kernel
theorem dL_law_372 : decode cL_law 372 = .ok (.iconst 1, 1) := by decide +kernel
theorem dL_law_373 : decode cL_law 373 = .ok (.iadd, 1) := by decide +kernel
theorem dL_law_374 : decode cL_law 374 = .ok (.iaload, 1) := by decide +kernel
theorem dL_law_375 : decode cL_law 375 = .ok (.aload_n 0, 1) := by decide +kernel
theorem dL_law_376 : decode cL_law 376 = .ok (.iload_n 3, 1) := by decide +kernel
theorem dL_law_377 : decode cL_law 377 = .ok (.iconst 2, 1) := by decide +kernel
theorem dL_law_378 : decode cL_law 378 = .ok (.iadd, 1) := by decide +kernel
theorem dL_law_379 : decode cL_law 379 = .ok (.iaload, 1) := by decide +kernel
theorem dL_law_380 : decode cL_law 380 = .ok (.invokevirtual 39, 3) := by decide +kernel
theorem dL_law_383 : decode cL_law 383 = .ok (.if_icmp .eq 837, 3) := by decide +kernel
theorem dL_law_386 : decode cL_law 386 = .ok (.iconst 0, 1) := by decide +kernel
theorem dL_law_387 : decode cL_law 387 = .ok (.ireturn, 1) := by decide +kernel
theorem dL_law_388 : decode cL_law 388 = .ok (.aload_n 1, 1) := by decide +kernel
theorem dL_law_389 : decode cL_law 389 = .ok (.aload_n 0, 1) := by decide +kernel
theorem dL_law_390 : decode cL_law 390 = .ok (.iload_n 3, 1) := by decide +kernel
theorem dL_law_391 : decode cL_law 391 = .ok (.iconst 1, 1) := by decide +kernel
theorem dL_law_392 : decode cL_law 392 = .ok (.iadd, 1) := by decide +kernel
theorem dL_law_393 : decode cL_law 393 = .ok (.iaload, 1) := by decide +kernel
theorem dL_law_394 : decode cL_law 394 = .ok (.aload_n 0, 1) := by decide +kernel
theorem dL_law_395 : decode cL_law 395 = .ok (.iload_n 3, 1) := by decide +kernel
theorem dL_law_396 : decode cL_law 396 = .ok (.iconst 2, 1) := by decide +kernel
theorem dL_law_397 : decode cL_law 397 = .ok (.iadd, 1) := by decide +kernel
theorem dL_law_398 : decode cL_law 398 = .ok (.iaload, 1) := by decide +kernel
theorem dL_law_399 : decode cL_law 399 = .ok (.invokevirtual 40, 3) := by decide +kernel
theorem dL_law_402 : decode cL_law 402 = .ok (.aload_n 2, 1) := by decide +kernel
theorem dL_law_403 : decode cL_law 403 = .ok (.aload_n 0, 1) := by decide +kernel
theorem dL_law_404 : decode cL_law 404 = .ok (.iload_n 3, 1) := by decide +kernel
theorem dL_law_405 : decode cL_law 405 = .ok (.iconst 1, 1) := by decide +kernel
theorem dL_law_406 : decode cL_law 406 = .ok (.iadd, 1) := by decide +kernel
theorem dL_law_407 : decode cL_law 407 = .ok (.iaload, 1) := by decide +kernel
theorem dL_law_408 : decode cL_law 408 = .ok (.aload_n 0, 1) := by decide +kernel
theorem dL_law_409 : decode cL_law 409 = .ok (.iload_n 3, 1) := by decide +kernel
theorem dL_law_410 : decode cL_law 410 = .ok (.iconst 2, 1) := by decide +kernel
theorem dL_law_411 : decode cL_law 411 = .ok (.iadd, 1) := by decide +kernel
theorem dL_law_412 : decode cL_law 412 = .ok (.iaload, 1) := by decide +kernel
theorem dL_law_413 : decode cL_law 413 = .ok (.invokevirtual 43, 3) := by decide +kernel
theorem dL_law_416 : decode cL_law 416 = .ok (.if_icmp .eq 804, 3) := by decide +kernel
theorem dL_law_419 : decode cL_law 419 = .ok (.iconst 0, 1) := by decide +kernel
theorem dL_law_420 : decode cL_law 420 = .ok (.ireturn, 1) := by decide +kernel
theorem dL_law_421 : decode cL_law 421 = .ok (.aload_n 1, 1) := by decide +kernel
theorem dL_law_422 : decode cL_law 422 = .ok (.aload_n 0, 1) := by decide +kernel
theorem dL_law_423 : decode cL_law 423 = .ok (.iload_n 3, 1) := by decide +kernel
theorem dL_law_424 : decode cL_law 424 = .ok (.iconst 1, 1) := by decide +kernel
theorem dL_law_425 : decode cL_law 425 = .ok (.iadd, 1) := by decide +kernel
theorem dL_law_426 : decode cL_law 426 = .ok (.iaload, 1) := by decide +kernel
theorem dL_law_427 : decode cL_law 427 = .ok (.invokevirtual 44, 3) := by decide +kernel
theorem dL_law_430 : decode cL_law 430 = .ok (.aload_n 2, 1) := by decide +kernel
theorem dL_law_431 : decode cL_law 431 = .ok (.aload_n 0, 1) := by decide +kernel
theorem dL_law_432 : decode cL_law 432 = .ok (.iload_n 3, 1) := by decide +kernel
theorem dL_law_433 : decode cL_law 433 = .ok (.iconst 1, 1) := by decide +kernel
theorem dL_law_434 : decode cL_law 434 = .ok (.iadd, 1) := by decide +kernel
theorem dL_law_435 : decode cL_law 435 = .ok (.iaload, 1) := by decide +kernel
theorem dL_law_436 : decode cL_law 436 = .ok (.invokevirtual 47, 3) := by decide +kernel
theorem dL_law_439 : decode cL_law 439 = .ok (.if_icmp .eq 781, 3) := by decide +kernel
theorem dL_law_442 : decode cL_law 442 = .ok (.iconst 0, 1) := by decide +kernel
theorem dL_law_443 : decode cL_law 443 = .ok (.ireturn, 1) := by decide +kernel
theorem dL_law_444 : decode cL_law 444 = .ok (.aload_n 1, 1) := by decide +kernel
theorem dL_law_445 : decode cL_law 445 = .ok (.invokevirtual 48, 3) := by decide +kernel
theorem dL_law_448 : decode cL_law 448 = .ok (.aload_n 2, 1) := by decide +kernel
theorem dL_law_449 : decode cL_law 449 = .ok (.invokevirtual 52, 3) := by decide +kernel
theorem dL_law_452 : decode cL_law 452 = .ok (.if_icmp .eq 768, 3) := by decide +kernel
theorem dL_law_455 : decode cL_law 455 = .ok (.iconst 0, 1) := by decide +kernel
theorem dL_law_456 : decode cL_law 456 = .ok (.ireturn, 1) := by decide +kernel
theorem dL_law_457 : decode cL_law 457 = .ok (.aload_n 1, 1) := by decide +kernel
theorem dL_law_458 : decode cL_law 458 = .ok (.aload_n 0, 1) := by decide +kernel
theorem dL_law_459 : decode cL_law 459 = .ok (.iload_n 3, 1) := by decide +kernel
theorem dL_law_460 : decode cL_law 460 = .ok (.iconst 1, 1) := by decide +kernel
theorem dL_law_461 : decode cL_law 461 = .ok (.iadd, 1) := by decide +kernel
theorem dL_law_462 : decode cL_law 462 = .ok (.iaload, 1) := by decide +kernel
theorem dL_law_463 : decode cL_law 463 = .ok (.aload_n 0, 1) := by decide +kernel
theorem dL_law_464 : decode cL_law 464 = .ok (.iload_n 3, 1) := by decide +kernel
theorem dL_law_465 : decode cL_law 465 = .ok (.iconst 2, 1) := by decide +kernel
theorem dL_law_466 : decode cL_law 466 = .ok (.iadd, 1) := by decide +kernel
theorem dL_law_467 : decode cL_law 467 = .ok (.iaload, 1) := by decide +kernel
theorem dL_law_468 : decode cL_law 468 = .ok (.ifCond .eq 7, 3) := by decide +kernel
theorem dL_law_471 : decode cL_law 471 = .ok (.iconst 1, 1) := by decide +kernel
theorem dL_law_472 : decode cL_law 472 = .ok (.goto 4, 3) := by decide +kernel
theorem dL_law_475 : decode cL_law 475 = .ok (.iconst 0, 1) := by decide +kernel
theorem dL_law_476 : decode cL_law 476 = .ok (.invokevirtual 53, 3) := by decide +kernel
theorem dL_law_479 : decode cL_law 479 = .ok (.aload_n 2, 1) := by decide +kernel
theorem dL_law_480 : decode cL_law 480 = .ok (.aload_n 0, 1) := by decide +kernel
theorem dL_law_481 : decode cL_law 481 = .ok (.iload_n 3, 1) := by decide +kernel
theorem dL_law_482 : decode cL_law 482 = .ok (.iconst 1, 1) := by decide +kernel
theorem dL_law_483 : decode cL_law 483 = .ok (.iadd, 1) := by decide +kernel
theorem dL_law_484 : decode cL_law 484 = .ok (.iaload, 1) := by decide +kernel
theorem dL_law_485 : decode cL_law 485 = .ok (.aload_n 0, 1) := by decide +kernel
theorem dL_law_486 : decode cL_law 486 = .ok (.iload_n 3, 1) := by decide +kernel
theorem dL_law_487 : decode cL_law 487 = .ok (.iconst 2, 1) := by decide +kernel
theorem dL_law_488 : decode cL_law 488 = .ok (.iadd, 1) := by decide +kernel
theorem dL_law_489 : decode cL_law 489 = .ok (.iaload, 1) := by decide +kernel
theorem dL_law_490 : decode cL_law 490 = .ok (.ifCond .eq 7, 3) := by decide +kernel
theorem dL_law_493 : decode cL_law 493 = .ok (.iconst 1, 1) := by decide +kernel
theorem dL_law_494 : decode cL_law 494 = .ok (.goto 4, 3) := by decide +kernel
theorem dL_law_497 : decode cL_law 497 = .ok (.iconst 0, 1) := by decide +kernel
theorem dL_law_498 : decode cL_law 498 = .ok (.invokevirtual 56, 3) := by decide +kernel
theorem dL_law_501 : decode cL_law 501 = .ok (.if_icmp .eq 719, 3) := by decide +kernel
theorem dL_law_504 : decode cL_law 504 = .ok (.iconst 0, 1) := by decide +kernel
theorem dL_law_505 : decode cL_law 505 = .ok (.ireturn, 1) := by decide +kernel
theorem dL_law_506 : decode cL_law 506 = .ok (.aload_n 1, 1) := by decide +kernel
theorem dL_law_507 : decode cL_law 507 = .ok (.aload_n 0, 1) := by decide +kernel
theorem dL_law_508 : decode cL_law 508 = .ok (.iload_n 3, 1) := by decide +kernel
theorem dL_law_509 : decode cL_law 509 = .ok (.iconst 1, 1) := by decide +kernel
theorem dL_law_510 : decode cL_law 510 = .ok (.iadd, 1) := by decide +kernel
theorem dL_law_511 : decode cL_law 511 = .ok (.iaload, 1) := by decide +kernel
theorem dL_law_512 : decode cL_law 512 = .ok (.aload_n 0, 1) := by decide +kernel
theorem dL_law_513 : decode cL_law 513 = .ok (.iload_n 3, 1) := by decide +kernel
theorem dL_law_514 : decode cL_law 514 = .ok (.iconst 2, 1) := by decide +kernel
theorem dL_law_515 : decode cL_law 515 = .ok (.iadd, 1) := by decide +kernel
theorem dL_law_516 : decode cL_law 516 = .ok (.iaload, 1) := by decide +kernel
theorem dL_law_517 : decode cL_law 517 = .ok (.invokevirtual 57, 3) := by decide +kernel
theorem dL_law_520 : decode cL_law 520 = .ok (.aload_n 2, 1) := by decide +kernel
theorem dL_law_521 : decode cL_law 521 = .ok (.aload_n 0, 1) := by decide +kernel
theorem dL_law_522 : decode cL_law 522 = .ok (.iload_n 3, 1) := by decide +kernel
theorem dL_law_523 : decode cL_law 523 = .ok (.iconst 1, 1) := by decide +kernel
theorem dL_law_524 : decode cL_law 524 = .ok (.iadd, 1) := by decide +kernel
theorem dL_law_525 : decode cL_law 525 = .ok (.iaload, 1) := by decide +kernel
theorem dL_law_526 : decode cL_law 526 = .ok (.aload_n 0, 1) := by decide +kernel
theorem dL_law_527 : decode cL_law 527 = .ok (.iload_n 3, 1) := by decide +kernel
theorem dL_law_528 : decode cL_law 528 = .ok (.iconst 2, 1) := by decide +kernel
theorem dL_law_529 : decode cL_law 529 = .ok (.iadd, 1) := by decide +kernel
theorem dL_law_530 : decode cL_law 530 = .ok (.iaload, 1) := by decide +kernel
theorem dL_law_531 : decode cL_law 531 = .ok (.invokevirtual 60, 3) := by decide +kernel
theorem dL_law_534 : decode cL_law 534 = .ok (.if_icmp .eq 686, 3) := by decide +kernel
theorem dL_law_537 : decode cL_law 537 = .ok (.iconst 0, 1) := by decide +kernel
theorem dL_law_538 : decode cL_law 538 = .ok (.ireturn, 1) := by decide +kernel
theorem dL_law_539 : decode cL_law 539 = .ok (.aload_n 1, 1) := by decide +kernel
theorem dL_law_540 : decode cL_law 540 = .ok (.aload_n 0, 1) := by decide +kernel
theorem dL_law_541 : decode cL_law 541 = .ok (.iload_n 3, 1) := by decide +kernel
theorem dL_law_542 : decode cL_law 542 = .ok (.iconst 1, 1) := by decide +kernel
theorem dL_law_543 : decode cL_law 543 = .ok (.iadd, 1) := by decide +kernel
theorem dL_law_544 : decode cL_law 544 = .ok (.iaload, 1) := by decide +kernel
theorem dL_law_545 : decode cL_law 545 = .ok (.invokevirtual 61, 3) := by decide +kernel
theorem dL_law_548 : decode cL_law 548 = .ok (.aload_n 2, 1) := by decide +kernel
theorem dL_law_549 : decode cL_law 549 = .ok (.aload_n 0, 1) := by decide +kernel
theorem dL_law_550 : decode cL_law 550 = .ok (.iload_n 3, 1) := by decide +kernel
theorem dL_law_551 : decode cL_law 551 = .ok (.iconst 1, 1) := by decide +kernel
theorem dL_law_552 : decode cL_law 552 = .ok (.iadd, 1) := by decide +kernel
theorem dL_law_553 : decode cL_law 553 = .ok (.iaload, 1) := by decide +kernel
theorem dL_law_554 : decode cL_law 554 = .ok (.invokevirtual 64, 3) := by decide +kernel
theorem dL_law_557 : decode cL_law 557 = .ok (.if_icmp .eq 663, 3) := by decide +kernel
theorem dL_law_560 : decode cL_law 560 = .ok (.iconst 0, 1) := by decide +kernel
theorem dL_law_561 : decode cL_law 561 = .ok (.ireturn, 1) := by decide +kernel
theorem dL_law_562 : decode cL_law 562 = .ok (.aload_n 1, 1) := by decide +kernel
theorem dL_law_563 : decode cL_law 563 = .ok (.aload_n 0, 1) := by decide +kernel
theorem dL_law_564 : decode cL_law 564 = .ok (.iload_n 3, 1) := by decide +kernel
theorem dL_law_565 : decode cL_law 565 = .ok (.iconst 1, 1) := by decide +kernel
theorem dL_law_566 : decode cL_law 566 = .ok (.iadd, 1) := by decide +kernel
theorem dL_law_567 : decode cL_law 567 = .ok (.iaload, 1) := by decide +kernel
theorem dL_law_568 : decode cL_law 568 = .ok (.aload_n 0, 1) := by decide +kernel
theorem dL_law_569 : decode cL_law 569 = .ok (.iload_n 3, 1) := by decide +kernel
theorem dL_law_570 : decode cL_law 570 = .ok (.iconst 2, 1) := by decide +kernel
theorem dL_law_571 : decode cL_law 571 = .ok (.iadd, 1) := by decide +kernel
theorem dL_law_572 : decode cL_law 572 = .ok (.iaload, 1) := by decide +kernel
theorem dL_law_573 : decode cL_law 573 = .ok (.ifCond .eq 7, 3) := by decide +kernel
theorem dL_law_576 : decode cL_law 576 = .ok (.iconst 1, 1) := by decide +kernel
theorem dL_law_577 : decode cL_law 577 = .ok (.goto 4, 3) := by decide +kernel
theorem dL_law_580 : decode cL_law 580 = .ok (.iconst 0, 1) := by decide +kernel
theorem dL_law_581 : decode cL_law 581 = .ok (.invokevirtual 65, 3) := by decide +kernel
theorem dL_law_584 : decode cL_law 584 = .ok (.aload_n 2, 1) := by decide +kernel
theorem dL_law_585 : decode cL_law 585 = .ok (.aload_n 0, 1) := by decide +kernel
theorem dL_law_586 : decode cL_law 586 = .ok (.iload_n 3, 1) := by decide +kernel
theorem dL_law_587 : decode cL_law 587 = .ok (.iconst 1, 1) := by decide +kernel
theorem dL_law_588 : decode cL_law 588 = .ok (.iadd, 1) := by decide +kernel
theorem dL_law_589 : decode cL_law 589 = .ok (.iaload, 1) := by decide +kernel
theorem dL_law_590 : decode cL_law 590 = .ok (.aload_n 0, 1) := by decide +kernel
theorem dL_law_591 : decode cL_law 591 = .ok (.iload_n 3, 1) := by decide +kernel
theorem dL_law_592 : decode cL_law 592 = .ok (.iconst 2, 1) := by decide +kernel
theorem dL_law_593 : decode cL_law 593 = .ok (.iadd, 1) := by decide +kernel
theorem dL_law_594 : decode cL_law 594 = .ok (.iaload, 1) := by decide +kernel
theorem dL_law_595 : decode cL_law 595 = .ok (.ifCond .eq 7, 3) := by decide +kernel
theorem dL_law_598 : decode cL_law 598 = .ok (.iconst 1, 1) := by decide +kernel
theorem dL_law_599 : decode cL_law 599 = .ok (.goto 4, 3) := by decide +kernel
theorem dL_law_602 : decode cL_law 602 = .ok (.iconst 0, 1) := by decide +kernel
theorem dL_law_603 : decode cL_law 603 = .ok (.invokevirtual 68, 3) := by decide +kernel
theorem dL_law_606 : decode cL_law 606 = .ok (.if_icmp .eq 614, 3) := by decide +kernel
theorem dL_law_609 : decode cL_law 609 = .ok (.iconst 0, 1) := by decide +kernel
theorem dL_law_610 : decode cL_law 610 = .ok (.ireturn, 1) := by decide +kernel
theorem dL_law_611 : decode cL_law 611 = .ok (.aload_n 1, 1) := by decide +kernel
theorem dL_law_612 : decode cL_law 612 = .ok (.invokevirtual 69, 3) := by decide +kernel
theorem dL_law_615 : decode cL_law 615 = .ok (.aload_n 2, 1) := by decide +kernel
theorem dL_law_616 : decode cL_law 616 = .ok (.invokevirtual 72, 3) := by decide +kernel
theorem dL_law_619 : decode cL_law 619 = .ok (.if_icmp .eq 601, 3) := by decide +kernel
theorem dL_law_622 : decode cL_law 622 = .ok (.iconst 0, 1) := by decide +kernel
theorem dL_law_623 : decode cL_law 623 = .ok (.ireturn, 1) := by decide +kernel
theorem dL_law_624 : decode cL_law 624 = .ok (.aload_n 1, 1) := by decide +kernel
theorem dL_law_625 : decode cL_law 625 = .ok (.invokevirtual 73, 3) := by decide +kernel
theorem dL_law_628 : decode cL_law 628 = .ok (.aload_n 2, 1) := by decide +kernel
theorem dL_law_629 : decode cL_law 629 = .ok (.invokevirtual 76, 3) := by decide +kernel
theorem dL_law_632 : decode cL_law 632 = .ok (.if_icmp .eq 588, 3) := by decide +kernel
theorem dL_law_635 : decode cL_law 635 = .ok (.iconst 0, 1) := by decide +kernel
theorem dL_law_636 : decode cL_law 636 = .ok (.ireturn, 1) := by decide +kernel
theorem dL_law_637 : decode cL_law 637 = .ok (.aload_n 1, 1) := by decide +kernel
theorem dL_law_638 : decode cL_law 638 = .ok (.aload_n 0, 1) := by decide +kernel
theorem dL_law_639 : decode cL_law 639 = .ok (.iload_n 3, 1) := by decide +kernel
theorem dL_law_640 : decode cL_law 640 = .ok (.iconst 1, 1) := by decide +kernel
theorem dL_law_641 : decode cL_law 641 = .ok (.iadd, 1) := by decide +kernel
theorem dL_law_642 : decode cL_law 642 = .ok (.iaload, 1) := by decide +kernel
theorem dL_law_643 : decode cL_law 643 = .ok (.invokevirtual 77, 3) := by decide +kernel
theorem dL_law_646 : decode cL_law 646 = .ok (.aload_n 2, 1) := by decide +kernel
theorem dL_law_647 : decode cL_law 647 = .ok (.aload_n 0, 1) := by decide +kernel
theorem dL_law_648 : decode cL_law 648 = .ok (.iload_n 3, 1) := by decide +kernel
theorem dL_law_649 : decode cL_law 649 = .ok (.iconst 1, 1) := by decide +kernel
theorem dL_law_650 : decode cL_law 650 = .ok (.iadd, 1) := by decide +kernel
theorem dL_law_651 : decode cL_law 651 = .ok (.iaload, 1) := by decide +kernel
theorem dL_law_652 : decode cL_law 652 = .ok (.invokevirtual 80, 3) := by decide +kernel
theorem dL_law_655 : decode cL_law 655 = .ok (.if_icmp .eq 565, 3) := by decide +kernel
theorem dL_law_658 : decode cL_law 658 = .ok (.iconst 0, 1) := by decide +kernel
theorem dL_law_659 : decode cL_law 659 = .ok (.ireturn, 1) := by decide +kernel
theorem dL_law_660 : decode cL_law 660 = .ok (.aload_n 1, 1) := by decide +kernel
theorem dL_law_661 : decode cL_law 661 = .ok (.invokevirtual 81, 3) := by decide +kernel
theorem dL_law_664 : decode cL_law 664 = .ok (.aload_n 2, 1) := by decide +kernel
theorem dL_law_665 : decode cL_law 665 = .ok (.invokevirtual 84, 3) := by decide +kernel
theorem dL_law_668 : decode cL_law 668 = .ok (.if_icmp .eq 552, 3) := by decide +kernel
theorem dL_law_671 : decode cL_law 671 = .ok (.iconst 0, 1) := by decide +kernel
theorem dL_law_672 : decode cL_law 672 = .ok (.ireturn, 1) := by decide +kernel
theorem dL_law_673 : decode cL_law 673 = .ok (.aload_n 1, 1) := by decide +kernel
theorem dL_law_674 : decode cL_law 674 = .ok (.aload_n 0, 1) := by decide +kernel
theorem dL_law_675 : decode cL_law 675 = .ok (.iload_n 3, 1) := by decide +kernel
theorem dL_law_676 : decode cL_law 676 = .ok (.iconst 1, 1) := by decide +kernel
theorem dL_law_677 : decode cL_law 677 = .ok (.iadd, 1) := by decide +kernel
theorem dL_law_678 : decode cL_law 678 = .ok (.iaload, 1) := by decide +kernel
theorem dL_law_679 : decode cL_law 679 = .ok (.invokevirtual 85, 3) := by decide +kernel
theorem dL_law_682 : decode cL_law 682 = .ok (.aload_n 2, 1) := by decide +kernel
theorem dL_law_683 : decode cL_law 683 = .ok (.aload_n 0, 1) := by decide +kernel
theorem dL_law_684 : decode cL_law 684 = .ok (.iload_n 3, 1) := by decide +kernel
theorem dL_law_685 : decode cL_law 685 = .ok (.iconst 1, 1) := by decide +kernel
theorem dL_law_686 : decode cL_law 686 = .ok (.iadd, 1) := by decide +kernel
theorem dL_law_687 : decode cL_law 687 = .ok (.iaload, 1) := by decide +kernel
theorem dL_law_688 : decode cL_law 688 = .ok (.invokevirtual 88, 3) := by decide +kernel
theorem dL_law_691 : decode cL_law 691 = .ok (.if_icmp .eq 529, 3) := by decide +kernel
theorem dL_law_694 : decode cL_law 694 = .ok (.iconst 0, 1) := by decide +kernel
theorem dL_law_695 : decode cL_law 695 = .ok (.ireturn, 1) := by decide +kernel
theorem dL_law_696 : decode cL_law 696 = .ok (.aload_n 1, 1) := by decide +kernel
theorem dL_law_697 : decode cL_law 697 = .ok (.aload_n 0, 1) := by decide +kernel
theorem dL_law_698 : decode cL_law 698 = .ok (.iload_n 3, 1) := by decide +kernel
theorem dL_law_699 : decode cL_law 699 = .ok (.iconst 1, 1) := by decide +kernel
theorem dL_law_700 : decode cL_law 700 = .ok (.iadd, 1) := by decide +kernel
theorem dL_law_701 : decode cL_law 701 = .ok (.iaload, 1) := by decide +kernel
theorem dL_law_702 : decode cL_law 702 = .ok (.aload_n 0, 1) := by decide +kernel
theorem dL_law_703 : decode cL_law 703 = .ok (.iload_n 3, 1) := by decide +kernel
theorem dL_law_704 : decode cL_law 704 = .ok (.iconst 2, 1) := by decide +kernel
theorem dL_law_705 : decode cL_law 705 = .ok (.iadd, 1) := by decide +kernel
theorem dL_law_706 : decode cL_law 706 = .ok (.iaload, 1) := by decide +kernel
theorem dL_law_707 : decode cL_law 707 = .ok (.invokevirtual 89, 3) := by decide +kernel
theorem dL_law_710 : decode cL_law 710 = .ok (.aload_n 2, 1) := by decide +kernel
theorem dL_law_711 : decode cL_law 711 = .ok (.aload_n 0, 1) := by decide +kernel
theorem dL_law_712 : decode cL_law 712 = .ok (.iload_n 3, 1) := by decide +kernel
theorem dL_law_713 : decode cL_law 713 = .ok (.iconst 1, 1) := by decide +kernel
theorem dL_law_714 : decode cL_law 714 = .ok (.iadd, 1) := by decide +kernel
theorem dL_law_715 : decode cL_law 715 = .ok (.iaload, 1) := by decide +kernel
theorem dL_law_716 : decode cL_law 716 = .ok (.aload_n 0, 1) := by decide +kernel
theorem dL_law_717 : decode cL_law 717 = .ok (.iload_n 3, 1) := by decide +kernel
theorem dL_law_718 : decode cL_law 718 = .ok (.iconst 2, 1) := by decide +kernel
theorem dL_law_719 : decode cL_law 719 = .ok (.iadd, 1) := by decide +kernel
theorem dL_law_720 : decode cL_law 720 = .ok (.iaload, 1) := by decide +kernel
theorem dL_law_721 : decode cL_law 721 = .ok (.invokevirtual 92, 3) := by decide +kernel
theorem dL_law_724 : decode cL_law 724 = .ok (.if_icmp .eq 496, 3) := by decide +kernel
theorem dL_law_727 : decode cL_law 727 = .ok (.iconst 0, 1) := by decide +kernel
theorem dL_law_728 : decode cL_law 728 = .ok (.ireturn, 1) := by decide +kernel
theorem dL_law_729 : decode cL_law 729 = .ok (.aload_n 1, 1) := by decide +kernel
theorem dL_law_730 : decode cL_law 730 = .ok (.invokevirtual 93, 3) := by decide +kernel
theorem dL_law_733 : decode cL_law 733 = .ok (.aload_n 2, 1) := by decide +kernel
theorem dL_law_734 : decode cL_law 734 = .ok (.invokevirtual 96, 3) := by decide +kernel
theorem dL_law_737 : decode cL_law 737 = .ok (.if_icmp .eq 483, 3) := by decide +kernel
theorem dL_law_740 : decode cL_law 740 = .ok (.iconst 0, 1) := by decide +kernel
theorem dL_law_741 : decode cL_law 741 = .ok (.ireturn, 1) := by decide +kernel
theorem dL_law_742 : decode cL_law 742 = .ok (.aload_n 1, 1) := by decide +kernel
theorem dL_law_743 : decode cL_law 743 = .ok (.aload_n 0, 1) := by decide +kernel
theorem dL_law_744 : decode cL_law 744 = .ok (.iload_n 3, 1) := by decide +kernel
theorem dL_law_745 : decode cL_law 745 = .ok (.iconst 1, 1) := by decide +kernel
theorem dL_law_746 : decode cL_law 746 = .ok (.iadd, 1) := by decide +kernel
theorem dL_law_747 : decode cL_law 747 = .ok (.iaload, 1) := by decide +kernel
theorem dL_law_748 : decode cL_law 748 = .ok (.aload_n 0, 1) := by decide +kernel
theorem dL_law_749 : decode cL_law 749 = .ok (.iload_n 3, 1) := by decide +kernel
theorem dL_law_750 : decode cL_law 750 = .ok (.iconst 2, 1) := by decide +kernel
theorem dL_law_751 : decode cL_law 751 = .ok (.iadd, 1) := by decide +kernel
theorem dL_law_752 : decode cL_law 752 = .ok (.iaload, 1) := by decide +kernel
theorem dL_law_753 : decode cL_law 753 = .ok (.invokevirtual 97, 3) := by decide +kernel
theorem dL_law_756 : decode cL_law 756 = .ok (.aload_n 2, 1) := by decide +kernel
theorem dL_law_757 : decode cL_law 757 = .ok (.aload_n 0, 1) := by decide +kernel
theorem dL_law_758 : decode cL_law 758 = .ok (.iload_n 3, 1) := by decide +kernel
theorem dL_law_759 : decode cL_law 759 = .ok (.iconst 1, 1) := by decide +kernel
theorem dL_law_760 : decode cL_law 760 = .ok (.iadd, 1) := by decide +kernel
theorem dL_law_761 : decode cL_law 761 = .ok (.iaload, 1) := by decide +kernel
theorem dL_law_762 : decode cL_law 762 = .ok (.aload_n 0, 1) := by decide +kernel
theorem dL_law_763 : decode cL_law 763 = .ok (.iload_n 3, 1) := by decide +kernel
theorem dL_law_764 : decode cL_law 764 = .ok (.iconst 2, 1) := by decide +kernel
theorem dL_law_765 : decode cL_law 765 = .ok (.iadd, 1) := by decide +kernel
theorem dL_law_766 : decode cL_law 766 = .ok (.iaload, 1) := by decide +kernel
theorem dL_law_767 : decode cL_law 767 = .ok (.invokevirtual 100, 3) := by decide +kernel
theorem dL_law_770 : decode cL_law 770 = .ok (.if_icmp .eq 450, 3) := by decide +kernel
theorem dL_law_773 : decode cL_law 773 = .ok (.iconst 0, 1) := by decide +kernel
theorem dL_law_774 : decode cL_law 774 = .ok (.ireturn, 1) := by decide +kernel
theorem dL_law_775 : decode cL_law 775 = .ok (.aload_n 1, 1) := by decide +kernel
theorem dL_law_776 : decode cL_law 776 = .ok (.aload_n 0, 1) := by decide +kernel
theorem dL_law_777 : decode cL_law 777 = .ok (.iload_n 3, 1) := by decide +kernel
theorem dL_law_778 : decode cL_law 778 = .ok (.iconst 1, 1) := by decide +kernel
theorem dL_law_779 : decode cL_law 779 = .ok (.iadd, 1) := by decide +kernel
theorem dL_law_780 : decode cL_law 780 = .ok (.iaload, 1) := by decide +kernel
theorem dL_law_781 : decode cL_law 781 = .ok (.invokevirtual 101, 3) := by decide +kernel
theorem dL_law_784 : decode cL_law 784 = .ok (.aload_n 2, 1) := by decide +kernel
theorem dL_law_785 : decode cL_law 785 = .ok (.aload_n 0, 1) := by decide +kernel
theorem dL_law_786 : decode cL_law 786 = .ok (.iload_n 3, 1) := by decide +kernel
theorem dL_law_787 : decode cL_law 787 = .ok (.iconst 1, 1) := by decide +kernel
theorem dL_law_788 : decode cL_law 788 = .ok (.iadd, 1) := by decide +kernel
theorem dL_law_789 : decode cL_law 789 = .ok (.iaload, 1) := by decide +kernel
theorem dL_law_790 : decode cL_law 790 = .ok (.invokevirtual 104, 3) := by decide +kernel
theorem dL_law_793 : decode cL_law 793 = .ok (.if_icmp .eq 427, 3) := by decide +kernel
theorem dL_law_796 : decode cL_law 796 = .ok (.iconst 0, 1) := by decide +kernel
theorem dL_law_797 : decode cL_law 797 = .ok (.ireturn, 1) := by decide +kernel
theorem dL_law_798 : decode cL_law 798 = .ok (.aload_n 1, 1) := by decide +kernel
theorem dL_law_799 : decode cL_law 799 = .ok (.aload_n 0, 1) := by decide +kernel
theorem dL_law_800 : decode cL_law 800 = .ok (.iload_n 3, 1) := by decide +kernel
theorem dL_law_801 : decode cL_law 801 = .ok (.iconst 1, 1) := by decide +kernel
theorem dL_law_802 : decode cL_law 802 = .ok (.iadd, 1) := by decide +kernel
theorem dL_law_803 : decode cL_law 803 = .ok (.iaload, 1) := by decide +kernel
theorem dL_law_804 : decode cL_law 804 = .ok (.invokevirtual 105, 3) := by decide +kernel
theorem dL_law_807 : decode cL_law 807 = .ok (.aload_n 2, 1) := by decide +kernel
theorem dL_law_808 : decode cL_law 808 = .ok (.aload_n 0, 1) := by decide +kernel
theorem dL_law_809 : decode cL_law 809 = .ok (.iload_n 3, 1) := by decide +kernel
theorem dL_law_810 : decode cL_law 810 = .ok (.iconst 1, 1) := by decide +kernel
theorem dL_law_811 : decode cL_law 811 = .ok (.iadd, 1) := by decide +kernel
theorem dL_law_812 : decode cL_law 812 = .ok (.iaload, 1) := by decide +kernel
theorem dL_law_813 : decode cL_law 813 = .ok (.invokevirtual 108, 3) := by decide +kernel
theorem dL_law_816 : decode cL_law 816 = .ok (.if_icmp .eq 404, 3) := by decide +kernel
theorem dL_law_819 : decode cL_law 819 = .ok (.iconst 0, 1) := by decide +kernel
theorem dL_law_820 : decode cL_law 820 = .ok (.ireturn, 1) := by decide +kernel
theorem dL_law_821 : decode cL_law 821 = .ok (.aload_n 1, 1) := by decide +kernel
theorem dL_law_822 : decode cL_law 822 = .ok (.aload_n 0, 1) := by decide +kernel
theorem dL_law_823 : decode cL_law 823 = .ok (.iload_n 3, 1) := by decide +kernel
theorem dL_law_824 : decode cL_law 824 = .ok (.iconst 1, 1) := by decide +kernel
theorem dL_law_825 : decode cL_law 825 = .ok (.iadd, 1) := by decide +kernel
theorem dL_law_826 : decode cL_law 826 = .ok (.iaload, 1) := by decide +kernel
theorem dL_law_827 : decode cL_law 827 = .ok (.aload_n 0, 1) := by decide +kernel
theorem dL_law_828 : decode cL_law 828 = .ok (.iload_n 3, 1) := by decide +kernel
theorem dL_law_829 : decode cL_law 829 = .ok (.iconst 2, 1) := by decide +kernel
theorem dL_law_830 : decode cL_law 830 = .ok (.iadd, 1) := by decide +kernel
theorem dL_law_831 : decode cL_law 831 = .ok (.iaload, 1) := by decide +kernel
theorem dL_law_832 : decode cL_law 832 = .ok (.aload_n 0, 1) := by decide +kernel
theorem dL_law_833 : decode cL_law 833 = .ok (.iload_n 3, 1) := by decide +kernel
theorem dL_law_834 : decode cL_law 834 = .ok (.iconst 3, 1) := by decide +kernel
theorem dL_law_835 : decode cL_law 835 = .ok (.iadd, 1) := by decide +kernel
theorem dL_law_836 : decode cL_law 836 = .ok (.iaload, 1) := by decide +kernel
theorem dL_law_837 : decode cL_law 837 = .ok (.aload_n 0, 1) := by decide +kernel
theorem dL_law_838 : decode cL_law 838 = .ok (.iload_n 3, 1) := by decide +kernel
theorem dL_law_839 : decode cL_law 839 = .ok (.iconst 4, 1) := by decide +kernel
theorem dL_law_840 : decode cL_law 840 = .ok (.iadd, 1) := by decide +kernel
theorem dL_law_841 : decode cL_law 841 = .ok (.iaload, 1) := by decide +kernel
theorem dL_law_842 : decode cL_law 842 = .ok (.invokevirtual 109, 3) := by decide +kernel
theorem dL_law_845 : decode cL_law 845 = .ok (.aload_n 2, 1) := by decide +kernel
theorem dL_law_846 : decode cL_law 846 = .ok (.aload_n 0, 1) := by decide +kernel
theorem dL_law_847 : decode cL_law 847 = .ok (.iload_n 3, 1) := by decide +kernel
theorem dL_law_848 : decode cL_law 848 = .ok (.iconst 1, 1) := by decide +kernel
theorem dL_law_849 : decode cL_law 849 = .ok (.iadd, 1) := by decide +kernel
theorem dL_law_850 : decode cL_law 850 = .ok (.iaload, 1) := by decide +kernel
theorem dL_law_851 : decode cL_law 851 = .ok (.aload_n 0, 1) := by decide +kernel
theorem dL_law_852 : decode cL_law 852 = .ok (.iload_n 3, 1) := by decide +kernel
theorem dL_law_853 : decode cL_law 853 = .ok (.iconst 2, 1) := by decide +kernel
theorem dL_law_854 : decode cL_law 854 = .ok (.iadd, 1) := by decide +kernel
theorem dL_law_855 : decode cL_law 855 = .ok (.iaload, 1) := by decide +kernel
theorem dL_law_856 : decode cL_law 856 = .ok (.aload_n 0, 1) := by decide +kernel
theorem dL_law_857 : decode cL_law 857 = .ok (.iload_n 3, 1) := by decide +kernel
theorem dL_law_858 : decode cL_law 858 = .ok (.iconst 3, 1) := by decide +kernel
theorem dL_law_859 : decode cL_law 859 = .ok (.iadd, 1) := by decide +kernel
theorem dL_law_860 : decode cL_law 860 = .ok (.iaload, 1) := by decide +kernel
theorem dL_law_861 : decode cL_law 861 = .ok (.aload_n 0, 1) := by decide +kernel
theorem dL_law_862 : decode cL_law 862 = .ok (.iload_n 3, 1) := by decide +kernel
theorem dL_law_863 : decode cL_law 863 = .ok (.iconst 4, 1) := by decide +kernel
theorem dL_law_864 : decode cL_law 864 = .ok (.iadd, 1) := by decide +kernel
theorem dL_law_865 : decode cL_law 865 = .ok (.iaload, 1) := by decide +kernel
theorem dL_law_866 : decode cL_law 866 = .ok (.invokevirtual 113, 3) := by decide +kernel
theorem dL_law_869 : decode cL_law 869 = .ok (.if_icmp .eq 351, 3) := by decide +kernel
theorem dL_law_872 : decode cL_law 872 = .ok (.iconst 0, 1) := by decide +kernel
theorem dL_law_873 : decode cL_law 873 = .ok (.ireturn, 1) := by decide +kernel
theorem dL_law_874 : decode cL_law 874 = .ok (.aload_n 1, 1) := by decide +kernel
theorem dL_law_875 : decode cL_law 875 = .ok (.invokevirtual 114, 3) := by decide +kernel
theorem dL_law_878 : decode cL_law 878 = .ok (.aload_n 2, 1) := by decide +kernel
theorem dL_law_879 : decode cL_law 879 = .ok (.invokevirtual 117, 3) := by decide +kernel
theorem dL_law_882 : decode cL_law 882 = .ok (.if_icmp .eq 338, 3) := by decide +kernel
theorem dL_law_885 : decode cL_law 885 = .ok (.iconst 0, 1) := by decide +kernel
theorem dL_law_886 : decode cL_law 886 = .ok (.ireturn, 1) := by decide +kernel
theorem dL_law_887 : decode cL_law 887 = .ok (.aload_n 1, 1) := by decide +kernel
theorem dL_law_888 : decode cL_law 888 = .ok (.aload_n 0, 1) := by decide +kernel
theorem dL_law_889 : decode cL_law 889 = .ok (.iload_n 3, 1) := by decide +kernel
theorem dL_law_890 : decode cL_law 890 = .ok (.iconst 1, 1) := by decide +kernel
theorem dL_law_891 : decode cL_law 891 = .ok (.iadd, 1) := by decide +kernel
theorem dL_law_892 : decode cL_law 892 = .ok (.iaload, 1) := by decide +kernel
theorem dL_law_893 : decode cL_law 893 = .ok (.ifCond .eq 7, 3) := by decide +kernel
theorem dL_law_896 : decode cL_law 896 = .ok (.iconst 1, 1) := by decide +kernel
theorem dL_law_897 : decode cL_law 897 = .ok (.goto 4, 3) := by decide +kernel
theorem dL_law_900 : decode cL_law 900 = .ok (.iconst 0, 1) := by decide +kernel
theorem dL_law_901 : decode cL_law 901 = .ok (.invokevirtual 118, 3) := by decide +kernel
theorem dL_law_904 : decode cL_law 904 = .ok (.aload_n 2, 1) := by decide +kernel
theorem dL_law_905 : decode cL_law 905 = .ok (.aload_n 0, 1) := by decide +kernel
theorem dL_law_906 : decode cL_law 906 = .ok (.iload_n 3, 1) := by decide +kernel
theorem dL_law_907 : decode cL_law 907 = .ok (.iconst 1, 1) := by decide +kernel
theorem dL_law_908 : decode cL_law 908 = .ok (.iadd, 1) := by decide +kernel
theorem dL_law_909 : decode cL_law 909 = .ok (.iaload, 1) := by decide +kernel
theorem dL_law_910 : decode cL_law 910 = .ok (.ifCond .eq 7, 3) := by decide +kernel
theorem dL_law_913 : decode cL_law 913 = .ok (.iconst 1, 1) := by decide +kernel
theorem dL_law_914 : decode cL_law 914 = .ok (.goto 4, 3) := by decide +kernel
theorem dL_law_917 : decode cL_law 917 = .ok (.iconst 0, 1) := by decide +kernel
theorem dL_law_918 : decode cL_law 918 = .ok (.invokevirtual 122, 3) := by decide +kernel
theorem dL_law_921 : decode cL_law 921 = .ok (.if_icmp .eq 299, 3) := by decide +kernel
theorem dL_law_924 : decode cL_law 924 = .ok (.iconst 0, 1) := by decide +kernel
theorem dL_law_925 : decode cL_law 925 = .ok (.ireturn, 1) := by decide +kernel
theorem dL_law_926 : decode cL_law 926 = .ok (.aload_n 1, 1) := by decide +kernel
theorem dL_law_927 : decode cL_law 927 = .ok (.aload_n 0, 1) := by decide +kernel
theorem dL_law_928 : decode cL_law 928 = .ok (.iload_n 3, 1) := by decide +kernel
theorem dL_law_929 : decode cL_law 929 = .ok (.iconst 1, 1) := by decide +kernel
theorem dL_law_930 : decode cL_law 930 = .ok (.iadd, 1) := by decide +kernel
theorem dL_law_931 : decode cL_law 931 = .ok (.iaload, 1) := by decide +kernel
theorem dL_law_932 : decode cL_law 932 = .ok (.aload_n 0, 1) := by decide +kernel
theorem dL_law_933 : decode cL_law 933 = .ok (.iload_n 3, 1) := by decide +kernel
theorem dL_law_934 : decode cL_law 934 = .ok (.iconst 2, 1) := by decide +kernel
theorem dL_law_935 : decode cL_law 935 = .ok (.iadd, 1) := by decide +kernel
theorem dL_law_936 : decode cL_law 936 = .ok (.iaload, 1) := by decide +kernel
theorem dL_law_937 : decode cL_law 937 = .ok (.invokevirtual 123, 3) := by decide +kernel
theorem dL_law_940 : decode cL_law 940 = .ok (.aload_n 2, 1) := by decide +kernel
theorem dL_law_941 : decode cL_law 941 = .ok (.aload_n 0, 1) := by decide +kernel
theorem dL_law_942 : decode cL_law 942 = .ok (.iload_n 3, 1) := by decide +kernel
theorem dL_law_943 : decode cL_law 943 = .ok (.iconst 1, 1) := by decide +kernel
theorem dL_law_944 : decode cL_law 944 = .ok (.iadd, 1) := by decide +kernel
theorem dL_law_945 : decode cL_law 945 = .ok (.iaload, 1) := by decide +kernel
theorem dL_law_946 : decode cL_law 946 = .ok (.aload_n 0, 1) := by decide +kernel
theorem dL_law_947 : decode cL_law 947 = .ok (.iload_n 3, 1) := by decide +kernel
theorem dL_law_948 : decode cL_law 948 = .ok (.iconst 2, 1) := by decide +kernel
theorem dL_law_949 : decode cL_law 949 = .ok (.iadd, 1) := by decide +kernel
theorem dL_law_950 : decode cL_law 950 = .ok (.iaload, 1) := by decide +kernel
theorem dL_law_951 : decode cL_law 951 = .ok (.invokevirtual 126, 3) := by decide +kernel
theorem dL_law_954 : decode cL_law 954 = .ok (.if_icmp .eq 266, 3) := by decide +kernel
theorem dL_law_957 : decode cL_law 957 = .ok (.iconst 0, 1) := by decide +kernel
theorem dL_law_958 : decode cL_law 958 = .ok (.ireturn, 1) := by decide +kernel
theorem dL_law_959 : decode cL_law 959 = .ok (.aload_n 1, 1) := by decide +kernel
theorem dL_law_960 : decode cL_law 960 = .ok (.aload_n 0, 1) := by decide +kernel
theorem dL_law_961 : decode cL_law 961 = .ok (.iload_n 3, 1) := by decide +kernel
theorem dL_law_962 : decode cL_law 962 = .ok (.iconst 1, 1) := by decide +kernel
theorem dL_law_963 : decode cL_law 963 = .ok (.iadd, 1) := by decide +kernel
theorem dL_law_964 : decode cL_law 964 = .ok (.iaload, 1) := by decide +kernel
theorem dL_law_965 : decode cL_law 965 = .ok (.aload_n 0, 1) := by decide +kernel
theorem dL_law_966 : decode cL_law 966 = .ok (.iload_n 3, 1) := by decide +kernel
theorem dL_law_967 : decode cL_law 967 = .ok (.iconst 2, 1) := by decide +kernel
theorem dL_law_968 : decode cL_law 968 = .ok (.iadd, 1) := by decide +kernel
theorem dL_law_969 : decode cL_law 969 = .ok (.iaload, 1) := by decide +kernel
theorem dL_law_970 : decode cL_law 970 = .ok (.invokevirtual 127, 3) := by decide +kernel
theorem dL_law_973 : decode cL_law 973 = .ok (.aload_n 2, 1) := by decide +kernel
theorem dL_law_974 : decode cL_law 974 = .ok (.aload_n 0, 1) := by decide +kernel
theorem dL_law_975 : decode cL_law 975 = .ok (.iload_n 3, 1) := by decide +kernel
theorem dL_law_976 : decode cL_law 976 = .ok (.iconst 1, 1) := by decide +kernel
theorem dL_law_977 : decode cL_law 977 = .ok (.iadd, 1) := by decide +kernel
theorem dL_law_978 : decode cL_law 978 = .ok (.iaload, 1) := by decide +kernel
theorem dL_law_979 : decode cL_law 979 = .ok (.aload_n 0, 1) := by decide +kernel
theorem dL_law_980 : decode cL_law 980 = .ok (.iload_n 3, 1) := by decide +kernel
theorem dL_law_981 : decode cL_law 981 = .ok (.iconst 2, 1) := by decide +kernel
theorem dL_law_982 : decode cL_law 982 = .ok (.iadd, 1) := by decide +kernel
theorem dL_law_983 : decode cL_law 983 = .ok (.iaload, 1) := by decide +kernel
theorem dL_law_984 : decode cL_law 984 = .ok (.invokevirtual 130, 3) := by decide +kernel
theorem dL_law_987 : decode cL_law 987 = .ok (.if_icmp .eq 233, 3) := by decide +kernel
theorem dL_law_990 : decode cL_law 990 = .ok (.iconst 0, 1) := by decide +kernel
theorem dL_law_991 : decode cL_law 991 = .ok (.ireturn, 1) := by decide +kernel
theorem dL_law_992 : decode cL_law 992 = .ok (.aload_n 1, 1) := by decide +kernel
theorem dL_law_993 : decode cL_law 993 = .ok (.aload_n 0, 1) := by decide +kernel
theorem dL_law_994 : decode cL_law 994 = .ok (.iload_n 3, 1) := by decide +kernel
theorem dL_law_995 : decode cL_law 995 = .ok (.iconst 1, 1) := by decide +kernel
theorem dL_law_996 : decode cL_law 996 = .ok (.iadd, 1) := by decide +kernel
theorem dL_law_997 : decode cL_law 997 = .ok (.iaload, 1) := by decide +kernel
theorem dL_law_998 : decode cL_law 998 = .ok (.aload_n 0, 1) := by decide +kernel
theorem dL_law_999 : decode cL_law 999 = .ok (.iload_n 3, 1) := by decide +kernel
theorem dL_law_1000 : decode cL_law 1000 = .ok (.iconst 2, 1) := by decide +kernel
theorem dL_law_1001 : decode cL_law 1001 = .ok (.iadd, 1) := by decide +kernel
theorem dL_law_1002 : decode cL_law 1002 = .ok (.iaload, 1) := by decide +kernel
theorem dL_law_1003 : decode cL_law 1003 = .ok (.invokevirtual 131, 3) := by decide +kernel
theorem dL_law_1006 : decode cL_law 1006 = .ok (.aload_n 2, 1) := by decide +kernel
theorem dL_law_1007 : decode cL_law 1007 = .ok (.aload_n 0, 1) := by decide +kernel
theorem dL_law_1008 : decode cL_law 1008 = .ok (.iload_n 3, 1) := by decide +kernel
theorem dL_law_1009 : decode cL_law 1009 = .ok (.iconst 1, 1) := by decide +kernel
theorem dL_law_1010 : decode cL_law 1010 = .ok (.iadd, 1) := by decide +kernel
theorem dL_law_1011 : decode cL_law 1011 = .ok (.iaload, 1) := by decide +kernel
theorem dL_law_1012 : decode cL_law 1012 = .ok (.aload_n 0, 1) := by decide +kernel
theorem dL_law_1013 : decode cL_law 1013 = .ok (.iload_n 3, 1) := by decide +kernel
theorem dL_law_1014 : decode cL_law 1014 = .ok (.iconst 2, 1) := by decide +kernel
theorem dL_law_1015 : decode cL_law 1015 = .ok (.iadd, 1) := by decide +kernel
theorem dL_law_1016 : decode cL_law 1016 = .ok (.iaload, 1) := by decide +kernel
theorem dL_law_1017 : decode cL_law 1017 = .ok (.invokevirtual 134, 3) := by decide +kernel
theorem dL_law_1020 : decode cL_law 1020 = .ok (.if_icmp .eq 200, 3) := by decide +kernel
theorem dL_law_1023 : decode cL_law 1023 = .ok (.iconst 0, 1) := by decide +kernel
theorem dL_law_1024 : decode cL_law 1024 = .ok (.ireturn, 1) := by decide +kernel
theorem dL_law_1025 : decode cL_law 1025 = .ok (.aload_n 1, 1) := by decide +kernel
theorem dL_law_1026 : decode cL_law 1026 = .ok (.aload_n 0, 1) := by decide +kernel
theorem dL_law_1027 : decode cL_law 1027 = .ok (.iload_n 3, 1) := by decide +kernel
theorem dL_law_1028 : decode cL_law 1028 = .ok (.iconst 1, 1) := by decide +kernel
theorem dL_law_1029 : decode cL_law 1029 = .ok (.iadd, 1) := by decide +kernel
theorem dL_law_1030 : decode cL_law 1030 = .ok (.iaload, 1) := by decide +kernel
theorem dL_law_1031 : decode cL_law 1031 = .ok (.aload_n 0, 1) := by decide +kernel
theorem dL_law_1032 : decode cL_law 1032 = .ok (.iload_n 3, 1) := by decide +kernel
theorem dL_law_1033 : decode cL_law 1033 = .ok (.iconst 2, 1) := by decide +kernel
theorem dL_law_1034 : decode cL_law 1034 = .ok (.iadd, 1) := by decide +kernel
theorem dL_law_1035 : decode cL_law 1035 = .ok (.iaload, 1) := by decide +kernel
theorem dL_law_1036 : decode cL_law 1036 = .ok (.aload_n 0, 1) := by decide +kernel
theorem dL_law_1037 : decode cL_law 1037 = .ok (.iload_n 3, 1) := by decide +kernel
theorem dL_law_1038 : decode cL_law 1038 = .ok (.iconst 3, 1) := by decide +kernel
theorem dL_law_1039 : decode cL_law 1039 = .ok (.iadd, 1) := by decide +kernel
theorem dL_law_1040 : decode cL_law 1040 = .ok (.iaload, 1) := by decide +kernel
theorem dL_law_1041 : decode cL_law 1041 = .ok (.invokevirtual 135, 3) := by decide +kernel
theorem dL_law_1044 : decode cL_law 1044 = .ok (.aload_n 2, 1) := by decide +kernel
theorem dL_law_1045 : decode cL_law 1045 = .ok (.aload_n 0, 1) := by decide +kernel
theorem dL_law_1046 : decode cL_law 1046 = .ok (.iload_n 3, 1) := by decide +kernel
theorem dL_law_1047 : decode cL_law 1047 = .ok (.iconst 1, 1) := by decide +kernel
theorem dL_law_1048 : decode cL_law 1048 = .ok (.iadd, 1) := by decide +kernel
theorem dL_law_1049 : decode cL_law 1049 = .ok (.iaload, 1) := by decide +kernel
theorem dL_law_1050 : decode cL_law 1050 = .ok (.aload_n 0, 1) := by decide +kernel
theorem dL_law_1051 : decode cL_law 1051 = .ok (.iload_n 3, 1) := by decide +kernel
theorem dL_law_1052 : decode cL_law 1052 = .ok (.iconst 2, 1) := by decide +kernel
theorem dL_law_1053 : decode cL_law 1053 = .ok (.iadd, 1) := by decide +kernel
theorem dL_law_1054 : decode cL_law 1054 = .ok (.iaload, 1) := by decide +kernel
theorem dL_law_1055 : decode cL_law 1055 = .ok (.aload_n 0, 1) := by decide +kernel
theorem dL_law_1056 : decode cL_law 1056 = .ok (.iload_n 3, 1) := by decide +kernel
theorem dL_law_1057 : decode cL_law 1057 = .ok (.iconst 3, 1) := by decide +kernel
theorem dL_law_1058 : decode cL_law 1058 = .ok (.iadd, 1) := by decide +kernel
theorem dL_law_1059 : decode cL_law 1059 = .ok (.iaload, 1) := by decide +kernel
theorem dL_law_1060 : decode cL_law 1060 = .ok (.invokevirtual 139, 3) := by decide +kernel
theorem dL_law_1063 : decode cL_law 1063 = .ok (.if_icmp .eq 157, 3) := by decide +kernel
theorem dL_law_1066 : decode cL_law 1066 = .ok (.iconst 0, 1) := by decide +kernel
theorem dL_law_1067 : decode cL_law 1067 = .ok (.ireturn, 1) := by decide +kernel
theorem dL_law_1068 : decode cL_law 1068 = .ok (.aload_n 1, 1) := by decide +kernel
theorem dL_law_1069 : decode cL_law 1069 = .ok (.aload_n 0, 1) := by decide +kernel
theorem dL_law_1070 : decode cL_law 1070 = .ok (.iload_n 3, 1) := by decide +kernel
theorem dL_law_1071 : decode cL_law 1071 = .ok (.iconst 1, 1) := by decide +kernel
theorem dL_law_1072 : decode cL_law 1072 = .ok (.iadd, 1) := by decide +kernel
theorem dL_law_1073 : decode cL_law 1073 = .ok (.iaload, 1) := by decide +kernel
theorem dL_law_1074 : decode cL_law 1074 = .ok (.aload_n 0, 1) := by decide +kernel
theorem dL_law_1075 : decode cL_law 1075 = .ok (.iload_n 3, 1) := by decide +kernel
theorem dL_law_1076 : decode cL_law 1076 = .ok (.iconst 2, 1) := by decide +kernel
theorem dL_law_1077 : decode cL_law 1077 = .ok (.iadd, 1) := by decide +kernel
theorem dL_law_1078 : decode cL_law 1078 = .ok (.iaload, 1) := by decide +kernel
theorem dL_law_1079 : decode cL_law 1079 = .ok (.aload_n 0, 1) := by decide +kernel
theorem dL_law_1080 : decode cL_law 1080 = .ok (.iload_n 3, 1) := by decide +kernel
theorem dL_law_1081 : decode cL_law 1081 = .ok (.iconst 3, 1) := by decide +kernel
theorem dL_law_1082 : decode cL_law 1082 = .ok (.iadd, 1) := by decide +kernel
theorem dL_law_1083 : decode cL_law 1083 = .ok (.iaload, 1) := by decide +kernel
theorem dL_law_1084 : decode cL_law 1084 = .ok (.invokevirtual 140, 3) := by decide +kernel
theorem dL_law_1087 : decode cL_law 1087 = .ok (.aload_n 2, 1) := by decide +kernel
theorem dL_law_1088 : decode cL_law 1088 = .ok (.aload_n 0, 1) := by decide +kernel
theorem dL_law_1089 : decode cL_law 1089 = .ok (.iload_n 3, 1) := by decide +kernel
theorem dL_law_1090 : decode cL_law 1090 = .ok (.iconst 1, 1) := by decide +kernel
theorem dL_law_1091 : decode cL_law 1091 = .ok (.iadd, 1) := by decide +kernel
theorem dL_law_1092 : decode cL_law 1092 = .ok (.iaload, 1) := by decide +kernel
theorem dL_law_1093 : decode cL_law 1093 = .ok (.aload_n 0, 1) := by decide +kernel
theorem dL_law_1094 : decode cL_law 1094 = .ok (.iload_n 3, 1) := by decide +kernel
theorem dL_law_1095 : decode cL_law 1095 = .ok (.iconst 2, 1) := by decide +kernel
theorem dL_law_1096 : decode cL_law 1096 = .ok (.iadd, 1) := by decide +kernel
theorem dL_law_1097 : decode cL_law 1097 = .ok (.iaload, 1) := by decide +kernel
theorem dL_law_1098 : decode cL_law 1098 = .ok (.aload_n 0, 1) := by decide +kernel
theorem dL_law_1099 : decode cL_law 1099 = .ok (.iload_n 3, 1) := by decide +kernel
theorem dL_law_1100 : decode cL_law 1100 = .ok (.iconst 3, 1) := by decide +kernel
theorem dL_law_1101 : decode cL_law 1101 = .ok (.iadd, 1) := by decide +kernel
theorem dL_law_1102 : decode cL_law 1102 = .ok (.iaload, 1) := by decide +kernel
theorem dL_law_1103 : decode cL_law 1103 = .ok (.invokevirtual 143, 3) := by decide +kernel
theorem dL_law_1106 : decode cL_law 1106 = .ok (.if_icmp .eq 114, 3) := by decide +kernel
theorem dL_law_1109 : decode cL_law 1109 = .ok (.iconst 0, 1) := by decide +kernel
theorem dL_law_1110 : decode cL_law 1110 = .ok (.ireturn, 1) := by decide +kernel
theorem dL_law_1111 : decode cL_law 1111 = .ok (.aload_n 1, 1) := by decide +kernel
theorem dL_law_1112 : decode cL_law 1112 = .ok (.aload_n 0, 1) := by decide +kernel
theorem dL_law_1113 : decode cL_law 1113 = .ok (.iload_n 3, 1) := by decide +kernel
theorem dL_law_1114 : decode cL_law 1114 = .ok (.iconst 1, 1) := by decide +kernel
theorem dL_law_1115 : decode cL_law 1115 = .ok (.iadd, 1) := by decide +kernel
theorem dL_law_1116 : decode cL_law 1116 = .ok (.iaload, 1) := by decide +kernel
theorem dL_law_1117 : decode cL_law 1117 = .ok (.aload_n 0, 1) := by decide +kernel
theorem dL_law_1118 : decode cL_law 1118 = .ok (.iload_n 3, 1) := by decide +kernel
theorem dL_law_1119 : decode cL_law 1119 = .ok (.iconst 2, 1) := by decide +kernel
theorem dL_law_1120 : decode cL_law 1120 = .ok (.iadd, 1) := by decide +kernel
theorem dL_law_1121 : decode cL_law 1121 = .ok (.iaload, 1) := by decide +kernel
theorem dL_law_1122 : decode cL_law 1122 = .ok (.aload_n 0, 1) := by decide +kernel
theorem dL_law_1123 : decode cL_law 1123 = .ok (.iload_n 3, 1) := by decide +kernel
theorem dL_law_1124 : decode cL_law 1124 = .ok (.iconst 3, 1) := by decide +kernel
theorem dL_law_1125 : decode cL_law 1125 = .ok (.iadd, 1) := by decide +kernel
theorem dL_law_1126 : decode cL_law 1126 = .ok (.iaload, 1) := by decide +kernel
theorem dL_law_1127 : decode cL_law 1127 = .ok (.aload_n 0, 1) := by decide +kernel
theorem dL_law_1128 : decode cL_law 1128 = .ok (.iload_n 3, 1) := by decide +kernel
theorem dL_law_1129 : decode cL_law 1129 = .ok (.iconst 4, 1) := by decide +kernel
theorem dL_law_1130 : decode cL_law 1130 = .ok (.iadd, 1) := by decide +kernel
theorem dL_law_1131 : decode cL_law 1131 = .ok (.iaload, 1) := by decide +kernel
theorem dL_law_1132 : decode cL_law 1132 = .ok (.aload_n 0, 1) := by decide +kernel
theorem dL_law_1133 : decode cL_law 1133 = .ok (.iload_n 3, 1) := by decide +kernel
theorem dL_law_1134 : decode cL_law 1134 = .ok (.iconst 5, 1) := by decide +kernel
theorem dL_law_1135 : decode cL_law 1135 = .ok (.iadd, 1) := by decide +kernel
theorem dL_law_1136 : decode cL_law 1136 = .ok (.iaload, 1) := by decide +kernel
theorem dL_law_1137 : decode cL_law 1137 = .ok (.invokevirtual 144, 3) := by decide +kernel
theorem dL_law_1140 : decode cL_law 1140 = .ok (.aload_n 2, 1) := by decide +kernel
theorem dL_law_1141 : decode cL_law 1141 = .ok (.aload_n 0, 1) := by decide +kernel
theorem dL_law_1142 : decode cL_law 1142 = .ok (.iload_n 3, 1) := by decide +kernel
theorem dL_law_1143 : decode cL_law 1143 = .ok (.iconst 1, 1) := by decide +kernel
theorem dL_law_1144 : decode cL_law 1144 = .ok (.iadd, 1) := by decide +kernel
theorem dL_law_1145 : decode cL_law 1145 = .ok (.iaload, 1) := by decide +kernel
theorem dL_law_1146 : decode cL_law 1146 = .ok (.aload_n 0, 1) := by decide +kernel
theorem dL_law_1147 : decode cL_law 1147 = .ok (.iload_n 3, 1) := by decide +kernel
theorem dL_law_1148 : decode cL_law 1148 = .ok (.iconst 2, 1) := by decide +kernel
theorem dL_law_1149 : decode cL_law 1149 = .ok (.iadd, 1) := by decide +kernel
theorem dL_law_1150 : decode cL_law 1150 = .ok (.iaload, 1) := by decide +kernel
theorem dL_law_1151 : decode cL_law 1151 = .ok (.aload_n 0, 1) := by decide +kernel
theorem dL_law_1152 : decode cL_law 1152 = .ok (.iload_n 3, 1) := by decide +kernel
theorem dL_law_1153 : decode cL_law 1153 = .ok (.iconst 3, 1) := by decide +kernel
theorem dL_law_1154 : decode cL_law 1154 = .ok (.iadd, 1) := by decide +kernel
theorem dL_law_1155 : decode cL_law 1155 = .ok (.iaload, 1) := by decide +kernel
theorem dL_law_1156 : decode cL_law 1156 = .ok (.aload_n 0, 1) := by decide +kernel
theorem dL_law_1157 : decode cL_law 1157 = .ok (.iload_n 3, 1) := by decide +kernel
theorem dL_law_1158 : decode cL_law 1158 = .ok (.iconst 4, 1) := by decide +kernel
theorem dL_law_1159 : decode cL_law 1159 = .ok (.iadd, 1) := by decide +kernel
theorem dL_law_1160 : decode cL_law 1160 = .ok (.iaload, 1) := by decide +kernel
theorem dL_law_1161 : decode cL_law 1161 = .ok (.aload_n 0, 1) := by decide +kernel
theorem dL_law_1162 : decode cL_law 1162 = .ok (.iload_n 3, 1) := by decide +kernel
theorem dL_law_1163 : decode cL_law 1163 = .ok (.iconst 5, 1) := by decide +kernel
theorem dL_law_1164 : decode cL_law 1164 = .ok (.iadd, 1) := by decide +kernel
theorem dL_law_1165 : decode cL_law 1165 = .ok (.iaload, 1) := by decide +kernel
theorem dL_law_1166 : decode cL_law 1166 = .ok (.invokevirtual 148, 3) := by decide +kernel
theorem dL_law_1169 : decode cL_law 1169 = .ok (.if_icmp .eq 51, 3) := by decide +kernel
theorem dL_law_1172 : decode cL_law 1172 = .ok (.iconst 0, 1) := by decide +kernel
theorem dL_law_1173 : decode cL_law 1173 = .ok (.ireturn, 1) := by decide +kernel
theorem dL_law_1174 : decode cL_law 1174 = .ok (.aload_n 1, 1) := by decide +kernel
theorem dL_law_1175 : decode cL_law 1175 = .ok (.aload_n 0, 1) := by decide +kernel
theorem dL_law_1176 : decode cL_law 1176 = .ok (.iload_n 3, 1) := by decide +kernel
theorem dL_law_1177 : decode cL_law 1177 = .ok (.iconst 1, 1) := by decide +kernel
theorem dL_law_1178 : decode cL_law 1178 = .ok (.iadd, 1) := by decide +kernel
theorem dL_law_1179 : decode cL_law 1179 = .ok (.iaload, 1) := by decide +kernel
theorem dL_law_1180 : decode cL_law 1180 = .ok (.invokevirtual 149, 3) := by decide +kernel
theorem dL_law_1183 : decode cL_law 1183 = .ok (.aload_n 2, 1) := by decide +kernel
theorem dL_law_1184 : decode cL_law 1184 = .ok (.aload_n 0, 1) := by decide +kernel
theorem dL_law_1185 : decode cL_law 1185 = .ok (.iload_n 3, 1) := by decide +kernel
theorem dL_law_1186 : decode cL_law 1186 = .ok (.iconst 1, 1) := by decide +kernel
theorem dL_law_1187 : decode cL_law 1187 = .ok (.iadd, 1) := by decide +kernel
theorem dL_law_1188 : decode cL_law 1188 = .ok (.iaload, 1) := by decide +kernel
theorem dL_law_1189 : decode cL_law 1189 = .ok (.invokevirtual 152, 3) := by decide +kernel
theorem dL_law_1192 : decode cL_law 1192 = .ok (.if_icmp .eq 28, 3) := by decide +kernel
theorem dL_law_1195 : decode cL_law 1195 = .ok (.iconst 0, 1) := by decide +kernel
theorem dL_law_1196 : decode cL_law 1196 = .ok (.ireturn, 1) := by decide +kernel
theorem dL_law_1197 : decode cL_law 1197 = .ok (.aload_n 1, 1) := by decide +kernel
theorem dL_law_1198 : decode cL_law 1198 = .ok (.aload_n 0, 1) := by decide +kernel
theorem dL_law_1199 : decode cL_law 1199 = .ok (.iload_n 3, 1) := by decide +kernel
theorem dL_law_1200 : decode cL_law 1200 = .ok (.iconst 1, 1) := by decide +kernel
theorem dL_law_1201 : decode cL_law 1201 = .ok (.iadd, 1) := by decide +kernel
theorem dL_law_1202 : decode cL_law 1202 = .ok (.iaload, 1) := by decide +kernel
theorem dL_law_1203 : decode cL_law 1203 = .ok (.invokevirtual 153, 3) := by decide +kernel
theorem dL_law_1206 : decode cL_law 1206 = .ok (.aload_n 2, 1) := by decide +kernel
theorem dL_law_1207 : decode cL_law 1207 = .ok (.aload_n 0, 1) := by decide +kernel
theorem dL_law_1208 : decode cL_law 1208 = .ok (.iload_n 3, 1) := by decide +kernel
theorem dL_law_1209 : decode cL_law 1209 = .ok (.iconst 1, 1) := by decide +kernel
theorem dL_law_1210 : decode cL_law 1210 = .ok (.iadd, 1) := by decide +kernel
theorem dL_law_1211 : decode cL_law 1211 = .ok (.iaload, 1) := by decide +kernel
theorem dL_law_1212 : decode cL_law 1212 = .ok (.invokevirtual 156, 3) := by decide +kernel
theorem dL_law_1215 : decode cL_law 1215 = .ok (.if_icmp .eq 5, 3) := by decide +kernel
theorem dL_law_1218 : decode cL_law 1218 = .ok (.iconst 0, 1) := by decide +kernel
theorem dL_law_1219 : decode cL_law 1219 = .ok (.ireturn, 1) := by decide +kernel
theorem dL_law_1220 : decode cL_law 1220 = .ok (.iinc 3 6, 3) := by decide +kernel
theorem dL_law_1223 : decode cL_law 1223 = .ok (.goto (-1205), 3) := by decide +kernel
theorem dL_law_1226 : decode cL_law 1226 = .ok (.iconst 1, 1) := by decide +kernel
theorem dL_law_1227 : decode cL_law 1227 = .ok (.ireturn, 1) := by decide +kernel
