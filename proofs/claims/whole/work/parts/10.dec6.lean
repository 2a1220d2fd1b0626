theorem dX6_changes_10 : decode cX6_changes 10 = .ok (.aload_n 0, 1) := by decide +kernel
theorem dX6_changes_11 : decode cX6_changes 11 = .ok (.iload_n 2, 1) := by decide +kernel
theorem dX6_changes_12 : decode cX6_changes 12 = .ok (.iload_n 3, 1) := by decide +kernel
theorem dX6_changes_13 : decode cX6_changes 13 = .ok (.iastore, 1) := by decide +kernel
theorem dX6_changes_14 : decode cX6_changes 14 = .ok (.return_, 1) := by decide +kernel
theorem dX6_swap_0 : decode cX6_swap 0 = .ok (.iload_n 1, 1) := by decide +kernel
theorem dX6_swap_1 : decode cX6_swap 1 = .ok (.iconst 0, 1) := by decide +kernel
theorem dX6_swap_2 : decode cX6_swap 2 = .ok (.bipush 30, 2) := by decide +kernel
theorem dX6_swap_4 : decode cX6_swap 4 = .ok (.invokestatic 165, 3) := by decide +kernel
theorem dX6_swap_7 : decode cX6_swap 7 = .ok (.istore_n 2, 1) := by decide +kernel
theorem dX6_swap_8 : decode cX6_swap 8 = .ok (.iload_n 2, 1) := by decide +kernel
theorem dX6_swap_9 : decode cX6_swap 9 = .ok (.ifCond .eq 9, 3) := by decide +kernel
theorem dX6_swap_12 : decode cX6_swap 12 = .ok (.aload_n 0, 1) := by decide +kernel
theorem dX6_swap_13 : decode cX6_swap 13 = .ok (.iload_n 2, 1) := by decide +kernel
theorem dX6_swap_14 : decode cX6_swap 14 = .ok (.invokevirtual 172, 3) := by decide +kernel
theorem dX6_swap_17 : decode cX6_swap 17 = .ok (.ireturn, 1) := by decide +kernel
theorem dX6_swap_18 : decode cX6_swap 18 = .ok (.bipush (-9), 2) := by decide +kernel
theorem dX6_swap_20 : decode cX6_swap 20 = .ok (.istore_n 3, 1) := by decide +kernel
theorem dX6_swap_21 : decode cX6_swap 21 = .ok (.aload_n 0, 1) := by decide +kernel
theorem dX6_swap_22 : decode cX6_swap 22 = .ok (.invokevirtual 280, 3) := by decide +kernel
theorem dX6_swap_25 : decode cX6_swap 25 = .ok (.aload_n 0, 1) := by decide +kernel
theorem dX6_swap_26 : decode cX6_swap 26 = .ok (.iload_n 1, 1) := by decide +kernel
theorem dX6_swap_27 : decode cX6_swap 27 = .ok (.invokevirtual 210, 3) := by decide +kernel
theorem dX6_swap_30 : decode cX6_swap 30 = .ok (.aload_n 0, 1) := by decide +kernel
theorem dX6_swap_31 : decode cX6_swap 31 = .ok (.invokevirtual 277, 3) := by decide +kernel
theorem dX6_swap_34 : decode cX6_swap 34 = .ok (.istore 4, 2) := by decide +kernel
theorem dX6_swap_36 : decode cX6_swap 36 = .ok (.aload_n 0, 1) := by decide +kernel
theorem dX6_swap_37 : decode cX6_swap 37 = .ok (.invokevirtual 283, 3) := by decide +kernel
theorem dX6_swap_40 : decode cX6_swap 40 = .ok (.iconst 0, 1) := by decide +kernel
theorem dX6_swap_41 : decode cX6_swap 41 = .ok (.istore 5, 2) := by decide +kernel
theorem dX6_swap_43 : decode cX6_swap 43 = .ok (.iload 5, 2) := by decide +kernel
theorem dX6_swap_45 : decode cX6_swap 45 = .ok (.aload_n 0, 1) := by decide +kernel
theorem dX6_swap_46 : decode cX6_swap 46 = .ok (.getfield 89, 3) := by decide +kernel
theorem dX6_swap_49 : decode cX6_swap 49 = .ok (.if_icmp .ge 94, 3) := by decide +kernel
theorem dX6_swap_52 : decode cX6_swap 52 = .ok (.iload 5, 2) := by decide +kernel
theorem dX6_swap_54 : decode cX6_swap 54 = .ok (.iconst 1, 1) := by decide +kernel
theorem dX6_swap_55 : decode cX6_swap 55 = .ok (.iadd, 1) := by decide +kernel
theorem dX6_swap_56 : decode cX6_swap 56 = .ok (.istore 6, 2) := by decide +kernel
theorem dX6_swap_58 : decode cX6_swap 58 = .ok (.iload 6, 2) := by decide +kernel
theorem dX6_swap_60 : decode cX6_swap 60 = .ok (.aload_n 0, 1) := by decide +kernel
theorem dX6_swap_61 : decode cX6_swap 61 = .ok (.getfield 89, 3) := by decide +kernel
theorem dX6_swap_64 : decode cX6_swap 64 = .ok (.if_icmp .ge 73, 3) := by decide +kernel
theorem dX6_swap_67 : decode cX6_swap 67 = .ok (.aload_n 0, 1) := by decide +kernel
theorem dX6_swap_68 : decode cX6_swap 68 = .ok (.invokevirtual 280, 3) := by decide +kernel
theorem dX6_swap_71 : decode cX6_swap 71 = .ok (.aload_n 0, 1) := by decide +kernel
theorem dX6_swap_72 : decode cX6_swap 72 = .ok (.getfield 31, 3) := by decide +kernel
theorem dX6_swap_75 : decode cX6_swap 75 = .ok (.iload 5, 2) := by decide +kernel
theorem dX6_swap_77 : decode cX6_swap 77 = .ok (.iload 6, 2) := by decide +kernel
theorem dX6_swap_79 : decode cX6_swap 79 = .ok (.invokestatic 301, 3) := by decide +kernel
theorem dX6_swap_82 : decode cX6_swap 82 = .ok (.aload_n 0, 1) := by decide +kernel
theorem dX6_swap_83 : decode cX6_swap 83 = .ok (.getfield 34, 3) := by decide +kernel
theorem dX6_swap_86 : decode cX6_swap 86 = .ok (.iload 5, 2) := by decide +kernel
theorem dX6_swap_88 : decode cX6_swap 88 = .ok (.iload 6, 2) := by decide +kernel
theorem dX6_swap_90 : decode cX6_swap 90 = .ok (.invokestatic 301, 3) := by decide +kernel
theorem dX6_swap_93 : decode cX6_swap 93 = .ok (.aload_n 0, 1) := by decide +kernel
theorem dX6_swap_94 : decode cX6_swap 94 = .ok (.iload_n 1, 1) := by decide +kernel
theorem dX6_swap_95 : decode cX6_swap 95 = .ok (.invokevirtual 210, 3) := by decide +kernel
theorem dX6_swap_98 : decode cX6_swap 98 = .ok (.aload_n 0, 1) := by decide +kernel
theorem dX6_swap_99 : decode cX6_swap 99 = .ok (.invokevirtual 277, 3) := by decide +kernel
theorem dX6_swap_102 : decode cX6_swap 102 = .ok (.istore 7, 2) := by decide +kernel
theorem dX6_swap_104 : decode cX6_swap 104 = .ok (.aload_n 0, 1) := by decide +kernel
theorem dX6_swap_105 : decode cX6_swap 105 = .ok (.invokevirtual 283, 3) := by decide +kernel
theorem dX6_swap_108 : decode cX6_swap 108 = .ok (.iload 7, 2) := by decide +kernel
theorem dX6_swap_110 : decode cX6_swap 110 = .ok (.iload 4, 2) := by decide +kernel
theorem dX6_swap_112 : decode cX6_swap 112 = .ok (.if_icmp .gt 6, 3) := by decide +kernel
theorem dX6_swap_115 : decode cX6_swap 115 = .ok (.goto 16, 3) := by decide +kernel
theorem dX6_swap_118 : decode cX6_swap 118 = .ok (.bipush 10, 2) := by decide +kernel
theorem dX6_swap_120 : decode cX6_swap 120 = .ok (.iload 5, 2) := by decide +kernel
theorem dX6_swap_122 : decode cX6_swap 122 = .ok (.imul, 1) := by decide +kernel
theorem dX6_swap_123 : decode cX6_swap 123 = .ok (.iload 6, 2) := by decide +kernel
theorem dX6_swap_125 : decode cX6_swap 125 = .ok (.iadd, 1) := by decide +kernel
theorem dX6_swap_126 : decode cX6_swap 126 = .ok (.istore_n 3, 1) := by decide +kernel
theorem dX6_swap_127 : decode cX6_swap 127 = .ok (.iload 7, 2) := by decide +kernel
theorem dX6_swap_129 : decode cX6_swap 129 = .ok (.istore 4, 2) := by decide +kernel
theorem dX6_swap_131 : decode cX6_swap 131 = .ok (.iinc 6 1, 3) := by decide +kernel
theorem dX6_swap_134 : decode cX6_swap 134 = .ok (.goto (-76), 3) := by decide +kernel
theorem dX6_swap_137 : decode cX6_swap 137 = .ok (.iinc 5 1, 3) := by decide +kernel
theorem dX6_swap_140 : decode cX6_swap 140 = .ok (.goto (-97), 3) := by decide +kernel
theorem dX6_swap_143 : decode cX6_swap 143 = .ok (.iload_n 3, 1) := by decide +kernel
theorem dX6_swap_144 : decode cX6_swap 144 = .ok (.ireturn, 1) := by decide +kernel
theorem dX6_wentSo_0 : decode cX6_wentSo 0 = .ok (.iconst 0, 1) := by decide +kernel
theorem dX6_wentSo_1 : decode cX6_wentSo 1 = .ok (.istore_n 2, 1) := by decide +kernel
theorem dX6_wentSo_2 : decode cX6_wentSo 2 = .ok (.iload_n 2, 1) := by decide +kernel
theorem dX6_wentSo_3 : decode cX6_wentSo 3 = .ok (.aload_n 0, 1) := by decide +kernel
theorem dX6_wentSo_4 : decode cX6_wentSo 4 = .ok (.getfield 305, 3) := by decide +kernel
theorem dX6_wentSo_7 : decode cX6_wentSo 7 = .ok (.if_icmp .ge 30, 3) := by decide +kernel
theorem dX6_wentSo_10 : decode cX6_wentSo 10 = .ok (.aload_n 0, 1) := by decide +kernel
theorem dX6_wentSo_11 : decode cX6_wentSo 11 = .ok (.getfield 40, 3) := by decide +kernel
theorem dX6_wentSo_14 : decode cX6_wentSo 14 = .ok (.iload_n 1, 1) := by decide +kernel
theorem dX6_wentSo_15 : decode cX6_wentSo 15 = .ok (.iaload, 1) := by decide +kernel
theorem dX6_wentSo_16 : decode cX6_wentSo 16 = .ok (.aload_n 0, 1) := by decide +kernel
theorem dX6_wentSo_17 : decode cX6_wentSo 17 = .ok (.getfield 68, 3) := by decide +kernel
theorem dX6_wentSo_20 : decode cX6_wentSo 20 = .ok (.iload_n 2, 1) := by decide +kernel
theorem dX6_wentSo_21 : decode cX6_wentSo 21 = .ok (.iaload, 1) := by decide +kernel
theorem dX6_wentSo_22 : decode cX6_wentSo 22 = .ok (.if_icmp .eq 5, 3) := by decide +kernel
theorem dX6_wentSo_25 : decode cX6_wentSo 25 = .ok (.iconst 0, 1) := by decide +kernel
theorem dX6_wentSo_26 : decode cX6_wentSo 26 = .ok (.ireturn, 1) := by decide +kernel
theorem dX6_wentSo_27 : decode cX6_wentSo 27 = .ok (.aload_n 0, 1) := by decide +kernel
theorem dX6_wentSo_28 : decode cX6_wentSo 28 = .ok (.invokevirtual 162, 3) := by decide +kernel
theorem dX6_wentSo_31 : decode cX6_wentSo 31 = .ok (.iinc 2 1, 3) := by decide +kernel
theorem dX6_wentSo_34 : decode cX6_wentSo 34 = .ok (.goto (-32), 3) := by decide +kernel
theorem dX6_wentSo_37 : decode cX6_wentSo 37 = .ok (.iconst 1, 1) := by decide +kernel
theorem dX6_wentSo_38 : decode cX6_wentSo 38 = .ok (.ireturn, 1) := by decide +kernel
theorem dX6_whatKind_0 : decode cX6_whatKind 0 = .ok (.aload_n 0, 1) := by decide +kernel
theorem dX6_whatKind_1 : decode cX6_whatKind 1 = .ok (.iload_n 1, 1) := by decide +kernel
theorem dX6_whatKind_2 : decode cX6_whatKind 2 = .ok (.invokevirtual 92, 3) := by decide +kernel
theorem dX6_whatKind_5 : decode cX6_whatKind 5 = .ok (.ifCond .ne 7, 3) := by decide +kernel
theorem dX6_whatKind_8 : decode cX6_whatKind 8 = .ok (.iconst (-1), 1) := by decide +kernel
theorem dX6_whatKind_9 : decode cX6_whatKind 9 = .ok (.goto 18, 3) := by decide +kernel
theorem dX6_whatKind_12 : decode cX6_whatKind 12 = .ok (.iload_n 2, 1) := by decide +kernel
theorem dX6_whatKind_13 : decode cX6_whatKind 13 = .ok (.iconst 0, 1) := by decide +kernel
theorem dX6_whatKind_14 : decode cX6_whatKind 14 = .ok (.iconst 1, 1) := by decide +kernel
theorem dX6_whatKind_15 : decode cX6_whatKind 15 = .ok (.invokestatic 82, 3) := by decide +kernel
theorem dX6_whatKind_18 : decode cX6_whatKind 18 = .ok (.ifCond .ne 8, 3) := by decide +kernel
theorem dX6_whatKind_21 : decode cX6_whatKind 21 = .ok (.bipush (-2), 2) := by decide +kernel
theorem dX6_whatKind_23 : decode cX6_whatKind 23 = .ok (.goto 4, 3) := by decide +kernel
theorem dX6_whatKind_26 : decode cX6_whatKind 26 = .ok (.iconst 0, 1) := by decide +kernel
theorem dX6_whatKind_27 : decode cX6_whatKind 27 = .ok (.istore_n 3, 1) := by decide +kernel
theorem dX6_whatKind_28 : decode cX6_whatKind 28 = .ok (.iload_n 3, 1) := by decide +kernel
theorem dX6_whatKind_29 : decode cX6_whatKind 29 = .ok (.ifCond .eq 9, 3) := by decide +kernel
theorem dX6_whatKind_32 : decode cX6_whatKind 32 = .ok (.aload_n 0, 1) := by decide +kernel
theorem dX6_whatKind_33 : decode cX6_whatKind 33 = .ok (.iload_n 3, 1) := by decide +kernel
theorem dX6_whatKind_34 : decode cX6_whatKind 34 = .ok (.invokevirtual 172, 3) := by decide +kernel
theorem dX6_whatKind_37 : decode cX6_whatKind 37 = .ok (.ireturn, 1) := by decide +kernel
theorem dX6_whatKind_38 : decode cX6_whatKind 38 = .ok (.iconst 0, 1) := by decide +kernel
theorem dX6_whatKind_39 : decode cX6_whatKind 39 = .ok (.istore 4, 2) := by decide +kernel
theorem dX6_whatKind_41 : decode cX6_whatKind 41 = .ok (.iconst 0, 1) := by decide +kernel
theorem dX6_whatKind_42 : decode cX6_whatKind 42 = .ok (.istore 5, 2) := by decide +kernel
theorem dX6_whatKind_44 : decode cX6_whatKind 44 = .ok (.iload 5, 2) := by decide +kernel
theorem dX6_whatKind_46 : decode cX6_whatKind 46 = .ok (.iload_n 2, 1) := by decide +kernel
theorem dX6_whatKind_47 : decode cX6_whatKind 47 = .ok (.ifCond .ne 8, 3) := by decide +kernel
theorem dX6_whatKind_50 : decode cX6_whatKind 50 = .ok (.bipush 8, 2) := by decide +kernel
theorem dX6_whatKind_52 : decode cX6_whatKind 52 = .ok (.goto 5, 3) := by decide +kernel
theorem dX6_whatKind_55 : decode cX6_whatKind 55 = .ok (.bipush 10, 2) := by decide +kernel
theorem dX6_whatKind_57 : decode cX6_whatKind 57 = .ok (.if_icmp .ge 61, 3) := by decide +kernel
theorem dX6_whatKind_60 : decode cX6_whatKind 60 = .ok (.aload_n 0, 1) := by decide +kernel
theorem dX6_whatKind_61 : decode cX6_whatKind 61 = .ok (.invokevirtual 280, 3) := by decide +kernel
theorem dX6_whatKind_64 : decode cX6_whatKind 64 = .ok (.iload_n 2, 1) := by decide +kernel
theorem dX6_whatKind_65 : decode cX6_whatKind 65 = .ok (.ifCond .ne 14, 3) := by decide +kernel
theorem dX6_whatKind_68 : decode cX6_whatKind 68 = .ok (.aload_n 0, 1) := by decide +kernel
theorem dX6_whatKind_69 : decode cX6_whatKind 69 = .ok (.getfield 31, 3) := by decide +kernel
theorem dX6_whatKind_72 : decode cX6_whatKind 72 = .ok (.iload_n 1, 1) := by decide +kernel
theorem dX6_whatKind_73 : decode cX6_whatKind 73 = .ok (.iload 5, 2) := by decide +kernel
theorem dX6_whatKind_75 : decode cX6_whatKind 75 = .ok (.iastore, 1) := by decide +kernel
theorem dX6_whatKind_76 : decode cX6_whatKind 76 = .ok (.goto 11, 3) := by decide +kernel
theorem dX6_whatKind_79 : decode cX6_whatKind 79 = .ok (.aload_n 0, 1) := by decide +kernel
theorem dX6_whatKind_80 : decode cX6_whatKind 80 = .ok (.getfield 34, 3) := by decide +kernel
theorem dX6_whatKind_83 : decode cX6_whatKind 83 = .ok (.iload_n 1, 1) := by decide +kernel
theorem dX6_whatKind_84 : decode cX6_whatKind 84 = .ok (.iload 5, 2) := by decide +kernel
theorem dX6_whatKind_86 : decode cX6_whatKind 86 = .ok (.iastore, 1) := by decide +kernel
theorem dX6_whatKind_87 : decode cX6_whatKind 87 = .ok (.iload 4, 2) := by decide +kernel
theorem dX6_whatKind_89 : decode cX6_whatKind 89 = .ok (.aload_n 0, 1) := by decide +kernel
theorem dX6_whatKind_90 : decode cX6_whatKind 90 = .ok (.iload_n 1, 1) := by decide +kernel
theorem dX6_whatKind_91 : decode cX6_whatKind 91 = .ok (.invokevirtual 308, 3) := by decide +kernel
theorem dX6_whatKind_94 : decode cX6_whatKind 94 = .ok (.ifCond .eq 10, 3) := by decide +kernel
theorem dX6_whatKind_97 : decode cX6_whatKind 97 = .ok (.iconst 1, 1) := by decide +kernel
theorem dX6_whatKind_98 : decode cX6_whatKind 98 = .ok (.iload 5, 2) := by decide +kernel
theorem dX6_whatKind_100 : decode cX6_whatKind 100 = .ok (.ishl, 1) := by decide +kernel
theorem dX6_whatKind_101 : decode cX6_whatKind 101 = .ok (.goto 4, 3) := by decide +kernel
theorem dX6_whatKind_104 : decode cX6_whatKind 104 = .ok (.iconst 0, 1) := by decide +kernel
theorem dX6_whatKind_105 : decode cX6_whatKind 105 = .ok (.ior, 1) := by decide +kernel
theorem dX6_whatKind_106 : decode cX6_whatKind 106 = .ok (.istore 4, 2) := by decide +kernel
theorem dX6_whatKind_108 : decode cX6_whatKind 108 = .ok (.aload_n 0, 1) := by decide +kernel
theorem dX6_whatKind_109 : decode cX6_whatKind 109 = .ok (.invokevirtual 283, 3) := by decide +kernel
theorem dX6_whatKind_112 : decode cX6_whatKind 112 = .ok (.iinc 5 1, 3) := by decide +kernel
theorem dX6_whatKind_115 : decode cX6_whatKind 115 = .ok (.goto (-71), 3) := by decide +kernel
theorem dX6_whatKind_118 : decode cX6_whatKind 118 = .ok (.iload 4, 2) := by decide +kernel
theorem dX6_whatKind_120 : decode cX6_whatKind 120 = .ok (.ireturn, 1) := by decide +kernel
theorem dX6_blewSo_0 : decode cX6_blewSo 0 = .ok (.iconst 0, 1) := by decide +kernel
theorem dX6_blewSo_1 : decode cX6_blewSo 1 = .ok (.istore_n 2, 1) := by decide +kernel
theorem dX6_blewSo_2 : decode cX6_blewSo 2 = .ok (.iload_n 2, 1) := by decide +kernel
theorem dX6_blewSo_3 : decode cX6_blewSo 3 = .ok (.aload_n 0, 1) := by decide +kernel
theorem dX6_blewSo_4 : decode cX6_blewSo 4 = .ok (.getfield 305, 3) := by decide +kernel
theorem dX6_blewSo_7 : decode cX6_blewSo 7 = .ok (.if_icmp .ge 31, 3) := by decide +kernel
theorem dX6_blewSo_10 : decode cX6_blewSo 10 = .ok (.aload_n 0, 1) := by decide +kernel
theorem dX6_blewSo_11 : decode cX6_blewSo 11 = .ok (.iload_n 1, 1) := by decide +kernel
theorem dX6_blewSo_12 : decode cX6_blewSo 12 = .ok (.aload_n 0, 1) := by decide +kernel
theorem dX6_blewSo_13 : decode cX6_blewSo 13 = .ok (.getfield 114, 3) := by decide +kernel
theorem dX6_blewSo_16 : decode cX6_blewSo 16 = .ok (.iload_n 2, 1) := by decide +kernel
theorem dX6_blewSo_17 : decode cX6_blewSo 17 = .ok (.iadd, 1) := by decide +kernel
theorem dX6_blewSo_18 : decode cX6_blewSo 18 = .ok (.invokevirtual 117, 3) := by decide +kernel
theorem dX6_blewSo_21 : decode cX6_blewSo 21 = .ok (.aload_n 0, 1) := by decide +kernel
theorem dX6_blewSo_22 : decode cX6_blewSo 22 = .ok (.getfield 68, 3) := by decide +kernel
theorem dX6_blewSo_25 : decode cX6_blewSo 25 = .ok (.iload_n 2, 1) := by decide +kernel
theorem dX6_blewSo_26 : decode cX6_blewSo 26 = .ok (.iaload, 1) := by decide +kernel
theorem dX6_blewSo_27 : decode cX6_blewSo 27 = .ok (.if_icmp .eq 5, 3) := by decide +kernel
theorem dX6_blewSo_30 : decode cX6_blewSo 30 = .ok (.iconst 0, 1) := by decide +kernel
theorem dX6_blewSo_31 : decode cX6_blewSo 31 = .ok (.ireturn, 1) := by decide +kernel
theorem dX6_blewSo_32 : decode cX6_blewSo 32 = .ok (.iinc 2 1, 3) := by decide +kernel
theorem dX6_blewSo_35 : decode cX6_blewSo 35 = .ok (.goto (-33), 3) := by decide +kernel
theorem dX6_blewSo_38 : decode cX6_blewSo 38 = .ok (.iconst 1, 1) := by decide +kernel
theorem dX6_blewSo_39 : decode cX6_blewSo 39 = .ok (.ireturn, 1) := by decide +kernel
theorem dX6_whichFront_0 : decode cX6_whichFront 0 = .ok (.aload_n 0, 1) := by decide +kernel
theorem dX6_whichFront_1 : decode cX6_whichFront 1 = .ok (.iload_n 1, 1) := by decide +kernel
theorem dX6_whichFront_2 : decode cX6_whichFront 2 = .ok (.invokevirtual 267, 3) := by decide +kernel
theorem dX6_whichFront_5 : decode cX6_whichFront 5 = .ok (.ifCond .eq 10, 3) := by decide +kernel
theorem dX6_whichFront_8 : decode cX6_whichFront 8 = .ok (.iload_n 2, 1) := by decide +kernel
theorem dX6_whichFront_9 : decode cX6_whichFront 9 = .ok (.invokestatic 198, 3) := by decide +kernel
theorem dX6_whichFront_12 : decode cX6_whichFront 12 = .ok (.ifCond .ne 9, 3) := by decide +kernel
theorem dX6_whichFront_15 : decode cX6_whichFront 15 = .ok (.aload_n 0, 1) := by decide +kernel
theorem dX6_whichFront_16 : decode cX6_whichFront 16 = .ok (.iconst (-1), 1) := by decide +kernel
theorem dX6_whichFront_17 : decode cX6_whichFront 17 = .ok (.invokevirtual 172, 3) := by decide +kernel
theorem dX6_whichFront_20 : decode cX6_whichFront 20 = .ok (.ireturn, 1) := by decide +kernel
theorem dX6_whichFront_21 : decode cX6_whichFront 21 = .ok (.iconst 0, 1) := by decide +kernel
theorem dX6_whichFront_22 : decode cX6_whichFront 22 = .ok (.istore_n 3, 1) := by decide +kernel
theorem dX6_whichFront_23 : decode cX6_whichFront 23 = .ok (.aload_n 0, 1) := by decide +kernel
theorem dX6_whichFront_24 : decode cX6_whichFront 24 = .ok (.getfield 13, 3) := by decide +kernel
theorem dX6_whichFront_27 : decode cX6_whichFront 27 = .ok (.iload_n 1, 1) := by decide +kernel
theorem dX6_whichFront_28 : decode cX6_whichFront 28 = .ok (.iaload, 1) := by decide +kernel
theorem dX6_whichFront_29 : decode cX6_whichFront 29 = .ok (.istore 4, 2) := by decide +kernel
theorem dX6_whichFront_31 : decode cX6_whichFront 31 = .ok (.iconst 0, 1) := by decide +kernel
theorem dX6_whichFront_32 : decode cX6_whichFront 32 = .ok (.istore 5, 2) := by decide +kernel
theorem dX6_whichFront_34 : decode cX6_whichFront 34 = .ok (.iload 5, 2) := by decide +kernel
theorem dX6_whichFront_36 : decode cX6_whichFront 36 = .ok (.bipush 7, 2) := by decide +kernel
theorem dX6_whichFront_38 : decode cX6_whichFront 38 = .ok (.if_icmp .ge 36, 3) := by decide +kernel
theorem dX6_whichFront_41 : decode cX6_whichFront 41 = .ok (.aload_n 0, 1) := by decide +kernel
theorem dX6_whichFront_42 : decode cX6_whichFront 42 = .ok (.getfield 13, 3) := by decide +kernel
theorem dX6_whichFront_45 : decode cX6_whichFront 45 = .ok (.iload_n 1, 1) := by decide +kernel
theorem dX6_whichFront_46 : decode cX6_whichFront 46 = .ok (.iload 5, 2) := by decide +kernel
theorem dX6_whichFront_48 : decode cX6_whichFront 48 = .ok (.iastore, 1) := by decide +kernel
theorem dX6_whichFront_49 : decode cX6_whichFront 49 = .ok (.iload_n 3, 1) := by decide +kernel
theorem dX6_whichFront_50 : decode cX6_whichFront 50 = .ok (.aload_n 0, 1) := by decide +kernel
theorem dX6_whichFront_51 : decode cX6_whichFront 51 = .ok (.iload_n 2, 1) := by decide +kernel
theorem dX6_whichFront_52 : decode cX6_whichFront 52 = .ok (.invokevirtual 311, 3) := by decide +kernel
theorem dX6_whichFront_55 : decode cX6_whichFront 55 = .ok (.ifCond .eq 10, 3) := by decide +kernel
theorem dX6_whichFront_58 : decode cX6_whichFront 58 = .ok (.iconst 1, 1) := by decide +kernel
theorem dX6_whichFront_59 : decode cX6_whichFront 59 = .ok (.iload 5, 2) := by decide +kernel
theorem dX6_whichFront_61 : decode cX6_whichFront 61 = .ok (.ishl, 1) := by decide +kernel
theorem dX6_whichFront_62 : decode cX6_whichFront 62 = .ok (.goto 4, 3) := by decide +kernel
theorem dX6_whichFront_65 : decode cX6_whichFront 65 = .ok (.iconst 0, 1) := by decide +kernel
theorem dX6_whichFront_66 : decode cX6_whichFront 66 = .ok (.ior, 1) := by decide +kernel
theorem dX6_whichFront_67 : decode cX6_whichFront 67 = .ok (.istore_n 3, 1) := by decide +kernel
theorem dX6_whichFront_68 : decode cX6_whichFront 68 = .ok (.iinc 5 1, 3) := by decide +kernel
theorem dX6_whichFront_71 : decode cX6_whichFront 71 = .ok (.goto (-37), 3) := by decide +kernel
theorem dX6_whichFront_74 : decode cX6_whichFront 74 = .ok (.aload_n 0, 1) := by decide +kernel
theorem dX6_whichFront_75 : decode cX6_whichFront 75 = .ok (.getfield 13, 3) := by decide +kernel
theorem dX6_whichFront_78 : decode cX6_whichFront 78 = .ok (.iload_n 1, 1) := by decide +kernel
theorem dX6_whichFront_79 : decode cX6_whichFront 79 = .ok (.iload 4, 2) := by decide +kernel
theorem dX6_whichFront_81 : decode cX6_whichFront 81 = .ok (.iastore, 1) := by decide +kernel
theorem dX6_whichFront_82 : decode cX6_whichFront 82 = .ok (.iload_n 3, 1) := by decide +kernel
theorem dX6_whichFront_83 : decode cX6_whichFront 83 = .ok (.ireturn, 1) := by decide +kernel
theorem dX6_findEnds_0 : decode cX6_findEnds 0 = .ok (.iconst 0, 1) := by decide +kernel
theorem dX6_findEnds_1 : decode cX6_findEnds 1 = .ok (.istore 4, 2) := by decide +kernel
theorem dX6_findEnds_3 : decode cX6_findEnds 3 = .ok (.iload 4, 2) := by decide +kernel
theorem dX6_findEnds_5 : decode cX6_findEnds 5 = .ok (.iconst 4, 1) := by decide +kernel
theorem dX6_findEnds_6 : decode cX6_findEnds 6 = .ok (.if_icmp .ge 108, 3) := by decide +kernel
theorem dX6_findEnds_9 : decode cX6_findEnds 9 = .ok (.aload_n 0, 1) := by decide +kernel
theorem dX6_findEnds_10 : decode cX6_findEnds 10 = .ok (.invokevirtual 280, 3) := by decide +kernel
theorem dX6_findEnds_13 : decode cX6_findEnds 13 = .ok (.iload 4, 2) := by decide +kernel
theorem dX6_findEnds_15 : decode cX6_findEnds 15 = .ok (.iconst 2, 1) := by decide +kernel
theorem dX6_findEnds_16 : decode cX6_findEnds 16 = .ok (.idiv, 1) := by decide +kernel
theorem dX6_findEnds_17 : decode cX6_findEnds 17 = .ok (.iconst 1, 1) := by decide +kernel
theorem dX6_findEnds_18 : decode cX6_findEnds 18 = .ok (.if_icmp .ne 15, 3) := by decide +kernel
theorem dX6_findEnds_21 : decode cX6_findEnds 21 = .ok (.aload_n 0, 1) := by decide +kernel
theorem dX6_findEnds_22 : decode cX6_findEnds 22 = .ok (.getfield 40, 3) := by decide +kernel
theorem dX6_findEnds_25 : decode cX6_findEnds 25 = .ok (.iload_n 1, 1) := by decide +kernel
theorem dX6_findEnds_26 : decode cX6_findEnds 26 = .ok (.aload_n 0, 1) := by decide +kernel
theorem dX6_findEnds_27 : decode cX6_findEnds 27 = .ok (.getfield 37, 3) := by decide +kernel
theorem dX6_findEnds_30 : decode cX6_findEnds 30 = .ok (.iload_n 1, 1) := by decide +kernel
theorem dX6_findEnds_31 : decode cX6_findEnds 31 = .ok (.iaload, 1) := by decide +kernel
theorem dX6_findEnds_32 : decode cX6_findEnds 32 = .ok (.iastore, 1) := by decide +kernel
theorem dX6_findEnds_33 : decode cX6_findEnds 33 = .ok (.iload 4, 2) := by decide +kernel
theorem dX6_findEnds_35 : decode cX6_findEnds 35 = .ok (.iconst 2, 1) := by decide +kernel
theorem dX6_findEnds_36 : decode cX6_findEnds 36 = .ok (.irem, 1) := by decide +kernel
theorem dX6_findEnds_37 : decode cX6_findEnds 37 = .ok (.iconst 1, 1) := by decide +kernel
theorem dX6_findEnds_38 : decode cX6_findEnds 38 = .ok (.if_icmp .ne 15, 3) := by decide +kernel
theorem dX6_findEnds_41 : decode cX6_findEnds 41 = .ok (.aload_n 0, 1) := by decide +kernel
theorem dX6_findEnds_42 : decode cX6_findEnds 42 = .ok (.getfield 40, 3) := by decide +kernel
theorem dX6_findEnds_45 : decode cX6_findEnds 45 = .ok (.iload_n 2, 1) := by decide +kernel
theorem dX6_findEnds_46 : decode cX6_findEnds 46 = .ok (.aload_n 0, 1) := by decide +kernel
theorem dX6_findEnds_47 : decode cX6_findEnds 47 = .ok (.getfield 37, 3) := by decide +kernel
theorem dX6_findEnds_50 : decode cX6_findEnds 50 = .ok (.iload_n 2, 1) := by decide +kernel
theorem dX6_findEnds_51 : decode cX6_findEnds 51 = .ok (.iaload, 1) := by decide +kernel
theorem dX6_findEnds_52 : decode cX6_findEnds 52 = .ok (.iastore, 1) := by decide +kernel
theorem dX6_findEnds_53 : decode cX6_findEnds 53 = .ok (.aload_n 0, 1) := by decide +kernel
theorem dX6_findEnds_54 : decode cX6_findEnds 54 = .ok (.iload_n 3, 1) := by decide +kernel
theorem dX6_findEnds_55 : decode cX6_findEnds 55 = .ok (.invokevirtual 210, 3) := by decide +kernel
theorem dX6_findEnds_58 : decode cX6_findEnds 58 = .ok (.aload_n 0, 1) := by decide +kernel
theorem dX6_findEnds_59 : decode cX6_findEnds 59 = .ok (.getfield 71, 3) := by decide +kernel
theorem dX6_findEnds_62 : decode cX6_findEnds 62 = .ok (.iconst 2, 1) := by decide +kernel
theorem dX6_findEnds_63 : decode cX6_findEnds 63 = .ok (.iload 4, 2) := by decide +kernel
theorem dX6_findEnds_65 : decode cX6_findEnds 65 = .ok (.imul, 1) := by decide +kernel
theorem dX6_findEnds_66 : decode cX6_findEnds 66 = .ok (.aload_n 0, 1) := by decide +kernel
theorem dX6_findEnds_67 : decode cX6_findEnds 67 = .ok (.iload_n 1, 1) := by decide +kernel
theorem dX6_findEnds_68 : decode cX6_findEnds 68 = .ok (.invokevirtual 264, 3) := by decide +kernel
theorem dX6_findEnds_71 : decode cX6_findEnds 71 = .ok (.aload_n 0, 1) := by decide +kernel
theorem dX6_findEnds_72 : decode cX6_findEnds 72 = .ok (.iload_n 2, 1) := by decide +kernel
theorem dX6_findEnds_73 : decode cX6_findEnds 73 = .ok (.invokevirtual 264, 3) := by decide +kernel
theorem dX6_findEnds_76 : decode cX6_findEnds 76 = .ok (.iconst 2, 1) := by decide +kernel
theorem dX6_findEnds_77 : decode cX6_findEnds 77 = .ok (.idiv, 1) := by decide +kernel
theorem dX6_findEnds_78 : decode cX6_findEnds 78 = .ok (.isub, 1) := by decide +kernel
theorem dX6_findEnds_79 : decode cX6_findEnds 79 = .ok (.iastore, 1) := by decide +kernel
theorem dX6_findEnds_80 : decode cX6_findEnds 80 = .ok (.aload_n 0, 1) := by decide +kernel
theorem dX6_findEnds_81 : decode cX6_findEnds 81 = .ok (.getfield 71, 3) := by decide +kernel
theorem dX6_findEnds_84 : decode cX6_findEnds 84 = .ok (.iconst 2, 1) := by decide +kernel
theorem dX6_findEnds_85 : decode cX6_findEnds 85 = .ok (.iload 4, 2) := by decide +kernel
theorem dX6_findEnds_87 : decode cX6_findEnds 87 = .ok (.imul, 1) := by decide +kernel
theorem dX6_findEnds_88 : decode cX6_findEnds 88 = .ok (.iconst 1, 1) := by decide +kernel
theorem dX6_findEnds_89 : decode cX6_findEnds 89 = .ok (.iadd, 1) := by decide +kernel
theorem dX6_findEnds_90 : decode cX6_findEnds 90 = .ok (.aload_n 0, 1) := by decide +kernel
theorem dX6_findEnds_91 : decode cX6_findEnds 91 = .ok (.iload_n 2, 1) := by decide +kernel
theorem dX6_findEnds_92 : decode cX6_findEnds 92 = .ok (.invokevirtual 264, 3) := by decide +kernel
theorem dX6_findEnds_95 : decode cX6_findEnds 95 = .ok (.aload_n 0, 1) := by decide +kernel
theorem dX6_findEnds_96 : decode cX6_findEnds 96 = .ok (.iload_n 1, 1) := by decide +kernel
theorem dX6_findEnds_97 : decode cX6_findEnds 97 = .ok (.invokevirtual 264, 3) := by decide +kernel
theorem dX6_findEnds_100 : decode cX6_findEnds 100 = .ok (.iconst 2, 1) := by decide +kernel
theorem dX6_findEnds_101 : decode cX6_findEnds 101 = .ok (.idiv, 1) := by decide +kernel
theorem dX6_findEnds_102 : decode cX6_findEnds 102 = .ok (.isub, 1) := by decide +kernel
theorem dX6_findEnds_103 : decode cX6_findEnds 103 = .ok (.iastore, 1) := by decide +kernel
theorem dX6_findEnds_104 : decode cX6_findEnds 104 = .ok (.aload_n 0, 1) := by decide +kernel
theorem dX6_findEnds_105 : decode cX6_findEnds 105 = .ok (.invokevirtual 283, 3) := by decide +kernel
theorem dX6_findEnds_108 : decode cX6_findEnds 108 = .ok (.iinc 4 1, 3) := by decide +kernel
theorem dX6_findEnds_111 : decode cX6_findEnds 111 = .ok (.goto (-108), 3) := by decide +kernel
theorem dX6_findEnds_114 : decode cX6_findEnds 114 = .ok (.return_, 1) := by decide +kernel
theorem dX6_two_0 : decode cX6_two 0 = .ok (.aload_n 0, 1) := by decide +kernel
theorem dX6_two_1 : decode cX6_two 1 = .ok (.iload_n 1, 1) := by decide +kernel
theorem dX6_two_2 : decode cX6_two 2 = .ok (.iload_n 2, 1) := by decide +kernel
theorem dX6_two_3 : decode cX6_two 3 = .ok (.invokevirtual 314, 3) := by decide +kernel
theorem dX6_two_6 : decode cX6_two 6 = .ok (.ifCond .ne 7, 3) := by decide +kernel
theorem dX6_two_9 : decode cX6_two 9 = .ok (.iconst (-1), 1) := by decide +kernel
theorem dX6_two_10 : decode cX6_two 10 = .ok (.goto 10, 3) := by decide +kernel
theorem dX6_two_13 : decode cX6_two 13 = .ok (.iload_n 3, 1) := by decide +kernel
theorem dX6_two_14 : decode cX6_two 14 = .ok (.iconst 1, 1) := by decide +kernel
theorem dX6_two_15 : decode cX6_two 15 = .ok (.bipush 30, 2) := by decide +kernel
theorem dX6_two_17 : decode cX6_two 17 = .ok (.invokestatic 165, 3) := by decide +kernel
theorem dX6_two_20 : decode cX6_two 20 = .ok (.istore 4, 2) := by decide +kernel
theorem dX6_two_22 : decode cX6_two 22 = .ok (.iload 4, 2) := by decide +kernel
theorem dX6_two_24 : decode cX6_two 24 = .ok (.ifCond .eq 10, 3) := by decide +kernel
theorem dX6_two_27 : decode cX6_two 27 = .ok (.aload_n 0, 1) := by decide +kernel
theorem dX6_two_28 : decode cX6_two 28 = .ok (.iload 4, 2) := by decide +kernel
theorem dX6_two_30 : decode cX6_two 30 = .ok (.invokevirtual 172, 3) := by decide +kernel
theorem dX6_two_33 : decode cX6_two 33 = .ok (.ireturn, 1) := by decide +kernel
theorem dX6_two_34 : decode cX6_two 34 = .ok (.aload_n 0, 1) := by decide +kernel
theorem dX6_two_35 : decode cX6_two 35 = .ok (.iload_n 1, 1) := by decide +kernel
theorem dX6_two_36 : decode cX6_two 36 = .ok (.iload_n 2, 1) := by decide +kernel
theorem dX6_two_37 : decode cX6_two 37 = .ok (.iload_n 3, 1) := by decide +kernel
theorem dX6_two_38 : decode cX6_two 38 = .ok (.invokevirtual 317, 3) := by decide +kernel
theorem dX6_two_41 : decode cX6_two 41 = .ok (.iconst 0, 1) := by decide +kernel
theorem dX6_two_42 : decode cX6_two 42 = .ok (.istore 5, 2) := by decide +kernel
theorem dX6_two_44 : decode cX6_two 44 = .ok (.iload 5, 2) := by decide +kernel
theorem dX6_two_46 : decode cX6_two 46 = .ok (.iconst 4, 1) := by decide +kernel
theorem dX6_two_47 : decode cX6_two 47 = .ok (.if_icmp .ge 72, 3) := by decide +kernel
theorem dX6_two_50 : decode cX6_two 50 = .ok (.aload_n 0, 1) := by decide +kernel
theorem dX6_two_51 : decode cX6_two 51 = .ok (.getfield 71, 3) := by decide +kernel
theorem dX6_two_54 : decode cX6_two 54 = .ok (.iconst 2, 1) := by decide +kernel
theorem dX6_two_55 : decode cX6_two 55 = .ok (.iload 5, 2) := by decide +kernel
theorem dX6_two_57 : decode cX6_two 57 = .ok (.iconst 2, 1) := by decide +kernel
theorem dX6_two_58 : decode cX6_two 58 = .ok (.ixor, 1) := by decide +kernel
theorem dX6_two_59 : decode cX6_two 59 = .ok (.imul, 1) := by decide +kernel
theorem dX6_two_60 : decode cX6_two 60 = .ok (.iaload, 1) := by decide +kernel
theorem dX6_two_61 : decode cX6_two 61 = .ok (.aload_n 0, 1) := by decide +kernel
theorem dX6_two_62 : decode cX6_two 62 = .ok (.getfield 71, 3) := by decide +kernel
theorem dX6_two_65 : decode cX6_two 65 = .ok (.iconst 2, 1) := by decide +kernel
theorem dX6_two_66 : decode cX6_two 66 = .ok (.iload 5, 2) := by decide +kernel
theorem dX6_two_68 : decode cX6_two 68 = .ok (.imul, 1) := by decide +kernel
theorem dX6_two_69 : decode cX6_two 69 = .ok (.iaload, 1) := by decide +kernel
theorem dX6_two_70 : decode cX6_two 70 = .ok (.if_icmp .gt 43, 3) := by decide +kernel
theorem dX6_two_73 : decode cX6_two 73 = .ok (.aload_n 0, 1) := by decide +kernel
theorem dX6_two_74 : decode cX6_two 74 = .ok (.getfield 71, 3) := by decide +kernel
theorem dX6_two_77 : decode cX6_two 77 = .ok (.iconst 2, 1) := by decide +kernel
theorem dX6_two_78 : decode cX6_two 78 = .ok (.iload 5, 2) := by decide +kernel
theorem dX6_two_80 : decode cX6_two 80 = .ok (.iconst 1, 1) := by decide +kernel
theorem dX6_two_81 : decode cX6_two 81 = .ok (.ixor, 1) := by decide +kernel
theorem dX6_two_82 : decode cX6_two 82 = .ok (.imul, 1) := by decide +kernel
theorem dX6_two_83 : decode cX6_two 83 = .ok (.iconst 1, 1) := by decide +kernel
theorem dX6_two_84 : decode cX6_two 84 = .ok (.iadd, 1) := by decide +kernel
theorem dX6_two_85 : decode cX6_two 85 = .ok (.iaload, 1) := by decide +kernel
theorem dX6_two_86 : decode cX6_two 86 = .ok (.aload_n 0, 1) := by decide +kernel
theorem dX6_two_87 : decode cX6_two 87 = .ok (.getfield 71, 3) := by decide +kernel
theorem dX6_two_90 : decode cX6_two 90 = .ok (.iconst 2, 1) := by decide +kernel
theorem dX6_two_91 : decode cX6_two 91 = .ok (.iload 5, 2) := by decide +kernel
theorem dX6_two_93 : decode cX6_two 93 = .ok (.imul, 1) := by decide +kernel
theorem dX6_two_94 : decode cX6_two 94 = .ok (.iconst 1, 1) := by decide +kernel
theorem dX6_two_95 : decode cX6_two 95 = .ok (.iadd, 1) := by decide +kernel
theorem dX6_two_96 : decode cX6_two 96 = .ok (.iaload, 1) := by decide +kernel
theorem dX6_two_97 : decode cX6_two 97 = .ok (.if_icmp .gt 16, 3) := by decide +kernel
theorem dX6_two_100 : decode cX6_two 100 = .ok (.bipush 10, 2) := by decide +kernel
theorem dX6_two_102 : decode cX6_two 102 = .ok (.iload 5, 2) := by decide +kernel
theorem dX6_two_104 : decode cX6_two 104 = .ok (.iconst 2, 1) := by decide +kernel
theorem dX6_two_105 : decode cX6_two 105 = .ok (.idiv, 1) := by decide +kernel
theorem dX6_two_106 : decode cX6_two 106 = .ok (.imul, 1) := by decide +kernel
theorem dX6_two_107 : decode cX6_two 107 = .ok (.iload 5, 2) := by decide +kernel
theorem dX6_two_109 : decode cX6_two 109 = .ok (.iconst 2, 1) := by decide +kernel
theorem dX6_two_110 : decode cX6_two 110 = .ok (.irem, 1) := by decide +kernel
theorem dX6_two_111 : decode cX6_two 111 = .ok (.iadd, 1) := by decide +kernel
theorem dX6_two_112 : decode cX6_two 112 = .ok (.ireturn, 1) := by decide +kernel
theorem dX6_two_113 : decode cX6_two 113 = .ok (.iinc 5 1, 3) := by decide +kernel
theorem dX6_two_116 : decode cX6_two 116 = .ok (.goto (-72), 3) := by decide +kernel
theorem dX6_two_119 : decode cX6_two 119 = .ok (.bipush (-9), 2) := by decide +kernel
theorem dX6_two_121 : decode cX6_two 121 = .ok (.ireturn, 1) := by decide +kernel
theorem dX6_divisor_0 : decode cX6_divisor 0 = .ok (.lload_n 0, 1) := by decide +kernel
theorem dX6_divisor_1 : decode cX6_divisor 1 = .ok (.lstore 4, 2) := by decide +kernel
theorem dX6_divisor_3 : decode cX6_divisor 3 = .ok (.lload_n 2, 1) := by decide +kernel
theorem dX6_divisor_4 : decode cX6_divisor 4 = .ok (.lstore 6, 2) := by decide +kernel
theorem dX6_divisor_6 : decode cX6_divisor 6 = .ok (.lload 6, 2) := by decide +kernel
theorem dX6_divisor_8 : decode cX6_divisor 8 = .ok (.lconst 0, 1) := by decide +kernel
theorem dX6_divisor_9 : decode cX6_divisor 9 = .ok (.lcmp, 1) := by decide +kernel
theorem dX6_divisor_10 : decode cX6_divisor 10 = .ok (.ifCond .eq 21, 3) := by decide +kernel
theorem dX6_divisor_13 : decode cX6_divisor 13 = .ok (.lload 4, 2) := by decide +kernel
theorem dX6_divisor_15 : decode cX6_divisor 15 = .ok (.lload 6, 2) := by decide +kernel
theorem dX6_divisor_17 : decode cX6_divisor 17 = .ok (.lrem, 1) := by decide +kernel
theorem dX6_divisor_18 : decode cX6_divisor 18 = .ok (.lstore 8, 2) := by decide +kernel
theorem dX6_divisor_20 : decode cX6_divisor 20 = .ok (.lload 6, 2) := by decide +kernel
theorem dX6_divisor_22 : decode cX6_divisor 22 = .ok (.lstore 4, 2) := by decide +kernel
theorem dX6_divisor_24 : decode cX6_divisor 24 = .ok (.lload 8, 2) := by decide +kernel
theorem dX6_divisor_26 : decode cX6_divisor 26 = .ok (.lstore 6, 2) := by decide +kernel
theorem dX6_divisor_28 : decode cX6_divisor 28 = .ok (.goto (-22), 3) := by decide +kernel
theorem dX6_divisor_31 : decode cX6_divisor 31 = .ok (.lload 4, 2) := by decide +kernel
theorem dX6_divisor_33 : decode cX6_divisor 33 = .ok (.lreturn, 1) := by decide +kernel
theorem dX6_partOf_0 : decode cX6_partOf 0 = .ok (.iload 4, 2) := by decide +kernel
theorem dX6_partOf_2 : decode cX6_partOf 2 = .ok (.ifCond .ne 7, 3) := by decide +kernel
theorem dX6_partOf_5 : decode cX6_partOf 5 = .ok (.lload_n 0, 1) := by decide +kernel
theorem dX6_partOf_6 : decode cX6_partOf 6 = .ok (.goto 4, 3) := by decide +kernel
theorem dX6_partOf_9 : decode cX6_partOf 9 = .ok (.lload_n 2, 1) := by decide +kernel
theorem dX6_partOf_10 : decode cX6_partOf 10 = .ok (.lload_n 0, 1) := by decide +kernel
theorem dX6_partOf_11 : decode cX6_partOf 11 = .ok (.lload_n 2, 1) := by decide +kernel
theorem dX6_partOf_12 : decode cX6_partOf 12 = .ok (.invokestatic 320, 3) := by decide +kernel
theorem dX6_partOf_15 : decode cX6_partOf 15 = .ok (.ldiv, 1) := by decide +kernel
theorem dX6_partOf_16 : decode cX6_partOf 16 = .ok (.lreturn, 1) := by decide +kernel
theorem dX6_sun_0 : decode cX6_sun 0 = .ok (.aload_n 0, 1) := by decide +kernel
theorem dX6_sun_1 : decode cX6_sun 1 = .ok (.iload_n 1, 1) := by decide +kernel
theorem dX6_sun_2 : decode cX6_sun 2 = .ok (.invokevirtual 92, 3) := by decide +kernel
theorem dX6_sun_5 : decode cX6_sun 5 = .ok (.ifCond .eq 11, 3) := by decide +kernel
theorem dX6_sun_8 : decode cX6_sun 8 = .ok (.aload_n 0, 1) := by decide +kernel
theorem dX6_sun_9 : decode cX6_sun 9 = .ok (.iload_n 2, 1) := by decide +kernel
theorem dX6_sun_10 : decode cX6_sun 10 = .ok (.invokevirtual 207, 3) := by decide +kernel
theorem dX6_sun_13 : decode cX6_sun 13 = .ok (.ifCond .ne 7, 3) := by decide +kernel
theorem dX6_sun_16 : decode cX6_sun 16 = .ok (.iconst (-1), 1) := by decide +kernel
theorem dX6_sun_17 : decode cX6_sun 17 = .ok (.goto 52, 3) := by decide +kernel
theorem dX6_sun_20 : decode cX6_sun 20 = .ok (.iload_n 3, 1) := by decide +kernel
theorem dX6_sun_21 : decode cX6_sun 21 = .ok (.ifCond .lt 9, 3) := by decide +kernel
theorem dX6_sun_24 : decode cX6_sun 24 = .ok (.iload 4, 2) := by decide +kernel
theorem dX6_sun_26 : decode cX6_sun 26 = .ok (.iconst 2, 1) := by decide +kernel
theorem dX6_sun_27 : decode cX6_sun 27 = .ok (.if_icmp .ge 8, 3) := by decide +kernel
theorem dX6_sun_30 : decode cX6_sun 30 = .ok (.bipush (-4), 2) := by decide +kernel
theorem dX6_sun_32 : decode cX6_sun 32 = .ok (.goto 37, 3) := by decide +kernel
theorem dX6_sun_35 : decode cX6_sun 35 = .ok (.iload_n 3, 1) := by decide +kernel
theorem dX6_sun_36 : decode cX6_sun 36 = .ok (.bipush 7, 2) := by decide +kernel
theorem dX6_sun_38 : decode cX6_sun 38 = .ok (.if_icmp .gt 10, 3) := by decide +kernel
theorem dX6_sun_41 : decode cX6_sun 41 = .ok (.iload 4, 2) := by decide +kernel
theorem dX6_sun_43 : decode cX6_sun 43 = .ok (.bipush 20, 2) := by decide +kernel
theorem dX6_sun_45 : decode cX6_sun 45 = .ok (.if_icmp .le 8, 3) := by decide +kernel
theorem dX6_sun_48 : decode cX6_sun 48 = .ok (.bipush (-6), 2) := by decide +kernel
theorem dX6_sun_50 : decode cX6_sun 50 = .ok (.goto 19, 3) := by decide +kernel
theorem dX6_sun_53 : decode cX6_sun 53 = .ok (.iload 5, 2) := by decide +kernel
theorem dX6_sun_55 : decode cX6_sun 55 = .ok (.iconst 0, 1) := by decide +kernel
theorem dX6_sun_56 : decode cX6_sun 56 = .ok (.iconst 1, 1) := by decide +kernel
theorem dX6_sun_57 : decode cX6_sun 57 = .ok (.invokestatic 82, 3) := by decide +kernel
theorem dX6_sun_60 : decode cX6_sun 60 = .ok (.ifCond .ne 8, 3) := by decide +kernel
theorem dX6_sun_63 : decode cX6_sun 63 = .ok (.bipush (-2), 2) := by decide +kernel
theorem dX6_sun_65 : decode cX6_sun 65 = .ok (.goto 4, 3) := by decide +kernel
theorem dX6_sun_68 : decode cX6_sun 68 = .ok (.iconst 0, 1) := by decide +kernel
theorem dX6_sun_69 : decode cX6_sun 69 = .ok (.istore 6, 2) := by decide +kernel
theorem dX6_sun_71 : decode cX6_sun 71 = .ok (.iload 6, 2) := by decide +kernel
theorem dX6_sun_73 : decode cX6_sun 73 = .ok (.ifCond .eq 10, 3) := by decide +kernel
theorem dX6_sun_76 : decode cX6_sun 76 = .ok (.aload_n 0, 1) := by decide +kernel
theorem dX6_sun_77 : decode cX6_sun 77 = .ok (.iload 6, 2) := by decide +kernel
theorem dX6_sun_79 : decode cX6_sun 79 = .ok (.invokevirtual 324, 3) := by decide +kernel
theorem dX6_sun_82 : decode cX6_sun 82 = .ok (.lreturn, 1) := by decide +kernel
theorem dX6_sun_83 : decode cX6_sun 83 = .ok (.lconst 0, 1) := by decide +kernel
theorem dX6_sun_84 : decode cX6_sun 84 = .ok (.lstore 7, 2) := by decide +kernel
theorem dX6_sun_86 : decode cX6_sun 86 = .ok (.lconst 1, 1) := by decide +kernel
theorem dX6_sun_87 : decode cX6_sun 87 = .ok (.lstore 9, 2) := by decide +kernel
theorem dX6_sun_89 : decode cX6_sun 89 = .ok (.iconst 0, 1) := by decide +kernel
theorem dX6_sun_90 : decode cX6_sun 90 = .ok (.istore 11, 2) := by decide +kernel
theorem dX6_sun_92 : decode cX6_sun 92 = .ok (.iload 11, 2) := by decide +kernel
theorem dX6_sun_94 : decode cX6_sun 94 = .ok (.iload_n 3, 1) := by decide +kernel
theorem dX6_sun_95 : decode cX6_sun 95 = .ok (.if_icmp .ge 17, 3) := by decide +kernel
theorem dX6_sun_98 : decode cX6_sun 98 = .ok (.lload 9, 2) := by decide +kernel
theorem dX6_sun_100 : decode cX6_sun 100 = .ok (.iload 4, 2) := by decide +kernel
theorem dX6_sun_102 : decode cX6_sun 102 = .ok (.i2l, 1) := by decide +kernel
theorem dX6_sun_103 : decode cX6_sun 103 = .ok (.lmul, 1) := by decide +kernel
theorem dX6_sun_104 : decode cX6_sun 104 = .ok (.lstore 9, 2) := by decide +kernel
theorem dX6_sun_106 : decode cX6_sun 106 = .ok (.iinc 11 1, 3) := by decide +kernel
theorem dX6_sun_109 : decode cX6_sun 109 = .ok (.goto (-17), 3) := by decide +kernel
theorem dX6_sun_112 : decode cX6_sun 112 = .ok (.iconst 0, 1) := by decide +kernel
theorem dX6_sun_113 : decode cX6_sun 113 = .ok (.istore 11, 2) := by decide +kernel
theorem dX6_sun_115 : decode cX6_sun 115 = .ok (.iload 11, 2) := by decide +kernel
theorem dX6_sun_117 : decode cX6_sun 117 = .ok (.iconst 1, 1) := by decide +kernel
theorem dX6_sun_118 : decode cX6_sun 118 = .ok (.iload_n 3, 1) := by decide +kernel
theorem dX6_sun_119 : decode cX6_sun 119 = .ok (.ishl, 1) := by decide +kernel
theorem dX6_sun_120 : decode cX6_sun 120 = .ok (.if_icmp .ge 92, 3) := by decide +kernel
theorem dX6_sun_123 : decode cX6_sun 123 = .ok (.aload_n 0, 1) := by decide +kernel
theorem dX6_sun_124 : decode cX6_sun 124 = .ok (.invokevirtual 280, 3) := by decide +kernel
theorem dX6_sun_127 : decode cX6_sun 127 = .ok (.lconst 1, 1) := by decide +kernel
theorem dX6_sun_128 : decode cX6_sun 128 = .ok (.lstore 12, 2) := by decide +kernel
theorem dX6_sun_130 : decode cX6_sun 130 = .ok (.iconst 0, 1) := by decide +kernel
theorem dX6_sun_131 : decode cX6_sun 131 = .ok (.istore 14, 2) := by decide +kernel
theorem dX6_sun_133 : decode cX6_sun 133 = .ok (.iload 14, 2) := by decide +kernel
theorem dX6_sun_135 : decode cX6_sun 135 = .ok (.iload_n 3, 1) := by decide +kernel
theorem dX6_sun_136 : decode cX6_sun 136 = .ok (.if_icmp .ge 45, 3) := by decide +kernel
theorem dX6_sun_139 : decode cX6_sun 139 = .ok (.aload_n 0, 1) := by decide +kernel
theorem dX6_sun_140 : decode cX6_sun 140 = .ok (.iload 11, 2) := by decide +kernel
theorem dX6_sun_142 : decode cX6_sun 142 = .ok (.iload 14, 2) := by decide +kernel
theorem dX6_sun_144 : decode cX6_sun 144 = .ok (.invokestatic 292, 3) := by decide +kernel
theorem dX6_sun_147 : decode cX6_sun 147 = .ok (.putfield 103, 3) := by decide +kernel
theorem dX6_sun_150 : decode cX6_sun 150 = .ok (.lload 12, 2) := by decide +kernel
theorem dX6_sun_152 : decode cX6_sun 152 = .ok (.aload_n 0, 1) := by decide +kernel
theorem dX6_sun_153 : decode cX6_sun 153 = .ok (.getfield 103, 3) := by decide +kernel
theorem dX6_sun_156 : decode cX6_sun 156 = .ok (.ifCond .eq 7, 3) := by decide +kernel
theorem dX6_sun_159 : decode cX6_sun 159 = .ok (.lconst 1, 1) := by decide +kernel
theorem dX6_sun_160 : decode cX6_sun 160 = .ok (.goto 8, 3) := by decide +kernel
theorem dX6_sun_163 : decode cX6_sun 163 = .ok (.iload 4, 2) := by decide +kernel
theorem dX6_sun_165 : decode cX6_sun 165 = .ok (.iconst 1, 1) := by decide +kernel
theorem dX6_sun_166 : decode cX6_sun 166 = .ok (.isub, 1) := by decide +kernel
theorem dX6_sun_167 : decode cX6_sun 167 = .ok (.i2l, 1) := by decide +kernel
theorem dX6_sun_168 : decode cX6_sun 168 = .ok (.lmul, 1) := by decide +kernel
theorem dX6_sun_169 : decode cX6_sun 169 = .ok (.lstore 12, 2) := by decide +kernel
theorem dX6_sun_171 : decode cX6_sun 171 = .ok (.aload_n 0, 1) := by decide +kernel
theorem dX6_sun_172 : decode cX6_sun 172 = .ok (.invokevirtual 162, 3) := by decide +kernel
theorem dX6_sun_175 : decode cX6_sun 175 = .ok (.iinc 14 1, 3) := by decide +kernel
theorem dX6_sun_178 : decode cX6_sun 178 = .ok (.goto (-45), 3) := by decide +kernel
theorem dX6_sun_181 : decode cX6_sun 181 = .ok (.lload 7, 2) := by decide +kernel
theorem dX6_sun_183 : decode cX6_sun 183 = .ok (.aload_n 0, 1) := by decide +kernel
theorem dX6_sun_184 : decode cX6_sun 184 = .ok (.getfield 28, 3) := by decide +kernel
theorem dX6_sun_187 : decode cX6_sun 187 = .ok (.iload_n 2, 1) := by decide +kernel
theorem dX6_sun_188 : decode cX6_sun 188 = .ok (.iaload, 1) := by decide +kernel
theorem dX6_sun_189 : decode cX6_sun 189 = .ok (.iload_n 1, 1) := by decide +kernel
theorem dX6_sun_190 : decode cX6_sun 190 = .ok (.if_icmp .ne 8, 3) := by decide +kernel
theorem dX6_sun_193 : decode cX6_sun 193 = .ok (.lload 12, 2) := by decide +kernel
theorem dX6_sun_195 : decode cX6_sun 195 = .ok (.goto 4, 3) := by decide +kernel
theorem dX6_sun_198 : decode cX6_sun 198 = .ok (.lconst 0, 1) := by decide +kernel
theorem dX6_sun_199 : decode cX6_sun 199 = .ok (.ladd, 1) := by decide +kernel
theorem dX6_sun_200 : decode cX6_sun 200 = .ok (.lstore 7, 2) := by decide +kernel
theorem dX6_sun_202 : decode cX6_sun 202 = .ok (.aload_n 0, 1) := by decide +kernel
theorem dX6_sun_203 : decode cX6_sun 203 = .ok (.invokevirtual 283, 3) := by decide +kernel
theorem dX6_sun_206 : decode cX6_sun 206 = .ok (.iinc 11 1, 3) := by decide +kernel
theorem dX6_sun_209 : decode cX6_sun 209 = .ok (.goto (-94), 3) := by decide +kernel
theorem dX6_sun_212 : decode cX6_sun 212 = .ok (.lload 7, 2) := by decide +kernel
theorem dX6_sun_214 : decode cX6_sun 214 = .ok (.lload 9, 2) := by decide +kernel
theorem dX6_sun_216 : decode cX6_sun 216 = .ok (.iload 5, 2) := by decide +kernel
theorem dX6_sun_218 : decode cX6_sun 218 = .ok (.invokestatic 328, 3) := by decide +kernel
theorem dX6_sun_221 : decode cX6_sun 221 = .ok (.lreturn, 1) := by decide +kernel
theorem dX6_beside_0 : decode cX6_beside 0 = .ok (.iload_n 1, 1) := by decide +kernel
theorem dX6_beside_1 : decode cX6_beside 1 = .ok (.tableswitch 76 0 2 #[27, 43, 60], 27) := by decide +kernel
theorem dX6_beside_28 : decode cX6_beside 28 = .ok (.iload_n 0, 1) := by decide +kernel
theorem dX6_beside_29 : decode cX6_beside 29 = .ok (.bipush 6, 2) := by decide +kernel
theorem dX6_beside_31 : decode cX6_beside 31 = .ok (.if_icmp .ge 8, 3) := by decide +kernel
theorem dX6_beside_34 : decode cX6_beside 34 = .ok (.bipush (-9), 2) := by decide +kernel
theorem dX6_beside_36 : decode cX6_beside 36 = .ok (.goto 7, 3) := by decide +kernel
theorem dX6_beside_39 : decode cX6_beside 39 = .ok (.iload_n 0, 1) := by decide +kernel
theorem dX6_beside_40 : decode cX6_beside 40 = .ok (.bipush 6, 2) := by decide +kernel
theorem dX6_beside_42 : decode cX6_beside 42 = .ok (.isub, 1) := by decide +kernel
theorem dX6_beside_43 : decode cX6_beside 43 = .ok (.ireturn, 1) := by decide +kernel
theorem dX6_beside_44 : decode cX6_beside 44 = .ok (.iload_n 0, 1) := by decide +kernel
theorem dX6_beside_45 : decode cX6_beside 45 = .ok (.bipush 6, 2) := by decide +kernel
theorem dX6_beside_47 : decode cX6_beside 47 = .ok (.irem, 1) := by decide +kernel
theorem dX6_beside_48 : decode cX6_beside 48 = .ok (.iconst 5, 1) := by decide +kernel
theorem dX6_beside_49 : decode cX6_beside 49 = .ok (.if_icmp .ne 8, 3) := by decide +kernel
theorem dX6_beside_52 : decode cX6_beside 52 = .ok (.bipush (-9), 2) := by decide +kernel
theorem dX6_beside_54 : decode cX6_beside 54 = .ok (.goto 6, 3) := by decide +kernel
theorem dX6_beside_57 : decode cX6_beside 57 = .ok (.iload_n 0, 1) := by decide +kernel
theorem dX6_beside_58 : decode cX6_beside 58 = .ok (.iconst 1, 1) := by decide +kernel
theorem dX6_beside_59 : decode cX6_beside 59 = .ok (.iadd, 1) := by decide +kernel
theorem dX6_beside_60 : decode cX6_beside 60 = .ok (.ireturn, 1) := by decide +kernel
theorem dX6_beside_61 : decode cX6_beside 61 = .ok (.iload_n 0, 1) := by decide +kernel
theorem dX6_beside_62 : decode cX6_beside 62 = .ok (.bipush 18, 2) := by decide +kernel
theorem dX6_beside_64 : decode cX6_beside 64 = .ok (.if_icmp .lt 8, 3) := by decide +kernel
theorem dX6_beside_67 : decode cX6_beside 67 = .ok (.bipush (-9), 2) := by decide +kernel
theorem dX6_beside_69 : decode cX6_beside 69 = .ok (.goto 7, 3) := by decide +kernel
theorem dX6_beside_72 : decode cX6_beside 72 = .ok (.iload_n 0, 1) := by decide +kernel
theorem dX6_beside_73 : decode cX6_beside 73 = .ok (.bipush 6, 2) := by decide +kernel
theorem dX6_beside_75 : decode cX6_beside 75 = .ok (.iadd, 1) := by decide +kernel
theorem dX6_beside_76 : decode cX6_beside 76 = .ok (.ireturn, 1) := by decide +kernel
theorem dX6_beside_77 : decode cX6_beside 77 = .ok (.iload_n 0, 1) := by decide +kernel
theorem dX6_beside_78 : decode cX6_beside 78 = .ok (.bipush 6, 2) := by decide +kernel
theorem dX6_beside_80 : decode cX6_beside 80 = .ok (.irem, 1) := by decide +kernel
theorem dX6_beside_81 : decode cX6_beside 81 = .ok (.ifCond .ne 8, 3) := by decide +kernel
theorem dX6_beside_84 : decode cX6_beside 84 = .ok (.bipush (-9), 2) := by decide +kernel
theorem dX6_beside_86 : decode cX6_beside 86 = .ok (.goto 6, 3) := by decide +kernel
theorem dX6_beside_89 : decode cX6_beside 89 = .ok (.iload_n 0, 1) := by decide +kernel
theorem dX6_beside_90 : decode cX6_beside 90 = .ok (.iconst 1, 1) := by decide +kernel
theorem dX6_beside_91 : decode cX6_beside 91 = .ok (.isub, 1) := by decide +kernel
theorem dX6_beside_92 : decode cX6_beside 92 = .ok (.ireturn, 1) := by decide +kernel
theorem dX6_grown_0 : decode cX6_grown 0 = .ok (.iload_n 0, 1) := by decide +kernel
theorem dX6_grown_1 : decode cX6_grown 1 = .ok (.istore_n 2, 1) := by decide +kernel
theorem dX6_grown_2 : decode cX6_grown 2 = .ok (.iconst 0, 1) := by decide +kernel
theorem dX6_grown_3 : decode cX6_grown 3 = .ok (.istore_n 3, 1) := by decide +kernel
theorem dX6_grown_4 : decode cX6_grown 4 = .ok (.iload_n 3, 1) := by decide +kernel
theorem dX6_grown_5 : decode cX6_grown 5 = .ok (.bipush 24, 2) := by decide +kernel
theorem dX6_grown_7 : decode cX6_grown 7 = .ok (.if_icmp .ge 65, 3) := by decide +kernel
theorem dX6_grown_10 : decode cX6_grown 10 = .ok (.iconst 0, 1) := by decide +kernel
theorem dX6_grown_11 : decode cX6_grown 11 = .ok (.istore 4, 2) := by decide +kernel
theorem dX6_grown_13 : decode cX6_grown 13 = .ok (.iload 4, 2) := by decide +kernel
theorem dX6_grown_15 : decode cX6_grown 15 = .ok (.iconst 4, 1) := by decide +kernel
theorem dX6_grown_16 : decode cX6_grown 16 = .ok (.if_icmp .ge 50, 3) := by decide +kernel
theorem dX6_grown_19 : decode cX6_grown 19 = .ok (.iload_n 0, 1) := by decide +kernel
theorem dX6_grown_20 : decode cX6_grown 20 = .ok (.iload_n 3, 1) := by decide +kernel
theorem dX6_grown_21 : decode cX6_grown 21 = .ok (.invokestatic 292, 3) := by decide +kernel
theorem dX6_grown_24 : decode cX6_grown 24 = .ok (.ifCond .eq 42, 3) := by decide +kernel
theorem dX6_grown_27 : decode cX6_grown 27 = .ok (.iload_n 3, 1) := by decide +kernel
theorem dX6_grown_28 : decode cX6_grown 28 = .ok (.iload 4, 2) := by decide +kernel
theorem dX6_grown_30 : decode cX6_grown 30 = .ok (.invokestatic 332, 3) := by decide +kernel
theorem dX6_grown_33 : decode cX6_grown 33 = .ok (.istore 5, 2) := by decide +kernel
theorem dX6_grown_35 : decode cX6_grown 35 = .ok (.iload_n 2, 1) := by decide +kernel
theorem dX6_grown_36 : decode cX6_grown 36 = .ok (.iload 5, 2) := by decide +kernel
theorem dX6_grown_38 : decode cX6_grown 38 = .ok (.ifCond .lt 19, 3) := by decide +kernel
theorem dX6_grown_41 : decode cX6_grown 41 = .ok (.iload_n 1, 1) := by decide +kernel
theorem dX6_grown_42 : decode cX6_grown 42 = .ok (.iload 5, 2) := by decide +kernel
theorem dX6_grown_44 : decode cX6_grown 44 = .ok (.invokestatic 292, 3) := by decide +kernel
theorem dX6_grown_47 : decode cX6_grown 47 = .ok (.ifCond .eq 10, 3) := by decide +kernel
theorem dX6_grown_50 : decode cX6_grown 50 = .ok (.iconst 1, 1) := by decide +kernel
theorem dX6_grown_51 : decode cX6_grown 51 = .ok (.iload 5, 2) := by decide +kernel
theorem dX6_grown_53 : decode cX6_grown 53 = .ok (.ishl, 1) := by decide +kernel
theorem dX6_grown_54 : decode cX6_grown 54 = .ok (.goto 4, 3) := by decide +kernel
theorem dX6_grown_57 : decode cX6_grown 57 = .ok (.iconst 0, 1) := by decide +kernel
theorem dX6_grown_58 : decode cX6_grown 58 = .ok (.ior, 1) := by decide +kernel
theorem dX6_grown_59 : decode cX6_grown 59 = .ok (.istore_n 2, 1) := by decide +kernel
theorem dX6_grown_60 : decode cX6_grown 60 = .ok (.iinc 4 1, 3) := by decide +kernel
theorem dX6_grown_63 : decode cX6_grown 63 = .ok (.goto (-50), 3) := by decide +kernel
theorem dX6_grown_66 : decode cX6_grown 66 = .ok (.iinc 3 1, 3) := by decide +kernel
theorem dX6_grown_69 : decode cX6_grown 69 = .ok (.goto (-65), 3) := by decide +kernel
theorem dX6_grown_72 : decode cX6_grown 72 = .ok (.iload_n 2, 1) := by decide +kernel
theorem dX6_grown_73 : decode cX6_grown 73 = .ok (.ireturn, 1) := by decide +kernel
theorem dX6_pieceWith_0 : decode cX6_pieceWith 0 = .ok (.iload_n 1, 1) := by decide +kernel
theorem dX6_pieceWith_1 : decode cX6_pieceWith 1 = .ok (.iload_n 0, 1) := by decide +kernel
theorem dX6_pieceWith_2 : decode cX6_pieceWith 2 = .ok (.invokestatic 292, 3) := by decide +kernel
theorem dX6_pieceWith_5 : decode cX6_pieceWith 5 = .ok (.ifCond .eq 9, 3) := by decide +kernel
theorem dX6_pieceWith_8 : decode cX6_pieceWith 8 = .ok (.iconst 1, 1) := by decide +kernel
theorem dX6_pieceWith_9 : decode cX6_pieceWith 9 = .ok (.iload_n 0, 1) := by decide +kernel
theorem dX6_pieceWith_10 : decode cX6_pieceWith 10 = .ok (.ishl, 1) := by decide +kernel
theorem dX6_pieceWith_11 : decode cX6_pieceWith 11 = .ok (.goto 4, 3) := by decide +kernel
theorem dX6_pieceWith_14 : decode cX6_pieceWith 14 = .ok (.iconst 0, 1) := by decide +kernel
theorem dX6_pieceWith_15 : decode cX6_pieceWith 15 = .ok (.istore_n 2, 1) := by decide +kernel
theorem dX6_pieceWith_16 : decode cX6_pieceWith 16 = .ok (.iload_n 2, 1) := by decide +kernel
theorem dX6_pieceWith_17 : decode cX6_pieceWith 17 = .ok (.iload_n 1, 1) := by decide +kernel
theorem dX6_pieceWith_18 : decode cX6_pieceWith 18 = .ok (.invokestatic 335, 3) := by decide +kernel
theorem dX6_pieceWith_21 : decode cX6_pieceWith 21 = .ok (.istore_n 3, 1) := by decide +kernel
theorem dX6_pieceWith_22 : decode cX6_pieceWith 22 = .ok (.iload_n 3, 1) := by decide +kernel
theorem dX6_pieceWith_23 : decode cX6_pieceWith 23 = .ok (.iload_n 2, 1) := by decide +kernel
theorem dX6_pieceWith_24 : decode cX6_pieceWith 24 = .ok (.if_icmp .eq 14, 3) := by decide +kernel
theorem dX6_pieceWith_27 : decode cX6_pieceWith 27 = .ok (.iload_n 3, 1) := by decide +kernel
theorem dX6_pieceWith_28 : decode cX6_pieceWith 28 = .ok (.istore_n 2, 1) := by decide +kernel
theorem dX6_pieceWith_29 : decode cX6_pieceWith 29 = .ok (.iload_n 2, 1) := by decide +kernel
theorem dX6_pieceWith_30 : decode cX6_pieceWith 30 = .ok (.iload_n 1, 1) := by decide +kernel
theorem dX6_pieceWith_31 : decode cX6_pieceWith 31 = .ok (.invokestatic 335, 3) := by decide +kernel
theorem dX6_pieceWith_34 : decode cX6_pieceWith 34 = .ok (.istore_n 3, 1) := by decide +kernel
theorem dX6_pieceWith_35 : decode cX6_pieceWith 35 = .ok (.goto (-13), 3) := by decide +kernel
theorem dX6_pieceWith_38 : decode cX6_pieceWith 38 = .ok (.iload_n 2, 1) := by decide +kernel
theorem dX6_pieceWith_39 : decode cX6_pieceWith 39 = .ok (.ireturn, 1) := by decide +kernel
theorem dX6_pieces_0 : decode cX6_pieces 0 = .ok (.aload_n 0, 1) := by decide +kernel
theorem dX6_pieces_1 : decode cX6_pieces 1 = .ok (.invokevirtual 286, 3) := by decide +kernel
theorem dX6_pieces_4 : decode cX6_pieces 4 = .ok (.istore_n 2, 1) := by decide +kernel
theorem dX6_pieces_5 : decode cX6_pieces 5 = .ok (.iconst 0, 1) := by decide +kernel
theorem dX6_pieces_6 : decode cX6_pieces 6 = .ok (.istore_n 3, 1) := by decide +kernel
theorem dX6_pieces_7 : decode cX6_pieces 7 = .ok (.iconst 0, 1) := by decide +kernel
theorem dX6_pieces_8 : decode cX6_pieces 8 = .ok (.istore 4, 2) := by decide +kernel
theorem dX6_pieces_10 : decode cX6_pieces 10 = .ok (.iconst 0, 1) := by decide +kernel
theorem dX6_pieces_11 : decode cX6_pieces 11 = .ok (.istore 5, 2) := by decide +kernel
theorem dX6_pieces_13 : decode cX6_pieces 13 = .ok (.iload 5, 2) := by decide +kernel
theorem dX6_pieces_15 : decode cX6_pieces 15 = .ok (.bipush 24, 2) := by decide +kernel
theorem dX6_pieces_17 : decode cX6_pieces 17 = .ok (.if_icmp .ge 51, 3) := by decide +kernel
theorem dX6_pieces_20 : decode cX6_pieces 20 = .ok (.iload_n 2, 1) := by decide +kernel
theorem dX6_pieces_21 : decode cX6_pieces 21 = .ok (.iload 5, 2) := by decide +kernel
theorem dX6_pieces_23 : decode cX6_pieces 23 = .ok (.invokestatic 292, 3) := by decide +kernel
theorem dX6_pieces_26 : decode cX6_pieces 26 = .ok (.ifCond .ne 6, 3) := by decide +kernel
theorem dX6_pieces_29 : decode cX6_pieces 29 = .ok (.goto 33, 3) := by decide +kernel
theorem dX6_pieces_32 : decode cX6_pieces 32 = .ok (.iload 5, 2) := by decide +kernel
theorem dX6_pieces_34 : decode cX6_pieces 34 = .ok (.iload_n 2, 1) := by decide +kernel
theorem dX6_pieces_35 : decode cX6_pieces 35 = .ok (.invokestatic 338, 3) := by decide +kernel
theorem dX6_pieces_38 : decode cX6_pieces 38 = .ok (.istore 6, 2) := by decide +kernel
theorem dX6_pieces_40 : decode cX6_pieces 40 = .ok (.iload_n 2, 1) := by decide +kernel
theorem dX6_pieces_41 : decode cX6_pieces 41 = .ok (.iload 6, 2) := by decide +kernel
theorem dX6_pieces_43 : decode cX6_pieces 43 = .ok (.iconst (-1), 1) := by decide +kernel
theorem dX6_pieces_44 : decode cX6_pieces 44 = .ok (.ixor, 1) := by decide +kernel
theorem dX6_pieces_45 : decode cX6_pieces 45 = .ok (.iand, 1) := by decide +kernel
theorem dX6_pieces_46 : decode cX6_pieces 46 = .ok (.istore_n 2, 1) := by decide +kernel
theorem dX6_pieces_47 : decode cX6_pieces 47 = .ok (.iinc 3 1, 3) := by decide +kernel
theorem dX6_pieces_50 : decode cX6_pieces 50 = .ok (.iload 4, 2) := by decide +kernel
theorem dX6_pieces_52 : decode cX6_pieces 52 = .ok (.iload 6, 2) := by decide +kernel
theorem dX6_pieces_54 : decode cX6_pieces 54 = .ok (.invokestatic 298, 3) := by decide +kernel
theorem dX6_pieces_57 : decode cX6_pieces 57 = .ok (.invokestatic 96, 3) := by decide +kernel
theorem dX6_pieces_60 : decode cX6_pieces 60 = .ok (.istore 4, 2) := by decide +kernel
theorem dX6_pieces_62 : decode cX6_pieces 62 = .ok (.iinc 5 1, 3) := by decide +kernel
theorem dX6_pieces_65 : decode cX6_pieces 65 = .ok (.goto (-52), 3) := by decide +kernel
theorem dX6_pieces_68 : decode cX6_pieces 68 = .ok (.iload_n 1, 1) := by decide +kernel
theorem dX6_pieces_69 : decode cX6_pieces 69 = .ok (.ifCond .eq 8, 3) := by decide +kernel
theorem dX6_pieces_72 : decode cX6_pieces 72 = .ok (.iload 4, 2) := by decide +kernel
theorem dX6_pieces_74 : decode cX6_pieces 74 = .ok (.goto 4, 3) := by decide +kernel
theorem dX6_pieces_77 : decode cX6_pieces 77 = .ok (.iload_n 3, 1) := by decide +kernel
theorem dX6_pieces_78 : decode cX6_pieces 78 = .ok (.ireturn, 1) := by decide +kernel
theorem dX6_islands_0 : decode cX6_islands 0 = .ok (.iload_n 1, 1) := by decide +kernel
theorem dX6_islands_1 : decode cX6_islands 1 = .ok (.bipush (-2), 2) := by decide +kernel
theorem dX6_islands_3 : decode cX6_islands 3 = .ok (.bipush 23, 2) := by decide +kernel
theorem dX6_islands_5 : decode cX6_islands 5 = .ok (.invokestatic 82, 3) := by decide +kernel
theorem dX6_islands_8 : decode cX6_islands 8 = .ok (.ifCond .ne 9, 3) := by decide +kernel
theorem dX6_islands_11 : decode cX6_islands 11 = .ok (.aload_n 0, 1) := by decide +kernel
theorem dX6_islands_12 : decode cX6_islands 12 = .ok (.iconst (-1), 1) := by decide +kernel
theorem dX6_islands_13 : decode cX6_islands 13 = .ok (.invokevirtual 172, 3) := by decide +kernel
theorem dX6_islands_16 : decode cX6_islands 16 = .ok (.ireturn, 1) := by decide +kernel
theorem dX6_islands_17 : decode cX6_islands 17 = .ok (.iload_n 1, 1) := by decide +kernel
theorem dX6_islands_18 : decode cX6_islands 18 = .ok (.ifCond .ge 21, 3) := by decide +kernel
theorem dX6_islands_21 : decode cX6_islands 21 = .ok (.aload_n 0, 1) := by decide +kernel
theorem dX6_islands_22 : decode cX6_islands 22 = .ok (.iload_n 1, 1) := by decide +kernel
theorem dX6_islands_23 : decode cX6_islands 23 = .ok (.bipush (-2), 2) := by decide +kernel
theorem dX6_islands_25 : decode cX6_islands 25 = .ok (.if_icmp .ne 7, 3) := by decide +kernel
theorem dX6_islands_28 : decode cX6_islands 28 = .ok (.iconst 1, 1) := by decide +kernel
theorem dX6_islands_29 : decode cX6_islands 29 = .ok (.goto 4, 3) := by decide +kernel
theorem dX6_islands_32 : decode cX6_islands 32 = .ok (.iconst 0, 1) := by decide +kernel
theorem dX6_islands_33 : decode cX6_islands 33 = .ok (.invokevirtual 341, 3) := by decide +kernel
theorem dX6_islands_36 : decode cX6_islands 36 = .ok (.goto 11, 3) := by decide +kernel
theorem dX6_islands_39 : decode cX6_islands 39 = .ok (.iload_n 1, 1) := by decide +kernel
theorem dX6_islands_40 : decode cX6_islands 40 = .ok (.aload_n 0, 1) := by decide +kernel
theorem dX6_islands_41 : decode cX6_islands 41 = .ok (.invokevirtual 286, 3) := by decide +kernel
theorem dX6_islands_44 : decode cX6_islands 44 = .ok (.invokestatic 338, 3) := by decide +kernel
theorem dX6_islands_47 : decode cX6_islands 47 = .ok (.ireturn, 1) := by decide +kernel
theorem dX6_clearRun_0 : decode cX6_clearRun 0 = .ok (.iconst 0, 1) := by decide +kernel
theorem dX6_clearRun_1 : decode cX6_clearRun 1 = .ok (.istore_n 1, 1) := by decide +kernel
theorem dX6_clearRun_2 : decode cX6_clearRun 2 = .ok (.iconst 0, 1) := by decide +kernel
theorem dX6_clearRun_3 : decode cX6_clearRun 3 = .ok (.istore_n 2, 1) := by decide +kernel
theorem dX6_clearRun_4 : decode cX6_clearRun 4 = .ok (.aload_n 0, 1) := by decide +kernel
theorem dX6_clearRun_5 : decode cX6_clearRun 5 = .ok (.invokevirtual 280, 3) := by decide +kernel
theorem dX6_clearRun_8 : decode cX6_clearRun 8 = .ok (.iconst 0, 1) := by decide +kernel
theorem dX6_clearRun_9 : decode cX6_clearRun 9 = .ok (.istore_n 3, 1) := by decide +kernel
theorem dX6_clearRun_10 : decode cX6_clearRun 10 = .ok (.iload_n 3, 1) := by decide +kernel
theorem dX6_clearRun_11 : decode cX6_clearRun 11 = .ok (.bipush 60, 2) := by decide +kernel
theorem dX6_clearRun_13 : decode cX6_clearRun 13 = .ok (.if_icmp .ge 34, 3) := by decide +kernel
theorem dX6_clearRun_16 : decode cX6_clearRun 16 = .ok (.aload_n 0, 1) := by decide +kernel
theorem dX6_clearRun_17 : decode cX6_clearRun 17 = .ok (.invokevirtual 162, 3) := by decide +kernel
theorem dX6_clearRun_20 : decode cX6_clearRun 20 = .ok (.aload_n 0, 1) := by decide +kernel
theorem dX6_clearRun_21 : decode cX6_clearRun 21 = .ok (.invokevirtual 286, 3) := by decide +kernel
theorem dX6_clearRun_24 : decode cX6_clearRun 24 = .ok (.ifCond .ne 9, 3) := by decide +kernel
theorem dX6_clearRun_27 : decode cX6_clearRun 27 = .ok (.iload_n 2, 1) := by decide +kernel
theorem dX6_clearRun_28 : decode cX6_clearRun 28 = .ok (.iconst 1, 1) := by decide +kernel
theorem dX6_clearRun_29 : decode cX6_clearRun 29 = .ok (.iadd, 1) := by decide +kernel
theorem dX6_clearRun_30 : decode cX6_clearRun 30 = .ok (.goto 4, 3) := by decide +kernel
theorem dX6_clearRun_33 : decode cX6_clearRun 33 = .ok (.iconst 0, 1) := by decide +kernel
theorem dX6_clearRun_34 : decode cX6_clearRun 34 = .ok (.istore_n 2, 1) := by decide +kernel
theorem dX6_clearRun_35 : decode cX6_clearRun 35 = .ok (.iload_n 1, 1) := by decide +kernel
theorem dX6_clearRun_36 : decode cX6_clearRun 36 = .ok (.iload_n 2, 1) := by decide +kernel
theorem dX6_clearRun_37 : decode cX6_clearRun 37 = .ok (.invokestatic 96, 3) := by decide +kernel
theorem dX6_clearRun_40 : decode cX6_clearRun 40 = .ok (.istore_n 1, 1) := by decide +kernel
theorem dX6_clearRun_41 : decode cX6_clearRun 41 = .ok (.iinc 3 1, 3) := by decide +kernel
theorem dX6_clearRun_44 : decode cX6_clearRun 44 = .ok (.goto (-34), 3) := by decide +kernel
theorem dX6_clearRun_47 : decode cX6_clearRun 47 = .ok (.aload_n 0, 1) := by decide +kernel
theorem dX6_clearRun_48 : decode cX6_clearRun 48 = .ok (.invokevirtual 283, 3) := by decide +kernel
theorem dX6_clearRun_51 : decode cX6_clearRun 51 = .ok (.iload_n 1, 1) := by decide +kernel
theorem dX6_clearRun_52 : decode cX6_clearRun 52 = .ok (.ireturn, 1) := by decide +kernel
theorem dX6_way_0 : decode cX6_way 0 = .ok (.iload_n 1, 1) := by decide +kernel
theorem dX6_way_1 : decode cX6_way 1 = .ok (.invokestatic 198, 3) := by decide +kernel
theorem dX6_way_4 : decode cX6_way 4 = .ok (.ifCond .eq 10, 3) := by decide +kernel
theorem dX6_way_7 : decode cX6_way 7 = .ok (.iload_n 2, 1) := by decide +kernel
theorem dX6_way_8 : decode cX6_way 8 = .ok (.invokestatic 198, 3) := by decide +kernel
theorem dX6_way_11 : decode cX6_way 11 = .ok (.ifCond .ne 9, 3) := by decide +kernel
theorem dX6_way_14 : decode cX6_way 14 = .ok (.aload_n 0, 1) := by decide +kernel
theorem dX6_way_15 : decode cX6_way 15 = .ok (.iconst (-1), 1) := by decide +kernel
theorem dX6_way_16 : decode cX6_way 16 = .ok (.invokevirtual 172, 3) := by decide +kernel
theorem dX6_way_19 : decode cX6_way 19 = .ok (.ireturn, 1) := by decide +kernel
theorem dX6_way_20 : decode cX6_way 20 = .ok (.aload_n 0, 1) := by decide +kernel
theorem dX6_way_21 : decode cX6_way 21 = .ok (.invokevirtual 286, 3) := by decide +kernel
theorem dX6_way_24 : decode cX6_way 24 = .ok (.istore_n 3, 1) := by decide +kernel
theorem dX6_way_25 : decode cX6_way 25 = .ok (.iload_n 3, 1) := by decide +kernel
theorem dX6_way_26 : decode cX6_way 26 = .ok (.iload_n 1, 1) := by decide +kernel
theorem dX6_way_27 : decode cX6_way 27 = .ok (.invokestatic 292, 3) := by decide +kernel
theorem dX6_way_30 : decode cX6_way 30 = .ok (.ifCond .eq 15, 3) := by decide +kernel
theorem dX6_way_33 : decode cX6_way 33 = .ok (.iload_n 1, 1) := by decide +kernel
theorem dX6_way_34 : decode cX6_way 34 = .ok (.iload_n 3, 1) := by decide +kernel
theorem dX6_way_35 : decode cX6_way 35 = .ok (.invokestatic 338, 3) := by decide +kernel
theorem dX6_way_38 : decode cX6_way 38 = .ok (.iload_n 2, 1) := by decide +kernel
theorem dX6_way_39 : decode cX6_way 39 = .ok (.invokestatic 292, 3) := by decide +kernel
theorem dX6_way_42 : decode cX6_way 42 = .ok (.ifCond .ne 6, 3) := by decide +kernel
theorem dX6_way_45 : decode cX6_way 45 = .ok (.bipush (-9), 2) := by decide +kernel
theorem dX6_way_47 : decode cX6_way 47 = .ok (.ireturn, 1) := by decide +kernel
theorem dX6_way_48 : decode cX6_way 48 = .ok (.iconst 1, 1) := by decide +kernel
theorem dX6_way_49 : decode cX6_way 49 = .ok (.iload_n 1, 1) := by decide +kernel
theorem dX6_way_50 : decode cX6_way 50 = .ok (.ishl, 1) := by decide +kernel
theorem dX6_way_51 : decode cX6_way 51 = .ok (.istore 4, 2) := by decide +kernel
theorem dX6_way_53 : decode cX6_way 53 = .ok (.iconst 0, 1) := by decide +kernel
theorem dX6_way_54 : decode cX6_way 54 = .ok (.istore 5, 2) := by decide +kernel
theorem dX6_way_56 : decode cX6_way 56 = .ok (.iload 4, 2) := by decide +kernel
theorem dX6_way_58 : decode cX6_way 58 = .ok (.iload_n 2, 1) := by decide +kernel
theorem dX6_way_59 : decode cX6_way 59 = .ok (.invokestatic 292, 3) := by decide +kernel
theorem dX6_way_62 : decode cX6_way 62 = .ok (.ifCond .ne 17, 3) := by decide +kernel
theorem dX6_way_65 : decode cX6_way 65 = .ok (.iload 4, 2) := by decide +kernel
theorem dX6_way_67 : decode cX6_way 67 = .ok (.iload_n 3, 1) := by decide +kernel
theorem dX6_way_68 : decode cX6_way 68 = .ok (.invokestatic 335, 3) := by decide +kernel
theorem dX6_way_71 : decode cX6_way 71 = .ok (.istore 4, 2) := by decide +kernel
theorem dX6_way_73 : decode cX6_way 73 = .ok (.iinc 5 1, 3) := by decide +kernel
theorem dX6_way_76 : decode cX6_way 76 = .ok (.goto (-20), 3) := by decide +kernel
theorem dX6_way_79 : decode cX6_way 79 = .ok (.iload 5, 2) := by decide +kernel
theorem dX6_way_81 : decode cX6_way 81 = .ok (.ireturn, 1) := by decide +kernel
theorem dX6_share_0 : decode cX6_share 0 = .ok (.aload_n 0, 1) := by decide +kernel
theorem dX6_share_1 : decode cX6_share 1 = .ok (.iload_n 1, 1) := by decide +kernel
theorem dX6_share_2 : decode cX6_share 2 = .ok (.invokevirtual 92, 3) := by decide +kernel
theorem dX6_share_5 : decode cX6_share 5 = .ok (.ifCond .ne 7, 3) := by decide +kernel
theorem dX6_share_8 : decode cX6_share 8 = .ok (.iconst (-1), 1) := by decide +kernel
theorem dX6_share_9 : decode cX6_share 9 = .ok (.goto 18, 3) := by decide +kernel
theorem dX6_share_12 : decode cX6_share 12 = .ok (.iload_n 2, 1) := by decide +kernel
theorem dX6_share_13 : decode cX6_share 13 = .ok (.iconst 0, 1) := by decide +kernel
theorem dX6_share_14 : decode cX6_share 14 = .ok (.iconst 1, 1) := by decide +kernel
theorem dX6_share_15 : decode cX6_share 15 = .ok (.invokestatic 82, 3) := by decide +kernel
theorem dX6_share_18 : decode cX6_share 18 = .ok (.ifCond .ne 8, 3) := by decide +kernel
theorem dX6_share_21 : decode cX6_share 21 = .ok (.bipush (-2), 2) := by decide +kernel
theorem dX6_share_23 : decode cX6_share 23 = .ok (.goto 4, 3) := by decide +kernel
theorem dX6_share_26 : decode cX6_share 26 = .ok (.iconst 0, 1) := by decide +kernel
theorem dX6_share_27 : decode cX6_share 27 = .ok (.istore_n 3, 1) := by decide +kernel
theorem dX6_share_28 : decode cX6_share 28 = .ok (.iload_n 3, 1) := by decide +kernel
theorem dX6_share_29 : decode cX6_share 29 = .ok (.ifCond .eq 9, 3) := by decide +kernel
theorem dX6_share_32 : decode cX6_share 32 = .ok (.aload_n 0, 1) := by decide +kernel
theorem dX6_share_33 : decode cX6_share 33 = .ok (.iload_n 3, 1) := by decide +kernel
theorem dX6_share_34 : decode cX6_share 34 = .ok (.invokevirtual 324, 3) := by decide +kernel
theorem dX6_share_37 : decode cX6_share 37 = .ok (.lreturn, 1) := by decide +kernel
theorem dX6_share_38 : decode cX6_share 38 = .ok (.iconst 0, 1) := by decide +kernel
theorem dX6_share_39 : decode cX6_share 39 = .ok (.istore 4, 2) := by decide +kernel
theorem dX6_share_41 : decode cX6_share 41 = .ok (.iconst 0, 1) := by decide +kernel
theorem dX6_share_42 : decode cX6_share 42 = .ok (.istore 5, 2) := by decide +kernel
theorem dX6_share_44 : decode cX6_share 44 = .ok (.iload 5, 2) := by decide +kernel
theorem dX6_share_46 : decode cX6_share 46 = .ok (.aload_n 0, 1) := by decide +kernel
theorem dX6_share_47 : decode cX6_share 47 = .ok (.getfield 86, 3) := by decide +kernel
theorem dX6_share_50 : decode cX6_share 50 = .ok (.if_icmp .ge 21, 3) := by decide +kernel
theorem dX6_share_53 : decode cX6_share 53 = .ok (.iload 4, 2) := by decide +kernel
theorem dX6_share_55 : decode cX6_share 55 = .ok (.aload_n 0, 1) := by decide +kernel
theorem dX6_share_56 : decode cX6_share 56 = .ok (.getfield 22, 3) := by decide +kernel
theorem dX6_share_59 : decode cX6_share 59 = .ok (.iload 5, 2) := by decide +kernel
theorem dX6_share_61 : decode cX6_share 61 = .ok (.iaload, 1) := by decide +kernel
theorem dX6_share_62 : decode cX6_share 62 = .ok (.iadd, 1) := by decide +kernel
theorem dX6_share_63 : decode cX6_share 63 = .ok (.istore 4, 2) := by decide +kernel
theorem dX6_share_65 : decode cX6_share 65 = .ok (.iinc 5 1, 3) := by decide +kernel
theorem dX6_share_68 : decode cX6_share 68 = .ok (.goto (-24), 3) := by decide +kernel
theorem dX6_share_71 : decode cX6_share 71 = .ok (.iload 4, 2) := by decide +kernel
theorem dX6_share_73 : decode cX6_share 73 = .ok (.ifCond .ne 8, 3) := by decide +kernel
theorem dX6_share_76 : decode cX6_share 76 = .ok (.iload_n 2, 1) := by decide +kernel
theorem dX6_share_77 : decode cX6_share 77 = .ok (.i2l, 1) := by decide +kernel
theorem dX6_share_78 : decode cX6_share 78 = .ok (.goto 16, 3) := by decide +kernel
theorem dX6_share_81 : decode cX6_share 81 = .ok (.aload_n 0, 1) := by decide +kernel
theorem dX6_share_82 : decode cX6_share 82 = .ok (.iload_n 1, 1) := by decide +kernel
theorem dX6_share_83 : decode cX6_share 83 = .ok (.invokevirtual 264, 3) := by decide +kernel
theorem dX6_share_86 : decode cX6_share 86 = .ok (.i2l, 1) := by decide +kernel
theorem dX6_share_87 : decode cX6_share 87 = .ok (.iload 4, 2) := by decide +kernel
theorem dX6_share_89 : decode cX6_share 89 = .ok (.i2l, 1) := by decide +kernel
theorem dX6_share_90 : decode cX6_share 90 = .ok (.iload_n 2, 1) := by decide +kernel
theorem dX6_share_91 : decode cX6_share 91 = .ok (.invokestatic 328, 3) := by decide +kernel
theorem dX6_share_94 : decode cX6_share 94 = .ok (.lreturn, 1) := by decide +kernel
theorem dX6_richest_0 : decode cX6_richest 0 = .ok (.bipush (-9), 2) := by decide +kernel
theorem dX6_richest_2 : decode cX6_richest 2 = .ok (.istore_n 1, 1) := by decide +kernel
theorem dX6_richest_3 : decode cX6_richest 3 = .ok (.iconst 0, 1) := by decide +kernel
theorem dX6_richest_4 : decode cX6_richest 4 = .ok (.istore_n 2, 1) := by decide +kernel
theorem dX6_richest_5 : decode cX6_richest 5 = .ok (.iload_n 2, 1) := by decide +kernel
theorem dX6_richest_6 : decode cX6_richest 6 = .ok (.aload_n 0, 1) := by decide +kernel
theorem dX6_richest_7 : decode cX6_richest 7 = .ok (.getfield 89, 3) := by decide +kernel
theorem dX6_richest_10 : decode cX6_richest 10 = .ok (.if_icmp .ge 32, 3) := by decide +kernel
theorem dX6_richest_13 : decode cX6_richest 13 = .ok (.iload_n 1, 1) := by decide +kernel
theorem dX6_richest_14 : decode cX6_richest 14 = .ok (.ifCond .lt 16, 3) := by decide +kernel
theorem dX6_richest_17 : decode cX6_richest 17 = .ok (.aload_n 0, 1) := by decide +kernel
theorem dX6_richest_18 : decode cX6_richest 18 = .ok (.iload_n 2, 1) := by decide +kernel
theorem dX6_richest_19 : decode cX6_richest 19 = .ok (.invokevirtual 264, 3) := by decide +kernel
theorem dX6_richest_22 : decode cX6_richest 22 = .ok (.aload_n 0, 1) := by decide +kernel
theorem dX6_richest_23 : decode cX6_richest 23 = .ok (.iload_n 1, 1) := by decide +kernel
theorem dX6_richest_24 : decode cX6_richest 24 = .ok (.invokevirtual 264, 3) := by decide +kernel
theorem dX6_richest_27 : decode cX6_richest 27 = .ok (.if_icmp .le 7, 3) := by decide +kernel
theorem dX6_richest_30 : decode cX6_richest 30 = .ok (.iload_n 2, 1) := by decide +kernel
theorem dX6_richest_31 : decode cX6_richest 31 = .ok (.goto 4, 3) := by decide +kernel
theorem dX6_richest_34 : decode cX6_richest 34 = .ok (.iload_n 1, 1) := by decide +kernel
theorem dX6_richest_35 : decode cX6_richest 35 = .ok (.istore_n 1, 1) := by decide +kernel
theorem dX6_richest_36 : decode cX6_richest 36 = .ok (.iinc 2 1, 3) := by decide +kernel
theorem dX6_richest_39 : decode cX6_richest 39 = .ok (.goto (-34), 3) := by decide +kernel
theorem dX6_richest_42 : decode cX6_richest 42 = .ok (.iload_n 1, 1) := by decide +kernel
theorem dX6_richest_43 : decode cX6_richest 43 = .ok (.ireturn, 1) := by decide +kernel
theorem dX6_wet_0 : decode cX6_wet 0 = .ok (.iconst 0, 1) := by decide +kernel
theorem dX6_wet_1 : decode cX6_wet 1 = .ok (.istore_n 1, 1) := by decide +kernel
theorem dX6_wet_2 : decode cX6_wet 2 = .ok (.iconst 0, 1) := by decide +kernel
theorem dX6_wet_3 : decode cX6_wet 3 = .ok (.istore_n 2, 1) := by decide +kernel
theorem dX6_wet_4 : decode cX6_wet 4 = .ok (.iload_n 2, 1) := by decide +kernel
theorem dX6_wet_5 : decode cX6_wet 5 = .ok (.aload_n 0, 1) := by decide +kernel
theorem dX6_wet_6 : decode cX6_wet 6 = .ok (.getfield 86, 3) := by decide +kernel
theorem dX6_wet_9 : decode cX6_wet 9 = .ok (.if_icmp .ge 32, 3) := by decide +kernel
theorem dX6_wet_12 : decode cX6_wet 12 = .ok (.iload_n 1, 1) := by decide +kernel
theorem dX6_wet_13 : decode cX6_wet 13 = .ok (.aload_n 0, 1) := by decide +kernel
theorem dX6_wet_14 : decode cX6_wet 14 = .ok (.aload_n 0, 1) := by decide +kernel
theorem dX6_wet_15 : decode cX6_wet 15 = .ok (.getfield 25, 3) := by decide +kernel
theorem dX6_wet_18 : decode cX6_wet 18 = .ok (.iload_n 2, 1) := by decide +kernel
theorem dX6_wet_19 : decode cX6_wet 19 = .ok (.iaload, 1) := by decide +kernel
theorem dX6_wet_20 : decode cX6_wet 20 = .ok (.invokevirtual 127, 3) := by decide +kernel
theorem dX6_wet_23 : decode cX6_wet 23 = .ok (.ifCond .eq 9, 3) := by decide +kernel
theorem dX6_wet_26 : decode cX6_wet 26 = .ok (.iconst 1, 1) := by decide +kernel
theorem dX6_wet_27 : decode cX6_wet 27 = .ok (.iload_n 2, 1) := by decide +kernel
theorem dX6_wet_28 : decode cX6_wet 28 = .ok (.ishl, 1) := by decide +kernel
theorem dX6_wet_29 : decode cX6_wet 29 = .ok (.goto 4, 3) := by decide +kernel
theorem dX6_wet_32 : decode cX6_wet 32 = .ok (.iconst 0, 1) := by decide +kernel
theorem dX6_wet_33 : decode cX6_wet 33 = .ok (.ior, 1) := by decide +kernel
theorem dX6_wet_34 : decode cX6_wet 34 = .ok (.istore_n 1, 1) := by decide +kernel
theorem dX6_wet_35 : decode cX6_wet 35 = .ok (.iinc 2 1, 3) := by decide +kernel
theorem dX6_wet_38 : decode cX6_wet 38 = .ok (.goto (-34), 3) := by decide +kernel
theorem dX6_wet_41 : decode cX6_wet 41 = .ok (.iload_n 1, 1) := by decide +kernel
theorem dX6_wet_42 : decode cX6_wet 42 = .ok (.ireturn, 1) := by decide +kernel
theorem dX6_crowd_0 : decode cX6_crowd 0 = .ok (.aload_n 0, 1) := by decide +kernel
theorem dX6_crowd_1 : decode cX6_crowd 1 = .ok (.getfield 89, 3) := by decide +kernel
theorem dX6_crowd_4 : decode cX6_crowd 4 = .ok (.ifCond .ne 6, 3) := by decide +kernel
theorem dX6_crowd_7 : decode cX6_crowd 7 = .ok (.bipush (-9), 2) := by decide +kernel
theorem dX6_crowd_9 : decode cX6_crowd 9 = .ok (.ireturn, 1) := by decide +kernel
theorem dX6_crowd_10 : decode cX6_crowd 10 = .ok (.iconst 0, 1) := by decide +kernel
theorem dX6_crowd_11 : decode cX6_crowd 11 = .ok (.istore_n 1, 1) := by decide +kernel
theorem dX6_crowd_12 : decode cX6_crowd 12 = .ok (.iconst 1, 1) := by decide +kernel
theorem dX6_crowd_13 : decode cX6_crowd 13 = .ok (.istore_n 2, 1) := by decide +kernel
theorem dX6_crowd_14 : decode cX6_crowd 14 = .ok (.iload_n 2, 1) := by decide +kernel
theorem dX6_crowd_15 : decode cX6_crowd 15 = .ok (.bipush 24, 2) := by decide +kernel
theorem dX6_crowd_17 : decode cX6_crowd 17 = .ok (.if_icmp .ge 48, 3) := by decide +kernel
theorem dX6_crowd_20 : decode cX6_crowd 20 = .ok (.aload_n 0, 1) := by decide +kernel
theorem dX6_crowd_21 : decode cX6_crowd 21 = .ok (.getfield 40, 3) := by decide +kernel
theorem dX6_crowd_24 : decode cX6_crowd 24 = .ok (.aload_n 0, 1) := by decide +kernel
theorem dX6_crowd_25 : decode cX6_crowd 25 = .ok (.getfield 89, 3) := by decide +kernel
theorem dX6_crowd_28 : decode cX6_crowd 28 = .ok (.iload_n 2, 1) := by decide +kernel
theorem dX6_crowd_29 : decode cX6_crowd 29 = .ok (.invokestatic 270, 3) := by decide +kernel
theorem dX6_crowd_32 : decode cX6_crowd 32 = .ok (.invokestatic 298, 3) := by decide +kernel
theorem dX6_crowd_35 : decode cX6_crowd 35 = .ok (.aload_n 0, 1) := by decide +kernel
theorem dX6_crowd_36 : decode cX6_crowd 36 = .ok (.getfield 40, 3) := by decide +kernel
theorem dX6_crowd_39 : decode cX6_crowd 39 = .ok (.aload_n 0, 1) := by decide +kernel
theorem dX6_crowd_40 : decode cX6_crowd 40 = .ok (.getfield 89, 3) := by decide +kernel
theorem dX6_crowd_43 : decode cX6_crowd 43 = .ok (.iload_n 1, 1) := by decide +kernel
theorem dX6_crowd_44 : decode cX6_crowd 44 = .ok (.invokestatic 270, 3) := by decide +kernel
theorem dX6_crowd_47 : decode cX6_crowd 47 = .ok (.invokestatic 298, 3) := by decide +kernel
theorem dX6_crowd_50 : decode cX6_crowd 50 = .ok (.if_icmp .le 7, 3) := by decide +kernel
theorem dX6_crowd_53 : decode cX6_crowd 53 = .ok (.iload_n 2, 1) := by decide +kernel
theorem dX6_crowd_54 : decode cX6_crowd 54 = .ok (.goto 4, 3) := by decide +kernel
theorem dX6_crowd_57 : decode cX6_crowd 57 = .ok (.iload_n 1, 1) := by decide +kernel
theorem dX6_crowd_58 : decode cX6_crowd 58 = .ok (.istore_n 1, 1) := by decide +kernel
theorem dX6_crowd_59 : decode cX6_crowd 59 = .ok (.iinc 2 1, 3) := by decide +kernel
theorem dX6_crowd_62 : decode cX6_crowd 62 = .ok (.goto (-48), 3) := by decide +kernel
theorem dX6_crowd_65 : decode cX6_crowd 65 = .ok (.iload_n 1, 1) := by decide +kernel
theorem dX6_crowd_66 : decode cX6_crowd 66 = .ok (.ireturn, 1) := by decide +kernel
theorem dX6_alike_0 : decode cX6_alike 0 = .ok (.aload_n 0, 1) := by decide +kernel
theorem dX6_alike_1 : decode cX6_alike 1 = .ok (.invokevirtual 286, 3) := by decide +kernel
theorem dX6_alike_4 : decode cX6_alike 4 = .ok (.invokestatic 298, 3) := by decide +kernel
theorem dX6_alike_7 : decode cX6_alike 7 = .ok (.istore_n 1, 1) := by decide +kernel
theorem dX6_alike_8 : decode cX6_alike 8 = .ok (.iconst 0, 1) := by decide +kernel
theorem dX6_alike_9 : decode cX6_alike 9 = .ok (.istore_n 2, 1) := by decide +kernel
theorem dX6_alike_10 : decode cX6_alike 10 = .ok (.aload_n 0, 1) := by decide +kernel
theorem dX6_alike_11 : decode cX6_alike 11 = .ok (.invokevirtual 280, 3) := by decide +kernel
theorem dX6_alike_14 : decode cX6_alike 14 = .ok (.iconst 0, 1) := by decide +kernel
theorem dX6_alike_15 : decode cX6_alike 15 = .ok (.istore_n 3, 1) := by decide +kernel
theorem dX6_alike_16 : decode cX6_alike 16 = .ok (.iload_n 3, 1) := by decide +kernel
theorem dX6_alike_17 : decode cX6_alike 17 = .ok (.bipush 60, 2) := by decide +kernel
theorem dX6_alike_19 : decode cX6_alike 19 = .ok (.if_icmp .ge 32, 3) := by decide +kernel
theorem dX6_alike_22 : decode cX6_alike 22 = .ok (.aload_n 0, 1) := by decide +kernel
theorem dX6_alike_23 : decode cX6_alike 23 = .ok (.invokevirtual 162, 3) := by decide +kernel
theorem dX6_alike_26 : decode cX6_alike 26 = .ok (.iload_n 2, 1) := by decide +kernel
theorem dX6_alike_27 : decode cX6_alike 27 = .ok (.aload_n 0, 1) := by decide +kernel
theorem dX6_alike_28 : decode cX6_alike 28 = .ok (.invokevirtual 286, 3) := by decide +kernel
theorem dX6_alike_31 : decode cX6_alike 31 = .ok (.invokestatic 298, 3) := by decide +kernel
theorem dX6_alike_34 : decode cX6_alike 34 = .ok (.iload_n 1, 1) := by decide +kernel
theorem dX6_alike_35 : decode cX6_alike 35 = .ok (.if_icmp .ne 7, 3) := by decide +kernel
theorem dX6_alike_38 : decode cX6_alike 38 = .ok (.iconst 1, 1) := by decide +kernel
theorem dX6_alike_39 : decode cX6_alike 39 = .ok (.goto 4, 3) := by decide +kernel
theorem dX6_alike_42 : decode cX6_alike 42 = .ok (.iconst 0, 1) := by decide +kernel
theorem dX6_alike_43 : decode cX6_alike 43 = .ok (.iadd, 1) := by decide +kernel
theorem dX6_alike_44 : decode cX6_alike 44 = .ok (.istore_n 2, 1) := by decide +kernel
theorem dX6_alike_45 : decode cX6_alike 45 = .ok (.iinc 3 1, 3) := by decide +kernel
theorem dX6_alike_48 : decode cX6_alike 48 = .ok (.goto (-32), 3) := by decide +kernel
theorem dX6_alike_51 : decode cX6_alike 51 = .ok (.aload_n 0, 1) := by decide +kernel
theorem dX6_alike_52 : decode cX6_alike 52 = .ok (.invokevirtual 283, 3) := by decide +kernel
theorem dX6_alike_55 : decode cX6_alike 55 = .ok (.iload_n 2, 1) := by decide +kernel
theorem dX6_alike_56 : decode cX6_alike 56 = .ok (.ireturn, 1) := by decide +kernel
theorem dX6_sight_0 : decode cX6_sight 0 = .ok (.iload_n 1, 1) := by decide +kernel
theorem dX6_sight_1 : decode cX6_sight 1 = .ok (.tableswitch 60 0 4 #[35, 40, 45, 50, 55], 35) := by decide +kernel
theorem dX6_sight_36 : decode cX6_sight 36 = .ok (.aload_n 0, 1) := by decide +kernel
theorem dX6_sight_37 : decode cX6_sight 37 = .ok (.invokevirtual 345, 3) := by decide +kernel
theorem dX6_sight_40 : decode cX6_sight 40 = .ok (.ireturn, 1) := by decide +kernel
theorem dX6_sight_41 : decode cX6_sight 41 = .ok (.aload_n 0, 1) := by decide +kernel
theorem dX6_sight_42 : decode cX6_sight 42 = .ok (.invokevirtual 289, 3) := by decide +kernel
theorem dX6_sight_45 : decode cX6_sight 45 = .ok (.ireturn, 1) := by decide +kernel
theorem dX6_sight_46 : decode cX6_sight 46 = .ok (.aload_n 0, 1) := by decide +kernel
theorem dX6_sight_47 : decode cX6_sight 47 = .ok (.invokevirtual 348, 3) := by decide +kernel
theorem dX6_sight_50 : decode cX6_sight 50 = .ok (.ireturn, 1) := by decide +kernel
theorem dX6_sight_51 : decode cX6_sight 51 = .ok (.aload_n 0, 1) := by decide +kernel
theorem dX6_sight_52 : decode cX6_sight 52 = .ok (.invokevirtual 351, 3) := by decide +kernel
theorem dX6_sight_55 : decode cX6_sight 55 = .ok (.ireturn, 1) := by decide +kernel
theorem dX6_sight_56 : decode cX6_sight 56 = .ok (.aload_n 0, 1) := by decide +kernel
theorem dX6_sight_57 : decode cX6_sight 57 = .ok (.invokevirtual 354, 3) := by decide +kernel
theorem dX6_sight_60 : decode cX6_sight 60 = .ok (.ireturn, 1) := by decide +kernel
theorem dX6_sight_61 : decode cX6_sight 61 = .ok (.aload_n 0, 1) := by decide +kernel
theorem dX6_sight_62 : decode cX6_sight 62 = .ok (.bipush (-2), 2) := by decide +kernel
theorem dX6_sight_64 : decode cX6_sight 64 = .ok (.invokevirtual 172, 3) := by decide +kernel
theorem dX6_sight_67 : decode cX6_sight 67 = .ok (.ireturn, 1) := by decide +kernel
theorem dX6_kinds_0 : decode cX6_kinds 0 = .ok (.iload_n 1, 1) := by decide +kernel
theorem dX6_kinds_1 : decode cX6_kinds 1 = .ok (.iconst 0, 1) := by decide +kernel
theorem dX6_kinds_2 : decode cX6_kinds 2 = .ok (.bipush 7, 2) := by decide +kernel
theorem dX6_kinds_4 : decode cX6_kinds 4 = .ok (.invokestatic 82, 3) := by decide +kernel
theorem dX6_kinds_7 : decode cX6_kinds 7 = .ok (.ifCond .eq 21, 3) := by decide +kernel
theorem dX6_kinds_10 : decode cX6_kinds 10 = .ok (.aload_n 0, 1) := by decide +kernel
theorem dX6_kinds_11 : decode cX6_kinds 11 = .ok (.getfield 31, 3) := by decide +kernel
theorem dX6_kinds_14 : decode cX6_kinds 14 = .ok (.aload_n 0, 1) := by decide +kernel
theorem dX6_kinds_15 : decode cX6_kinds 15 = .ok (.getfield 89, 3) := by decide +kernel
theorem dX6_kinds_18 : decode cX6_kinds 18 = .ok (.iload_n 1, 1) := by decide +kernel
theorem dX6_kinds_19 : decode cX6_kinds 19 = .ok (.invokestatic 270, 3) := by decide +kernel
theorem dX6_kinds_22 : decode cX6_kinds 22 = .ok (.invokestatic 298, 3) := by decide +kernel
theorem dX6_kinds_25 : decode cX6_kinds 25 = .ok (.goto 9, 3) := by decide +kernel
theorem dX6_kinds_28 : decode cX6_kinds 28 = .ok (.aload_n 0, 1) := by decide +kernel
theorem dX6_kinds_29 : decode cX6_kinds 29 = .ok (.bipush (-2), 2) := by decide +kernel
theorem dX6_kinds_31 : decode cX6_kinds 31 = .ok (.invokevirtual 172, 3) := by decide +kernel
theorem dX6_kinds_34 : decode cX6_kinds 34 = .ok (.ireturn, 1) := by decide +kernel
theorem dX6_row_0 : decode cX6_row 0 = .ok (.iload_n 1, 1) := by decide +kernel
theorem dX6_row_1 : decode cX6_row 1 = .ok (.iconst 0, 1) := by decide +kernel
theorem dX6_row_2 : decode cX6_row 2 = .ok (.bipush 99, 2) := by decide +kernel
theorem dX6_row_4 : decode cX6_row 4 = .ok (.invokestatic 165, 3) := by decide +kernel
theorem dX6_row_7 : decode cX6_row 7 = .ok (.istore_n 2, 1) := by decide +kernel
theorem dX6_row_8 : decode cX6_row 8 = .ok (.iload_n 2, 1) := by decide +kernel
theorem dX6_row_9 : decode cX6_row 9 = .ok (.ifCond .ne 15, 3) := by decide +kernel
theorem dX6_row_12 : decode cX6_row 12 = .ok (.aload_n 0, 1) := by decide +kernel
theorem dX6_row_13 : decode cX6_row 13 = .ok (.getfield 305, 3) := by decide +kernel
theorem dX6_row_16 : decode cX6_row 16 = .ok (.bipush 12, 2) := by decide +kernel
theorem dX6_row_18 : decode cX6_row 18 = .ok (.if_icmp .ne 6, 3) := by decide +kernel
theorem dX6_row_21 : decode cX6_row 21 = .ok (.bipush (-6), 2) := by decide +kernel
theorem dX6_row_23 : decode cX6_row 23 = .ok (.istore_n 2, 1) := by decide +kernel
theorem dX6_row_24 : decode cX6_row 24 = .ok (.iload_n 2, 1) := by decide +kernel
theorem dX6_row_25 : decode cX6_row 25 = .ok (.ifCond .eq 9, 3) := by decide +kernel
theorem dX6_row_28 : decode cX6_row 28 = .ok (.aload_n 0, 1) := by decide +kernel
theorem dX6_row_29 : decode cX6_row 29 = .ok (.iload_n 2, 1) := by decide +kernel
theorem dX6_row_30 : decode cX6_row 30 = .ok (.invokevirtual 172, 3) := by decide +kernel
theorem dX6_row_33 : decode cX6_row 33 = .ok (.ireturn, 1) := by decide +kernel
theorem dX6_row_34 : decode cX6_row 34 = .ok (.aload_n 0, 1) := by decide +kernel
theorem dX6_row_35 : decode cX6_row 35 = .ok (.getfield 68, 3) := by decide +kernel
theorem dX6_row_38 : decode cX6_row 38 = .ok (.aload_n 0, 1) := by decide +kernel
theorem dX6_row_39 : decode cX6_row 39 = .ok (.getfield 305, 3) := by decide +kernel
theorem dX6_row_42 : decode cX6_row 42 = .ok (.iload_n 1, 1) := by decide +kernel
theorem dX6_row_43 : decode cX6_row 43 = .ok (.iastore, 1) := by decide +kernel
theorem dX6_row_44 : decode cX6_row 44 = .ok (.aload_n 0, 1) := by decide +kernel
theorem dX6_row_45 : decode cX6_row 45 = .ok (.dup, 1) := by decide +kernel
theorem dX6_row_46 : decode cX6_row 46 = .ok (.getfield 305, 3) := by decide +kernel
theorem dX6_row_49 : decode cX6_row 49 = .ok (.iconst 1, 1) := by decide +kernel
theorem dX6_row_50 : decode cX6_row 50 = .ok (.iadd, 1) := by decide +kernel
theorem dX6_row_51 : decode cX6_row 51 = .ok (.putfield 305, 3) := by decide +kernel
theorem dX6_row_54 : decode cX6_row 54 = .ok (.aload_n 0, 1) := by decide +kernel
theorem dX6_row_55 : decode cX6_row 55 = .ok (.getfield 305, 3) := by decide +kernel
theorem dX6_row_58 : decode cX6_row 58 = .ok (.ireturn, 1) := by decide +kernel
theorem dX6_judge_0 : decode cX6_judge 0 = .ok (.aload_n 0, 1) := by decide +kernel
theorem dX6_judge_1 : decode cX6_judge 1 = .ok (.getfield 305, 3) := by decide +kernel
theorem dX6_judge_4 : decode cX6_judge 4 = .ok (.istore_n 1, 1) := by decide +kernel
theorem dX6_judge_5 : decode cX6_judge 5 = .ok (.aload_n 0, 1) := by decide +kernel
theorem dX6_judge_6 : decode cX6_judge 6 = .ok (.iconst 0, 1) := by decide +kernel
theorem dX6_judge_7 : decode cX6_judge 7 = .ok (.putfield 305, 3) := by decide +kernel
theorem dX6_judge_10 : decode cX6_judge 10 = .ok (.iconst 0, 1) := by decide +kernel
theorem dX6_judge_11 : decode cX6_judge 11 = .ok (.istore_n 2, 1) := by decide +kernel
theorem dX6_judge_12 : decode cX6_judge 12 = .ok (.iload_n 2, 1) := by decide +kernel
theorem dX6_judge_13 : decode cX6_judge 13 = .ok (.iload_n 1, 1) := by decide +kernel
theorem dX6_judge_14 : decode cX6_judge 14 = .ok (.if_icmp .ge 48, 3) := by decide +kernel
theorem dX6_judge_17 : decode cX6_judge 17 = .ok (.aload_n 0, 1) := by decide +kernel
theorem dX6_judge_18 : decode cX6_judge 18 = .ok (.iload_n 2, 1) := by decide +kernel
theorem dX6_judge_19 : decode cX6_judge 19 = .ok (.invokevirtual 207, 3) := by decide +kernel
theorem dX6_judge_22 : decode cX6_judge 22 = .ok (.ifCond .eq 32, 3) := by decide +kernel
theorem dX6_judge_25 : decode cX6_judge 25 = .ok (.aload_n 0, 1) := by decide +kernel
theorem dX6_judge_26 : decode cX6_judge 26 = .ok (.getfield 28, 3) := by decide +kernel
theorem dX6_judge_29 : decode cX6_judge 29 = .ok (.iload_n 2, 1) := by decide +kernel
theorem dX6_judge_30 : decode cX6_judge 30 = .ok (.iaload, 1) := by decide +kernel
theorem dX6_judge_31 : decode cX6_judge 31 = .ok (.ifCond .ge 8, 3) := by decide +kernel
theorem dX6_judge_34 : decode cX6_judge 34 = .ok (.bipush 9, 2) := by decide +kernel
theorem dX6_judge_36 : decode cX6_judge 36 = .ok (.goto 9, 3) := by decide +kernel
theorem dX6_judge_39 : decode cX6_judge 39 = .ok (.aload_n 0, 1) := by decide +kernel
theorem dX6_judge_40 : decode cX6_judge 40 = .ok (.getfield 28, 3) := by decide +kernel
theorem dX6_judge_43 : decode cX6_judge 43 = .ok (.iload_n 2, 1) := by decide +kernel
theorem dX6_judge_44 : decode cX6_judge 44 = .ok (.iaload, 1) := by decide +kernel
theorem dX6_judge_45 : decode cX6_judge 45 = .ok (.aload_n 0, 1) := by decide +kernel
theorem dX6_judge_46 : decode cX6_judge 46 = .ok (.getfield 68, 3) := by decide +kernel
theorem dX6_judge_49 : decode cX6_judge 49 = .ok (.iload_n 2, 1) := by decide +kernel
theorem dX6_judge_50 : decode cX6_judge 50 = .ok (.iaload, 1) := by decide +kernel
theorem dX6_judge_51 : decode cX6_judge 51 = .ok (.if_icmp .eq 5, 3) := by decide +kernel
theorem dX6_judge_54 : decode cX6_judge 54 = .ok (.iload_n 2, 1) := by decide +kernel
theorem dX6_judge_55 : decode cX6_judge 55 = .ok (.ireturn, 1) := by decide +kernel
theorem dX6_judge_56 : decode cX6_judge 56 = .ok (.iinc 2 1, 3) := by decide +kernel
theorem dX6_judge_59 : decode cX6_judge 59 = .ok (.goto (-47), 3) := by decide +kernel
theorem dX6_judge_62 : decode cX6_judge 62 = .ok (.bipush (-9), 2) := by decide +kernel
theorem dX6_judge_64 : decode cX6_judge 64 = .ok (.ireturn, 1) := by decide +kernel
theorem dX6_clear_0 : decode cX6_clear 0 = .ok (.aload_n 0, 1) := by decide +kernel
theorem dX6_clear_1 : decode cX6_clear 1 = .ok (.getfield 305, 3) := by decide +kernel
theorem dX6_clear_4 : decode cX6_clear 4 = .ok (.istore_n 1, 1) := by decide +kernel
theorem dX6_clear_5 : decode cX6_clear 5 = .ok (.aload_n 0, 1) := by decide +kernel
theorem dX6_clear_6 : decode cX6_clear 6 = .ok (.iconst 0, 1) := by decide +kernel
theorem dX6_clear_7 : decode cX6_clear 7 = .ok (.putfield 305, 3) := by decide +kernel
theorem dX6_clear_10 : decode cX6_clear 10 = .ok (.iload_n 1, 1) := by decide +kernel
theorem dX6_clear_11 : decode cX6_clear 11 = .ok (.ireturn, 1) := by decide +kernel
theorem dX6_draw_0 : decode cX6_draw 0 = .ok (.aload_n 0, 1) := by decide +kernel
theorem dX6_draw_1 : decode cX6_draw 1 = .ok (.aload_n 0, 1) := by decide +kernel
theorem dX6_draw_2 : decode cX6_draw 2 = .ok (.getfield 357, 3) := by decide +kernel
theorem dX6_draw_5 : decode cX6_draw 5 = .ok (.ldc_w 360, 3) := by decide +kernel
theorem dX6_draw_8 : decode cX6_draw 8 = .ok (.imul, 1) := by decide +kernel
theorem dX6_draw_9 : decode cX6_draw 9 = .ok (.sipush 12345, 3) := by decide +kernel
theorem dX6_draw_12 : decode cX6_draw 12 = .ok (.iadd, 1) := by decide +kernel
theorem dX6_draw_13 : decode cX6_draw 13 = .ok (.putfield 357, 3) := by decide +kernel
theorem dX6_draw_16 : decode cX6_draw 16 = .ok (.aload_n 0, 1) := by decide +kernel
theorem dX6_draw_17 : decode cX6_draw 17 = .ok (.getfield 357, 3) := by decide +kernel
theorem dX6_draw_20 : decode cX6_draw 20 = .ok (.ldc_w 361, 3) := by decide +kernel
theorem dX6_draw_23 : decode cX6_draw 23 = .ok (.iand, 1) := by decide +kernel
theorem dX6_draw_24 : decode cX6_draw 24 = .ok (.ldc_w 362, 3) := by decide +kernel
theorem dX6_draw_27 : decode cX6_draw 27 = .ok (.idiv, 1) := by decide +kernel
theorem dX6_draw_28 : decode cX6_draw 28 = .ok (.iload_n 1, 1) := by decide +kernel
theorem dX6_draw_29 : decode cX6_draw 29 = .ok (.irem, 1) := by decide +kernel
theorem dX6_draw_30 : decode cX6_draw 30 = .ok (.ireturn, 1) := by decide +kernel
theorem dX6_worthsOwned_0 : decode cX6_worthsOwned 0 = .ok (.iconst 0, 1) := by decide +kernel
theorem dX6_worthsOwned_1 : decode cX6_worthsOwned 1 = .ok (.istore_n 1, 1) := by decide +kernel
theorem dX6_worthsOwned_2 : decode cX6_worthsOwned 2 = .ok (.iconst 0, 1) := by decide +kernel
theorem dX6_worthsOwned_3 : decode cX6_worthsOwned 3 = .ok (.istore_n 2, 1) := by decide +kernel
theorem dX6_worthsOwned_4 : decode cX6_worthsOwned 4 = .ok (.iload_n 2, 1) := by decide +kernel
theorem dX6_worthsOwned_5 : decode cX6_worthsOwned 5 = .ok (.aload_n 0, 1) := by decide +kernel
theorem dX6_worthsOwned_6 : decode cX6_worthsOwned 6 = .ok (.getfield 86, 3) := by decide +kernel
theorem dX6_worthsOwned_9 : decode cX6_worthsOwned 9 = .ok (.if_icmp .ge 31, 3) := by decide +kernel
theorem dX6_worthsOwned_12 : decode cX6_worthsOwned 12 = .ok (.iload_n 1, 1) := by decide +kernel
theorem dX6_worthsOwned_13 : decode cX6_worthsOwned 13 = .ok (.aload_n 0, 1) := by decide +kernel
theorem dX6_worthsOwned_14 : decode cX6_worthsOwned 14 = .ok (.getfield 28, 3) := by decide +kernel
theorem dX6_worthsOwned_17 : decode cX6_worthsOwned 17 = .ok (.iload_n 2, 1) := by decide +kernel
theorem dX6_worthsOwned_18 : decode cX6_worthsOwned 18 = .ok (.iaload, 1) := by decide +kernel
theorem dX6_worthsOwned_19 : decode cX6_worthsOwned 19 = .ok (.ifCond .lt 12, 3) := by decide +kernel
theorem dX6_worthsOwned_22 : decode cX6_worthsOwned 22 = .ok (.aload_n 0, 1) := by decide +kernel
theorem dX6_worthsOwned_23 : decode cX6_worthsOwned 23 = .ok (.getfield 22, 3) := by decide +kernel
theorem dX6_worthsOwned_26 : decode cX6_worthsOwned 26 = .ok (.iload_n 2, 1) := by decide +kernel
theorem dX6_worthsOwned_27 : decode cX6_worthsOwned 27 = .ok (.iaload, 1) := by decide +kernel
theorem dX6_worthsOwned_28 : decode cX6_worthsOwned 28 = .ok (.goto 4, 3) := by decide +kernel
theorem dX6_worthsOwned_31 : decode cX6_worthsOwned 31 = .ok (.iconst 0, 1) := by decide +kernel
theorem dX6_worthsOwned_32 : decode cX6_worthsOwned 32 = .ok (.iadd, 1) := by decide +kernel
theorem dX6_worthsOwned_33 : decode cX6_worthsOwned 33 = .ok (.istore_n 1, 1) := by decide +kernel
theorem dX6_worthsOwned_34 : decode cX6_worthsOwned 34 = .ok (.iinc 2 1, 3) := by decide +kernel
theorem dX6_worthsOwned_37 : decode cX6_worthsOwned 37 = .ok (.goto (-33), 3) := by decide +kernel
theorem dX6_worthsOwned_40 : decode cX6_worthsOwned 40 = .ok (.iload_n 1, 1) := by decide +kernel
theorem dX6_worthsOwned_41 : decode cX6_worthsOwned 41 = .ok (.ireturn, 1) := by decide +kernel
theorem dX6_liesByLot_0 : decode cX6_liesByLot 0 = .ok (.iconst 0, 1) := by decide +kernel
theorem dX6_liesByLot_1 : decode cX6_liesByLot 1 = .ok (.istore_n 1, 1) := by decide +kernel
theorem dX6_liesByLot_2 : decode cX6_liesByLot 2 = .ok (.iload_n 1, 1) := by decide +kernel
theorem dX6_liesByLot_3 : decode cX6_liesByLot 3 = .ok (.aload_n 0, 1) := by decide +kernel
theorem dX6_liesByLot_4 : decode cX6_liesByLot 4 = .ok (.getfield 86, 3) := by decide +kernel
theorem dX6_liesByLot_7 : decode cX6_liesByLot 7 = .ok (.if_icmp .ge 29, 3) := by decide +kernel
theorem dX6_liesByLot_10 : decode cX6_liesByLot 10 = .ok (.aload_n 0, 1) := by decide +kernel
theorem dX6_liesByLot_11 : decode cX6_liesByLot 11 = .ok (.getfield 25, 3) := by decide +kernel
theorem dX6_liesByLot_14 : decode cX6_liesByLot 14 = .ok (.iload_n 1, 1) := by decide +kernel
theorem dX6_liesByLot_15 : decode cX6_liesByLot 15 = .ok (.aload_n 0, 1) := by decide +kernel
theorem dX6_liesByLot_16 : decode cX6_liesByLot 16 = .ok (.bipush 24, 2) := by decide +kernel
theorem dX6_liesByLot_18 : decode cX6_liesByLot 18 = .ok (.invokevirtual 363, 3) := by decide +kernel
theorem dX6_liesByLot_21 : decode cX6_liesByLot 21 = .ok (.iastore, 1) := by decide +kernel
theorem dX6_liesByLot_22 : decode cX6_liesByLot 22 = .ok (.aload_n 0, 1) := by decide +kernel
theorem dX6_liesByLot_23 : decode cX6_liesByLot 23 = .ok (.getfield 28, 3) := by decide +kernel
theorem dX6_liesByLot_26 : decode cX6_liesByLot 26 = .ok (.iload_n 1, 1) := by decide +kernel
theorem dX6_liesByLot_27 : decode cX6_liesByLot 27 = .ok (.bipush (-9), 2) := by decide +kernel
theorem dX6_liesByLot_29 : decode cX6_liesByLot 29 = .ok (.iastore, 1) := by decide +kernel
theorem dX6_liesByLot_30 : decode cX6_liesByLot 30 = .ok (.iinc 1 1, 3) := by decide +kernel
theorem dX6_liesByLot_33 : decode cX6_liesByLot 33 = .ok (.goto (-31), 3) := by decide +kernel
theorem dX6_liesByLot_36 : decode cX6_liesByLot 36 = .ok (.return_, 1) := by decide +kernel
theorem dX6_lots_0 : decode cX6_lots 0 = .ok (.iload_n 1, 1) := by decide +kernel
theorem dX6_lots_1 : decode cX6_lots 1 = .ok (.iconst 1, 1) := by decide +kernel
theorem dX6_lots_2 : decode cX6_lots 2 = .ok (.bipush 20, 2) := by decide +kernel
theorem dX6_lots_4 : decode cX6_lots 4 = .ok (.invokestatic 165, 3) := by decide +kernel
theorem dX6_lots_7 : decode cX6_lots 7 = .ok (.istore 4, 2) := by decide +kernel
theorem dX6_lots_9 : decode cX6_lots 9 = .ok (.iload 4, 2) := by decide +kernel
theorem dX6_lots_11 : decode cX6_lots 11 = .ok (.ifCond .ne 16, 3) := by decide +kernel
theorem dX6_lots_14 : decode cX6_lots 14 = .ok (.iload_n 3, 1) := by decide +kernel
theorem dX6_lots_15 : decode cX6_lots 15 = .ok (.iconst 0, 1) := by decide +kernel
theorem dX6_lots_16 : decode cX6_lots 16 = .ok (.iconst 1, 1) := by decide +kernel
theorem dX6_lots_17 : decode cX6_lots 17 = .ok (.invokestatic 82, 3) := by decide +kernel
theorem dX6_lots_20 : decode cX6_lots 20 = .ok (.ifCond .ne 7, 3) := by decide +kernel
theorem dX6_lots_23 : decode cX6_lots 23 = .ok (.bipush (-2), 2) := by decide +kernel
theorem dX6_lots_25 : decode cX6_lots 25 = .ok (.istore 4, 2) := by decide +kernel
theorem dX6_lots_27 : decode cX6_lots 27 = .ok (.iload 4, 2) := by decide +kernel
theorem dX6_lots_29 : decode cX6_lots 29 = .ok (.ifCond .eq 10, 3) := by decide +kernel
theorem dX6_lots_32 : decode cX6_lots 32 = .ok (.aload_n 0, 1) := by decide +kernel
theorem dX6_lots_33 : decode cX6_lots 33 = .ok (.iload 4, 2) := by decide +kernel
theorem dX6_lots_35 : decode cX6_lots 35 = .ok (.invokevirtual 172, 3) := by decide +kernel
theorem dX6_lots_38 : decode cX6_lots 38 = .ok (.ireturn, 1) := by decide +kernel
theorem dX6_lots_39 : decode cX6_lots 39 = .ok (.aload_n 0, 1) := by decide +kernel
theorem dX6_lots_40 : decode cX6_lots 40 = .ok (.iload_n 2, 1) := by decide +kernel
theorem dX6_lots_41 : decode cX6_lots 41 = .ok (.putfield 357, 3) := by decide +kernel
theorem dX6_lots_44 : decode cX6_lots 44 = .ok (.iconst 0, 1) := by decide +kernel
theorem dX6_lots_45 : decode cX6_lots 45 = .ok (.istore 5, 2) := by decide +kernel
theorem dX6_lots_47 : decode cX6_lots 47 = .ok (.iconst 0, 1) := by decide +kernel
theorem dX6_lots_48 : decode cX6_lots 48 = .ok (.istore 6, 2) := by decide +kernel
theorem dX6_lots_50 : decode cX6_lots 50 = .ok (.iload 6, 2) := by decide +kernel
theorem dX6_lots_52 : decode cX6_lots 52 = .ok (.iload_n 1, 1) := by decide +kernel
theorem dX6_lots_53 : decode cX6_lots 53 = .ok (.if_icmp .ge 47, 3) := by decide +kernel
theorem dX6_lots_56 : decode cX6_lots 56 = .ok (.aload_n 0, 1) := by decide +kernel
theorem dX6_lots_57 : decode cX6_lots 57 = .ok (.invokevirtual 280, 3) := by decide +kernel
theorem dX6_lots_60 : decode cX6_lots 60 = .ok (.aload_n 0, 1) := by decide +kernel
theorem dX6_lots_61 : decode cX6_lots 61 = .ok (.invokevirtual 366, 3) := by decide +kernel
theorem dX6_lots_64 : decode cX6_lots 64 = .ok (.aload_n 0, 1) := by decide +kernel
theorem dX6_lots_65 : decode cX6_lots 65 = .ok (.bipush 10, 2) := by decide +kernel
theorem dX6_lots_67 : decode cX6_lots 67 = .ok (.invokevirtual 210, 3) := by decide +kernel
theorem dX6_lots_70 : decode cX6_lots 70 = .ok (.iload 5, 2) := by decide +kernel
theorem dX6_lots_72 : decode cX6_lots 72 = .ok (.iload_n 3, 1) := by decide +kernel
theorem dX6_lots_73 : decode cX6_lots 73 = .ok (.ifCond .ne 10, 3) := by decide +kernel
theorem dX6_lots_76 : decode cX6_lots 76 = .ok (.aload_n 0, 1) := by decide +kernel
theorem dX6_lots_77 : decode cX6_lots 77 = .ok (.invokevirtual 277, 3) := by decide +kernel
theorem dX6_lots_80 : decode cX6_lots 80 = .ok (.goto 7, 3) := by decide +kernel
theorem dX6_lots_83 : decode cX6_lots 83 = .ok (.aload_n 0, 1) := by decide +kernel
theorem dX6_lots_84 : decode cX6_lots 84 = .ok (.invokevirtual 369, 3) := by decide +kernel
theorem dX6_lots_87 : decode cX6_lots 87 = .ok (.iadd, 1) := by decide +kernel
theorem dX6_lots_88 : decode cX6_lots 88 = .ok (.istore 5, 2) := by decide +kernel
theorem dX6_lots_90 : decode cX6_lots 90 = .ok (.aload_n 0, 1) := by decide +kernel
theorem dX6_lots_91 : decode cX6_lots 91 = .ok (.invokevirtual 283, 3) := by decide +kernel
theorem dX6_lots_94 : decode cX6_lots 94 = .ok (.iinc 6 1, 3) := by decide +kernel
theorem dX6_lots_97 : decode cX6_lots 97 = .ok (.goto (-47), 3) := by decide +kernel
theorem dX6_lots_100 : decode cX6_lots 100 = .ok (.iload 5, 2) := by decide +kernel
theorem dX6_lots_102 : decode cX6_lots 102 = .ok (.ireturn, 1) := by decide +kernel
theorem dX6_count_0 : decode cX6_count 0 = .ok (.iload_n 1, 1) := by decide +kernel
theorem dX6_count_1 : decode cX6_count 1 = .ok (.bipush 11, 2) := by decide +kernel
theorem dX6_count_3 : decode cX6_count 3 = .ok (.bipush 16, 2) := by decide +kernel
theorem dX6_count_5 : decode cX6_count 5 = .ok (.invokestatic 82, 3) := by decide +kernel
theorem dX6_count_8 : decode cX6_count 8 = .ok (.ifCond .eq 13, 3) := by decide +kernel
theorem dX6_count_11 : decode cX6_count 11 = .ok (.aload_n 0, 1) := by decide +kernel
theorem dX6_count_12 : decode cX6_count 12 = .ok (.getfield 7, 3) := by decide +kernel
theorem dX6_count_15 : decode cX6_count 15 = .ok (.iload_n 1, 1) := by decide +kernel
theorem dX6_count_16 : decode cX6_count 16 = .ok (.bipush 10, 2) := by decide +kernel
theorem dX6_count_18 : decode cX6_count 18 = .ok (.isub, 1) := by decide +kernel
theorem dX6_count_19 : decode cX6_count 19 = .ok (.iaload, 1) := by decide +kernel
theorem dX6_count_20 : decode cX6_count 20 = .ok (.ireturn, 1) := by decide +kernel
theorem dX6_count_21 : decode cX6_count 21 = .ok (.iload_n 1, 1) := by decide +kernel
theorem dX6_count_22 : decode cX6_count 22 = .ok (.tableswitch 104 0 9 #[54, 59, 64, 69, 74, 79, 84, 89, 94, 99], 54) := by decide +kernel
