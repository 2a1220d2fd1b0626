theorem dX5_sun_101 : decode cX5_sun 101 = .ok (.iload 8, 2) := by decide +kernel
theorem dX5_sun_103 : decode cX5_sun 103 = .ok (.invokevirtual 264, 3) := by decide +kernel
theorem dX5_sun_106 : decode cX5_sun 106 = .ok (.ifCond .eq 23, 3) := by decide +kernel
theorem dX5_sun_109 : decode cX5_sun 109 = .ok (.lload 6, 2) := by decide +kernel
theorem dX5_sun_111 : decode cX5_sun 111 = .ok (.iload 4, 2) := by decide +kernel
theorem dX5_sun_113 : decode cX5_sun 113 = .ok (.iconst 1, 1) := by decide +kernel
theorem dX5_sun_114 : decode cX5_sun 114 = .ok (.isub, 1) := by decide +kernel
theorem dX5_sun_115 : decode cX5_sun 115 = .ok (.i2l, 1) := by decide +kernel
theorem dX5_sun_116 : decode cX5_sun 116 = .ok (.iload_n 3, 1) := by decide +kernel
theorem dX5_sun_117 : decode cX5_sun 117 = .ok (.iload 8, 2) := by decide +kernel
theorem dX5_sun_119 : decode cX5_sun 119 = .ok (.invokestatic 242, 3) := by decide +kernel
theorem dX5_sun_122 : decode cX5_sun 122 = .ok (.isub, 1) := by decide +kernel
theorem dX5_sun_123 : decode cX5_sun 123 = .ok (.invokestatic 268, 3) := by decide +kernel
theorem dX5_sun_126 : decode cX5_sun 126 = .ok (.ladd, 1) := by decide +kernel
theorem dX5_sun_127 : decode cX5_sun 127 = .ok (.lstore 6, 2) := by decide +kernel
theorem dX5_sun_129 : decode cX5_sun 129 = .ok (.iinc 8 1, 3) := by decide +kernel
theorem dX5_sun_132 : decode cX5_sun 132 = .ok (.goto (-43), 3) := by decide +kernel
theorem dX5_sun_135 : decode cX5_sun 135 = .ok (.lload 6, 2) := by decide +kernel
theorem dX5_sun_137 : decode cX5_sun 137 = .ok (.iload 4, 2) := by decide +kernel
theorem dX5_sun_139 : decode cX5_sun 139 = .ok (.i2l, 1) := by decide +kernel
theorem dX5_sun_140 : decode cX5_sun 140 = .ok (.iload_n 3, 1) := by decide +kernel
theorem dX5_sun_141 : decode cX5_sun 141 = .ok (.invokestatic 268, 3) := by decide +kernel
theorem dX5_sun_144 : decode cX5_sun 144 = .ok (.iload 5, 2) := by decide +kernel
theorem dX5_sun_146 : decode cX5_sun 146 = .ok (.invokestatic 272, 3) := by decide +kernel
theorem dX5_sun_149 : decode cX5_sun 149 = .ok (.lreturn, 1) := by decide +kernel
theorem dX5_isOwnedBehind_0 : decode cX5_isOwnedBehind 0 = .ok (.aload_n 0, 1) := by decide +kernel
theorem dX5_isOwnedBehind_1 : decode cX5_isOwnedBehind 1 = .ok (.getfield 50, 3) := by decide +kernel
theorem dX5_isOwnedBehind_4 : decode cX5_isOwnedBehind 4 = .ok (.aload_n 0, 1) := by decide +kernel
theorem dX5_isOwnedBehind_5 : decode cX5_isOwnedBehind 5 = .ok (.getfield 10, 3) := by decide +kernel
theorem dX5_isOwnedBehind_8 : decode cX5_isOwnedBehind 8 = .ok (.invokevirtual 67, 3) := by decide +kernel
theorem dX5_isOwnedBehind_11 : decode cX5_isOwnedBehind 11 = .ok (.iconst 0, 1) := by decide +kernel
theorem dX5_isOwnedBehind_12 : decode cX5_isOwnedBehind 12 = .ok (.istore 5, 2) := by decide +kernel
theorem dX5_isOwnedBehind_14 : decode cX5_isOwnedBehind 14 = .ok (.iload 5, 2) := by decide +kernel
theorem dX5_isOwnedBehind_16 : decode cX5_isOwnedBehind 16 = .ok (.iload_n 3, 1) := by decide +kernel
theorem dX5_isOwnedBehind_17 : decode cX5_isOwnedBehind 17 = .ok (.if_icmp .ge 39, 3) := by decide +kernel
theorem dX5_isOwnedBehind_20 : decode cX5_isOwnedBehind 20 = .ok (.aload_n 0, 1) := by decide +kernel
theorem dX5_isOwnedBehind_21 : decode cX5_isOwnedBehind 21 = .ok (.getfield 50, 3) := by decide +kernel
theorem dX5_isOwnedBehind_24 : decode cX5_isOwnedBehind 24 = .ok (.iload 4, 2) := by decide +kernel
theorem dX5_isOwnedBehind_26 : decode cX5_isOwnedBehind 26 = .ok (.iload 5, 2) := by decide +kernel
theorem dX5_isOwnedBehind_28 : decode cX5_isOwnedBehind 28 = .ok (.ishr, 1) := by decide +kernel
theorem dX5_isOwnedBehind_29 : decode cX5_isOwnedBehind 29 = .ok (.iconst 1, 1) := by decide +kernel
theorem dX5_isOwnedBehind_30 : decode cX5_isOwnedBehind 30 = .ok (.iand, 1) := by decide +kernel
theorem dX5_isOwnedBehind_31 : decode cX5_isOwnedBehind 31 = .ok (.ifCond .eq 7, 3) := by decide +kernel
theorem dX5_isOwnedBehind_34 : decode cX5_isOwnedBehind 34 = .ok (.iconst 1, 1) := by decide +kernel
theorem dX5_isOwnedBehind_35 : decode cX5_isOwnedBehind 35 = .ok (.goto 4, 3) := by decide +kernel
theorem dX5_isOwnedBehind_38 : decode cX5_isOwnedBehind 38 = .ok (.iconst 0, 1) := by decide +kernel
theorem dX5_isOwnedBehind_39 : decode cX5_isOwnedBehind 39 = .ok (.putfield 276, 3) := by decide +kernel
theorem dX5_isOwnedBehind_42 : decode cX5_isOwnedBehind 42 = .ok (.aload_n 0, 1) := by decide +kernel
theorem dX5_isOwnedBehind_43 : decode cX5_isOwnedBehind 43 = .ok (.getfield 50, 3) := by decide +kernel
theorem dX5_isOwnedBehind_46 : decode cX5_isOwnedBehind 46 = .ok (.iconst 1, 1) := by decide +kernel
theorem dX5_isOwnedBehind_47 : decode cX5_isOwnedBehind 47 = .ok (.invokevirtual 119, 3) := by decide +kernel
theorem dX5_isOwnedBehind_50 : decode cX5_isOwnedBehind 50 = .ok (.iinc 5 1, 3) := by decide +kernel
theorem dX5_isOwnedBehind_53 : decode cX5_isOwnedBehind 53 = .ok (.goto (-39), 3) := by decide +kernel
theorem dX5_isOwnedBehind_56 : decode cX5_isOwnedBehind 56 = .ok (.aload_n 0, 1) := by decide +kernel
theorem dX5_isOwnedBehind_57 : decode cX5_isOwnedBehind 57 = .ok (.getfield 50, 3) := by decide +kernel
theorem dX5_isOwnedBehind_60 : decode cX5_isOwnedBehind 60 = .ok (.getfield 81, 3) := by decide +kernel
theorem dX5_isOwnedBehind_63 : decode cX5_isOwnedBehind 63 = .ok (.getfield 168, 3) := by decide +kernel
theorem dX5_isOwnedBehind_66 : decode cX5_isOwnedBehind 66 = .ok (.iload_n 2, 1) := by decide +kernel
theorem dX5_isOwnedBehind_67 : decode cX5_isOwnedBehind 67 = .ok (.iaload, 1) := by decide +kernel
theorem dX5_isOwnedBehind_68 : decode cX5_isOwnedBehind 68 = .ok (.iload_n 1, 1) := by decide +kernel
theorem dX5_isOwnedBehind_69 : decode cX5_isOwnedBehind 69 = .ok (.if_icmp .ne 7, 3) := by decide +kernel
theorem dX5_isOwnedBehind_72 : decode cX5_isOwnedBehind 72 = .ok (.iconst 1, 1) := by decide +kernel
theorem dX5_isOwnedBehind_73 : decode cX5_isOwnedBehind 73 = .ok (.goto 4, 3) := by decide +kernel
theorem dX5_isOwnedBehind_76 : decode cX5_isOwnedBehind 76 = .ok (.iconst 0, 1) := by decide +kernel
theorem dX5_isOwnedBehind_77 : decode cX5_isOwnedBehind 77 = .ok (.ireturn, 1) := by decide +kernel
theorem dX5_islands_0 : decode cX5_islands 0 = .ok (.iload_n 1, 1) := by decide +kernel
theorem dX5_islands_1 : decode cX5_islands 1 = .ok (.bipush (-2), 2) := by decide +kernel
theorem dX5_islands_3 : decode cX5_islands 3 = .ok (.if_icmp .lt 9, 3) := by decide +kernel
theorem dX5_islands_6 : decode cX5_islands 6 = .ok (.iload_n 1, 1) := by decide +kernel
theorem dX5_islands_7 : decode cX5_islands 7 = .ok (.bipush 24, 2) := by decide +kernel
theorem dX5_islands_9 : decode cX5_islands 9 = .ok (.if_icmp .lt 9, 3) := by decide +kernel
theorem dX5_islands_12 : decode cX5_islands 12 = .ok (.aload_n 0, 1) := by decide +kernel
theorem dX5_islands_13 : decode cX5_islands 13 = .ok (.iconst (-1), 1) := by decide +kernel
theorem dX5_islands_14 : decode cX5_islands 14 = .ok (.invokevirtual 60, 3) := by decide +kernel
theorem dX5_islands_17 : decode cX5_islands 17 = .ok (.ireturn, 1) := by decide +kernel
theorem dX5_islands_18 : decode cX5_islands 18 = .ok (.aload_n 0, 1) := by decide +kernel
theorem dX5_islands_19 : decode cX5_islands 19 = .ok (.getfield 50, 3) := by decide +kernel
theorem dX5_islands_22 : decode cX5_islands 22 = .ok (.aload_n 0, 1) := by decide +kernel
theorem dX5_islands_23 : decode cX5_islands 23 = .ok (.getfield 10, 3) := by decide +kernel
theorem dX5_islands_26 : decode cX5_islands 26 = .ok (.invokevirtual 67, 3) := by decide +kernel
theorem dX5_islands_29 : decode cX5_islands 29 = .ok (.aload_n 0, 1) := by decide +kernel
theorem dX5_islands_30 : decode cX5_islands 30 = .ok (.getfield 50, 3) := by decide +kernel
theorem dX5_islands_33 : decode cX5_islands 33 = .ok (.invokevirtual 217, 3) := by decide +kernel
theorem dX5_islands_36 : decode cX5_islands 36 = .ok (.istore_n 2, 1) := by decide +kernel
theorem dX5_islands_37 : decode cX5_islands 37 = .ok (.iload_n 1, 1) := by decide +kernel
theorem dX5_islands_38 : decode cX5_islands 38 = .ok (.ifCond .lt 9, 3) := by decide +kernel
theorem dX5_islands_41 : decode cX5_islands 41 = .ok (.iload_n 1, 1) := by decide +kernel
theorem dX5_islands_42 : decode cX5_islands 42 = .ok (.iload_n 2, 1) := by decide +kernel
theorem dX5_islands_43 : decode cX5_islands 43 = .ok (.invokestatic 279, 3) := by decide +kernel
theorem dX5_islands_46 : decode cX5_islands 46 = .ok (.ireturn, 1) := by decide +kernel
theorem dX5_islands_47 : decode cX5_islands 47 = .ok (.iload_n 1, 1) := by decide +kernel
theorem dX5_islands_48 : decode cX5_islands 48 = .ok (.iconst (-1), 1) := by decide +kernel
theorem dX5_islands_49 : decode cX5_islands 49 = .ok (.if_icmp .ne 10, 3) := by decide +kernel
theorem dX5_islands_52 : decode cX5_islands 52 = .ok (.iload_n 2, 1) := by decide +kernel
theorem dX5_islands_53 : decode cX5_islands 53 = .ok (.invokestatic 284, 3) := by decide +kernel
theorem dX5_islands_56 : decode cX5_islands 56 = .ok (.goto 7, 3) := by decide +kernel
theorem dX5_islands_59 : decode cX5_islands 59 = .ok (.iload_n 2, 1) := by decide +kernel
theorem dX5_islands_60 : decode cX5_islands 60 = .ok (.invokestatic 287, 3) := by decide +kernel
theorem dX5_islands_63 : decode cX5_islands 63 = .ok (.ireturn, 1) := by decide +kernel
theorem dX5_clearRun_0 : decode cX5_clearRun 0 = .ok (.aload_n 0, 1) := by decide +kernel
theorem dX5_clearRun_1 : decode cX5_clearRun 1 = .ok (.getfield 50, 3) := by decide +kernel
theorem dX5_clearRun_4 : decode cX5_clearRun 4 = .ok (.aload_n 0, 1) := by decide +kernel
theorem dX5_clearRun_5 : decode cX5_clearRun 5 = .ok (.getfield 10, 3) := by decide +kernel
theorem dX5_clearRun_8 : decode cX5_clearRun 8 = .ok (.invokevirtual 67, 3) := by decide +kernel
theorem dX5_clearRun_11 : decode cX5_clearRun 11 = .ok (.iconst 0, 1) := by decide +kernel
theorem dX5_clearRun_12 : decode cX5_clearRun 12 = .ok (.istore_n 1, 1) := by decide +kernel
theorem dX5_clearRun_13 : decode cX5_clearRun 13 = .ok (.iconst 0, 1) := by decide +kernel
theorem dX5_clearRun_14 : decode cX5_clearRun 14 = .ok (.istore_n 2, 1) := by decide +kernel
theorem dX5_clearRun_15 : decode cX5_clearRun 15 = .ok (.iconst 0, 1) := by decide +kernel
theorem dX5_clearRun_16 : decode cX5_clearRun 16 = .ok (.istore_n 3, 1) := by decide +kernel
theorem dX5_clearRun_17 : decode cX5_clearRun 17 = .ok (.iload_n 3, 1) := by decide +kernel
theorem dX5_clearRun_18 : decode cX5_clearRun 18 = .ok (.bipush 60, 2) := by decide +kernel
theorem dX5_clearRun_20 : decode cX5_clearRun 20 = .ok (.if_icmp .ge 41, 3) := by decide +kernel
theorem dX5_clearRun_23 : decode cX5_clearRun 23 = .ok (.aload_n 0, 1) := by decide +kernel
theorem dX5_clearRun_24 : decode cX5_clearRun 24 = .ok (.getfield 50, 3) := by decide +kernel
theorem dX5_clearRun_27 : decode cX5_clearRun 27 = .ok (.iconst 1, 1) := by decide +kernel
theorem dX5_clearRun_28 : decode cX5_clearRun 28 = .ok (.invokevirtual 119, 3) := by decide +kernel
theorem dX5_clearRun_31 : decode cX5_clearRun 31 = .ok (.aload_n 0, 1) := by decide +kernel
theorem dX5_clearRun_32 : decode cX5_clearRun 32 = .ok (.getfield 50, 3) := by decide +kernel
theorem dX5_clearRun_35 : decode cX5_clearRun 35 = .ok (.invokevirtual 217, 3) := by decide +kernel
theorem dX5_clearRun_38 : decode cX5_clearRun 38 = .ok (.ifCond .ne 9, 3) := by decide +kernel
theorem dX5_clearRun_41 : decode cX5_clearRun 41 = .ok (.iload_n 2, 1) := by decide +kernel
theorem dX5_clearRun_42 : decode cX5_clearRun 42 = .ok (.iconst 1, 1) := by decide +kernel
theorem dX5_clearRun_43 : decode cX5_clearRun 43 = .ok (.iadd, 1) := by decide +kernel
theorem dX5_clearRun_44 : decode cX5_clearRun 44 = .ok (.goto 4, 3) := by decide +kernel
theorem dX5_clearRun_47 : decode cX5_clearRun 47 = .ok (.iconst 0, 1) := by decide +kernel
theorem dX5_clearRun_48 : decode cX5_clearRun 48 = .ok (.istore_n 2, 1) := by decide +kernel
theorem dX5_clearRun_49 : decode cX5_clearRun 49 = .ok (.iload_n 1, 1) := by decide +kernel
theorem dX5_clearRun_50 : decode cX5_clearRun 50 = .ok (.iload_n 2, 1) := by decide +kernel
theorem dX5_clearRun_51 : decode cX5_clearRun 51 = .ok (.invokestatic 290, 3) := by decide +kernel
theorem dX5_clearRun_54 : decode cX5_clearRun 54 = .ok (.istore_n 1, 1) := by decide +kernel
theorem dX5_clearRun_55 : decode cX5_clearRun 55 = .ok (.iinc 3 1, 3) := by decide +kernel
theorem dX5_clearRun_58 : decode cX5_clearRun 58 = .ok (.goto (-41), 3) := by decide +kernel
theorem dX5_clearRun_61 : decode cX5_clearRun 61 = .ok (.iload_n 1, 1) := by decide +kernel
theorem dX5_clearRun_62 : decode cX5_clearRun 62 = .ok (.ireturn, 1) := by decide +kernel
theorem dX5_way_0 : decode cX5_way 0 = .ok (.iload_n 1, 1) := by decide +kernel
theorem dX5_way_1 : decode cX5_way 1 = .ok (.invokestatic 186, 3) := by decide +kernel
theorem dX5_way_4 : decode cX5_way 4 = .ok (.ifCond .eq 10, 3) := by decide +kernel
theorem dX5_way_7 : decode cX5_way 7 = .ok (.iload_n 2, 1) := by decide +kernel
theorem dX5_way_8 : decode cX5_way 8 = .ok (.invokestatic 186, 3) := by decide +kernel
theorem dX5_way_11 : decode cX5_way 11 = .ok (.ifCond .ne 9, 3) := by decide +kernel
theorem dX5_way_14 : decode cX5_way 14 = .ok (.aload_n 0, 1) := by decide +kernel
theorem dX5_way_15 : decode cX5_way 15 = .ok (.iconst (-1), 1) := by decide +kernel
theorem dX5_way_16 : decode cX5_way 16 = .ok (.invokevirtual 60, 3) := by decide +kernel
theorem dX5_way_19 : decode cX5_way 19 = .ok (.ireturn, 1) := by decide +kernel
theorem dX5_way_20 : decode cX5_way 20 = .ok (.aload_n 0, 1) := by decide +kernel
theorem dX5_way_21 : decode cX5_way 21 = .ok (.getfield 50, 3) := by decide +kernel
theorem dX5_way_24 : decode cX5_way 24 = .ok (.aload_n 0, 1) := by decide +kernel
theorem dX5_way_25 : decode cX5_way 25 = .ok (.getfield 10, 3) := by decide +kernel
theorem dX5_way_28 : decode cX5_way 28 = .ok (.invokevirtual 67, 3) := by decide +kernel
theorem dX5_way_31 : decode cX5_way 31 = .ok (.iload_n 1, 1) := by decide +kernel
theorem dX5_way_32 : decode cX5_way 32 = .ok (.iload_n 2, 1) := by decide +kernel
theorem dX5_way_33 : decode cX5_way 33 = .ok (.aload_n 0, 1) := by decide +kernel
theorem dX5_way_34 : decode cX5_way 34 = .ok (.getfield 50, 3) := by decide +kernel
theorem dX5_way_37 : decode cX5_way 37 = .ok (.invokevirtual 217, 3) := by decide +kernel
theorem dX5_way_40 : decode cX5_way 40 = .ok (.invokestatic 295, 3) := by decide +kernel
theorem dX5_way_43 : decode cX5_way 43 = .ok (.ireturn, 1) := by decide +kernel
theorem dX5_share_0 : decode cX5_share 0 = .ok (.aload_n 0, 1) := by decide +kernel
theorem dX5_share_1 : decode cX5_share 1 = .ok (.getfield 10, 3) := by decide +kernel
theorem dX5_share_4 : decode cX5_share 4 = .ok (.iload_n 1, 1) := by decide +kernel
theorem dX5_share_5 : decode cX5_share 5 = .ok (.invokevirtual 123, 3) := by decide +kernel
theorem dX5_share_8 : decode cX5_share 8 = .ok (.ifCond .ne 9, 3) := by decide +kernel
theorem dX5_share_11 : decode cX5_share 11 = .ok (.aload_n 0, 1) := by decide +kernel
theorem dX5_share_12 : decode cX5_share 12 = .ok (.iconst (-1), 1) := by decide +kernel
theorem dX5_share_13 : decode cX5_share 13 = .ok (.invokevirtual 260, 3) := by decide +kernel
theorem dX5_share_16 : decode cX5_share 16 = .ok (.lreturn, 1) := by decide +kernel
theorem dX5_share_17 : decode cX5_share 17 = .ok (.iload_n 2, 1) := by decide +kernel
theorem dX5_share_18 : decode cX5_share 18 = .ok (.ifCond .eq 15, 3) := by decide +kernel
theorem dX5_share_21 : decode cX5_share 21 = .ok (.iload_n 2, 1) := by decide +kernel
theorem dX5_share_22 : decode cX5_share 22 = .ok (.iconst 1, 1) := by decide +kernel
theorem dX5_share_23 : decode cX5_share 23 = .ok (.if_icmp .eq 10, 3) := by decide +kernel
theorem dX5_share_26 : decode cX5_share 26 = .ok (.aload_n 0, 1) := by decide +kernel
theorem dX5_share_27 : decode cX5_share 27 = .ok (.bipush (-2), 2) := by decide +kernel
theorem dX5_share_29 : decode cX5_share 29 = .ok (.invokevirtual 260, 3) := by decide +kernel
theorem dX5_share_32 : decode cX5_share 32 = .ok (.lreturn, 1) := by decide +kernel
theorem dX5_share_33 : decode cX5_share 33 = .ok (.iconst 0, 1) := by decide +kernel
theorem dX5_share_34 : decode cX5_share 34 = .ok (.istore_n 3, 1) := by decide +kernel
theorem dX5_share_35 : decode cX5_share 35 = .ok (.iconst 0, 1) := by decide +kernel
theorem dX5_share_36 : decode cX5_share 36 = .ok (.istore 4, 2) := by decide +kernel
theorem dX5_share_38 : decode cX5_share 38 = .ok (.iload 4, 2) := by decide +kernel
theorem dX5_share_40 : decode cX5_share 40 = .ok (.aload_n 0, 1) := by decide +kernel
theorem dX5_share_41 : decode cX5_share 41 = .ok (.getfield 10, 3) := by decide +kernel
theorem dX5_share_44 : decode cX5_share 44 = .ok (.getfield 207, 3) := by decide +kernel
theorem dX5_share_47 : decode cX5_share 47 = .ok (.if_icmp .ge 22, 3) := by decide +kernel
theorem dX5_share_50 : decode cX5_share 50 = .ok (.iload_n 3, 1) := by decide +kernel
theorem dX5_share_51 : decode cX5_share 51 = .ok (.aload_n 0, 1) := by decide +kernel
theorem dX5_share_52 : decode cX5_share 52 = .ok (.getfield 10, 3) := by decide +kernel
theorem dX5_share_55 : decode cX5_share 55 = .ok (.getfield 162, 3) := by decide +kernel
theorem dX5_share_58 : decode cX5_share 58 = .ok (.iload 4, 2) := by decide +kernel
theorem dX5_share_60 : decode cX5_share 60 = .ok (.iaload, 1) := by decide +kernel
theorem dX5_share_61 : decode cX5_share 61 = .ok (.iadd, 1) := by decide +kernel
theorem dX5_share_62 : decode cX5_share 62 = .ok (.istore_n 3, 1) := by decide +kernel
theorem dX5_share_63 : decode cX5_share 63 = .ok (.iinc 4 1, 3) := by decide +kernel
theorem dX5_share_66 : decode cX5_share 66 = .ok (.goto (-28), 3) := by decide +kernel
theorem dX5_share_69 : decode cX5_share 69 = .ok (.aload_n 0, 1) := by decide +kernel
theorem dX5_share_70 : decode cX5_share 70 = .ok (.getfield 10, 3) := by decide +kernel
theorem dX5_share_73 : decode cX5_share 73 = .ok (.iload_n 1, 1) := by decide +kernel
theorem dX5_share_74 : decode cX5_share 74 = .ok (.invokevirtual 156, 3) := by decide +kernel
theorem dX5_share_77 : decode cX5_share 77 = .ok (.i2l, 1) := by decide +kernel
theorem dX5_share_78 : decode cX5_share 78 = .ok (.iload_n 3, 1) := by decide +kernel
theorem dX5_share_79 : decode cX5_share 79 = .ok (.i2l, 1) := by decide +kernel
theorem dX5_share_80 : decode cX5_share 80 = .ok (.iload_n 2, 1) := by decide +kernel
theorem dX5_share_81 : decode cX5_share 81 = .ok (.invokestatic 272, 3) := by decide +kernel
theorem dX5_share_84 : decode cX5_share 84 = .ok (.lreturn, 1) := by decide +kernel
theorem dX5_sight_0 : decode cX5_sight 0 = .ok (.iload_n 1, 1) := by decide +kernel
theorem dX5_sight_1 : decode cX5_sight 1 = .ok (.tableswitch 63 0 4 #[35, 40, 48, 53, 58], 35) := by decide +kernel
theorem dX5_sight_36 : decode cX5_sight 36 = .ok (.aload_n 0, 1) := by decide +kernel
theorem dX5_sight_37 : decode cX5_sight 37 = .ok (.invokevirtual 298, 3) := by decide +kernel
theorem dX5_sight_40 : decode cX5_sight 40 = .ok (.ireturn, 1) := by decide +kernel
theorem dX5_sight_41 : decode cX5_sight 41 = .ok (.aload_n 0, 1) := by decide +kernel
theorem dX5_sight_42 : decode cX5_sight 42 = .ok (.getfield 10, 3) := by decide +kernel
theorem dX5_sight_45 : decode cX5_sight 45 = .ok (.invokevirtual 230, 3) := by decide +kernel
theorem dX5_sight_48 : decode cX5_sight 48 = .ok (.ireturn, 1) := by decide +kernel
theorem dX5_sight_49 : decode cX5_sight 49 = .ok (.aload_n 0, 1) := by decide +kernel
theorem dX5_sight_50 : decode cX5_sight 50 = .ok (.invokevirtual 301, 3) := by decide +kernel
theorem dX5_sight_53 : decode cX5_sight 53 = .ok (.ireturn, 1) := by decide +kernel
theorem dX5_sight_54 : decode cX5_sight 54 = .ok (.aload_n 0, 1) := by decide +kernel
theorem dX5_sight_55 : decode cX5_sight 55 = .ok (.invokevirtual 304, 3) := by decide +kernel
theorem dX5_sight_58 : decode cX5_sight 58 = .ok (.ireturn, 1) := by decide +kernel
theorem dX5_sight_59 : decode cX5_sight 59 = .ok (.aload_n 0, 1) := by decide +kernel
theorem dX5_sight_60 : decode cX5_sight 60 = .ok (.invokevirtual 307, 3) := by decide +kernel
theorem dX5_sight_63 : decode cX5_sight 63 = .ok (.ireturn, 1) := by decide +kernel
theorem dX5_sight_64 : decode cX5_sight 64 = .ok (.aload_n 0, 1) := by decide +kernel
theorem dX5_sight_65 : decode cX5_sight 65 = .ok (.bipush (-2), 2) := by decide +kernel
theorem dX5_sight_67 : decode cX5_sight 67 = .ok (.invokevirtual 60, 3) := by decide +kernel
theorem dX5_sight_70 : decode cX5_sight 70 = .ok (.ireturn, 1) := by decide +kernel
theorem dX5_richest_0 : decode cX5_richest 0 = .ok (.bipush (-9), 2) := by decide +kernel
theorem dX5_richest_2 : decode cX5_richest 2 = .ok (.istore_n 1, 1) := by decide +kernel
theorem dX5_richest_3 : decode cX5_richest 3 = .ok (.iconst (-1), 1) := by decide +kernel
theorem dX5_richest_4 : decode cX5_richest 4 = .ok (.istore_n 2, 1) := by decide +kernel
theorem dX5_richest_5 : decode cX5_richest 5 = .ok (.iconst 0, 1) := by decide +kernel
theorem dX5_richest_6 : decode cX5_richest 6 = .ok (.istore_n 3, 1) := by decide +kernel
theorem dX5_richest_7 : decode cX5_richest 7 = .ok (.iload_n 3, 1) := by decide +kernel
theorem dX5_richest_8 : decode cX5_richest 8 = .ok (.aload_n 0, 1) := by decide +kernel
theorem dX5_richest_9 : decode cX5_richest 9 = .ok (.getfield 10, 3) := by decide +kernel
theorem dX5_richest_12 : decode cX5_richest 12 = .ok (.getfield 204, 3) := by decide +kernel
theorem dX5_richest_15 : decode cX5_richest 15 = .ok (.if_icmp .ge 30, 3) := by decide +kernel
theorem dX5_richest_18 : decode cX5_richest 18 = .ok (.aload_n 0, 1) := by decide +kernel
theorem dX5_richest_19 : decode cX5_richest 19 = .ok (.getfield 10, 3) := by decide +kernel
theorem dX5_richest_22 : decode cX5_richest 22 = .ok (.iload_n 3, 1) := by decide +kernel
theorem dX5_richest_23 : decode cX5_richest 23 = .ok (.invokevirtual 156, 3) := by decide +kernel
theorem dX5_richest_26 : decode cX5_richest 26 = .ok (.istore 4, 2) := by decide +kernel
theorem dX5_richest_28 : decode cX5_richest 28 = .ok (.iload 4, 2) := by decide +kernel
theorem dX5_richest_30 : decode cX5_richest 30 = .ok (.iload_n 2, 1) := by decide +kernel
theorem dX5_richest_31 : decode cX5_richest 31 = .ok (.if_icmp .le 8, 3) := by decide +kernel
theorem dX5_richest_34 : decode cX5_richest 34 = .ok (.iload 4, 2) := by decide +kernel
theorem dX5_richest_36 : decode cX5_richest 36 = .ok (.istore_n 2, 1) := by decide +kernel
theorem dX5_richest_37 : decode cX5_richest 37 = .ok (.iload_n 3, 1) := by decide +kernel
theorem dX5_richest_38 : decode cX5_richest 38 = .ok (.istore_n 1, 1) := by decide +kernel
theorem dX5_richest_39 : decode cX5_richest 39 = .ok (.iinc 3 1, 3) := by decide +kernel
theorem dX5_richest_42 : decode cX5_richest 42 = .ok (.goto (-35), 3) := by decide +kernel
theorem dX5_richest_45 : decode cX5_richest 45 = .ok (.iload_n 1, 1) := by decide +kernel
theorem dX5_richest_46 : decode cX5_richest 46 = .ok (.ireturn, 1) := by decide +kernel
theorem dX5_wetThings_0 : decode cX5_wetThings 0 = .ok (.aload_n 0, 1) := by decide +kernel
theorem dX5_wetThings_1 : decode cX5_wetThings 1 = .ok (.getfield 50, 3) := by decide +kernel
theorem dX5_wetThings_4 : decode cX5_wetThings 4 = .ok (.aload_n 0, 1) := by decide +kernel
theorem dX5_wetThings_5 : decode cX5_wetThings 5 = .ok (.getfield 10, 3) := by decide +kernel
theorem dX5_wetThings_8 : decode cX5_wetThings 8 = .ok (.invokevirtual 67, 3) := by decide +kernel
theorem dX5_wetThings_11 : decode cX5_wetThings 11 = .ok (.iconst 0, 1) := by decide +kernel
theorem dX5_wetThings_12 : decode cX5_wetThings 12 = .ok (.istore_n 1, 1) := by decide +kernel
theorem dX5_wetThings_13 : decode cX5_wetThings 13 = .ok (.iconst 0, 1) := by decide +kernel
theorem dX5_wetThings_14 : decode cX5_wetThings 14 = .ok (.istore_n 2, 1) := by decide +kernel
theorem dX5_wetThings_15 : decode cX5_wetThings 15 = .ok (.iload_n 2, 1) := by decide +kernel
theorem dX5_wetThings_16 : decode cX5_wetThings 16 = .ok (.aload_n 0, 1) := by decide +kernel
theorem dX5_wetThings_17 : decode cX5_wetThings 17 = .ok (.getfield 10, 3) := by decide +kernel
theorem dX5_wetThings_20 : decode cX5_wetThings 20 = .ok (.getfield 207, 3) := by decide +kernel
theorem dX5_wetThings_23 : decode cX5_wetThings 23 = .ok (.if_icmp .ge 34, 3) := by decide +kernel
theorem dX5_wetThings_26 : decode cX5_wetThings 26 = .ok (.aload_n 0, 1) := by decide +kernel
theorem dX5_wetThings_27 : decode cX5_wetThings 27 = .ok (.getfield 50, 3) := by decide +kernel
theorem dX5_wetThings_30 : decode cX5_wetThings 30 = .ok (.aload_n 0, 1) := by decide +kernel
theorem dX5_wetThings_31 : decode cX5_wetThings 31 = .ok (.getfield 10, 3) := by decide +kernel
theorem dX5_wetThings_34 : decode cX5_wetThings 34 = .ok (.getfield 165, 3) := by decide +kernel
theorem dX5_wetThings_37 : decode cX5_wetThings 37 = .ok (.iload_n 2, 1) := by decide +kernel
theorem dX5_wetThings_38 : decode cX5_wetThings 38 = .ok (.iaload, 1) := by decide +kernel
theorem dX5_wetThings_39 : decode cX5_wetThings 39 = .ok (.invokevirtual 195, 3) := by decide +kernel
theorem dX5_wetThings_42 : decode cX5_wetThings 42 = .ok (.ifCond .eq 9, 3) := by decide +kernel
theorem dX5_wetThings_45 : decode cX5_wetThings 45 = .ok (.iload_n 1, 1) := by decide +kernel
theorem dX5_wetThings_46 : decode cX5_wetThings 46 = .ok (.iconst 1, 1) := by decide +kernel
theorem dX5_wetThings_47 : decode cX5_wetThings 47 = .ok (.iload_n 2, 1) := by decide +kernel
theorem dX5_wetThings_48 : decode cX5_wetThings 48 = .ok (.ishl, 1) := by decide +kernel
theorem dX5_wetThings_49 : decode cX5_wetThings 49 = .ok (.ior, 1) := by decide +kernel
theorem dX5_wetThings_50 : decode cX5_wetThings 50 = .ok (.istore_n 1, 1) := by decide +kernel
theorem dX5_wetThings_51 : decode cX5_wetThings 51 = .ok (.iinc 2 1, 3) := by decide +kernel
theorem dX5_wetThings_54 : decode cX5_wetThings 54 = .ok (.goto (-39), 3) := by decide +kernel
theorem dX5_wetThings_57 : decode cX5_wetThings 57 = .ok (.iload_n 1, 1) := by decide +kernel
theorem dX5_wetThings_58 : decode cX5_wetThings 58 = .ok (.ireturn, 1) := by decide +kernel
theorem dX5_crowdedCell_0 : decode cX5_crowdedCell 0 = .ok (.bipush (-9), 2) := by decide +kernel
theorem dX5_crowdedCell_2 : decode cX5_crowdedCell 2 = .ok (.istore_n 1, 1) := by decide +kernel
theorem dX5_crowdedCell_3 : decode cX5_crowdedCell 3 = .ok (.iconst 0, 1) := by decide +kernel
theorem dX5_crowdedCell_4 : decode cX5_crowdedCell 4 = .ok (.istore_n 2, 1) := by decide +kernel
theorem dX5_crowdedCell_5 : decode cX5_crowdedCell 5 = .ok (.iconst 0, 1) := by decide +kernel
theorem dX5_crowdedCell_6 : decode cX5_crowdedCell 6 = .ok (.istore_n 3, 1) := by decide +kernel
theorem dX5_crowdedCell_7 : decode cX5_crowdedCell 7 = .ok (.iload_n 3, 1) := by decide +kernel
theorem dX5_crowdedCell_8 : decode cX5_crowdedCell 8 = .ok (.bipush 24, 2) := by decide +kernel
theorem dX5_crowdedCell_10 : decode cX5_crowdedCell 10 = .ok (.if_icmp .ge 33, 3) := by decide +kernel
theorem dX5_crowdedCell_13 : decode cX5_crowdedCell 13 = .ok (.aload_n 0, 1) := by decide +kernel
theorem dX5_crowdedCell_14 : decode cX5_crowdedCell 14 = .ok (.getfield 10, 3) := by decide +kernel
theorem dX5_crowdedCell_17 : decode cX5_crowdedCell 17 = .ok (.iload_n 3, 1) := by decide +kernel
theorem dX5_crowdedCell_18 : decode cX5_crowdedCell 18 = .ok (.invokevirtual 198, 3) := by decide +kernel
theorem dX5_crowdedCell_21 : decode cX5_crowdedCell 21 = .ok (.invokestatic 242, 3) := by decide +kernel
theorem dX5_crowdedCell_24 : decode cX5_crowdedCell 24 = .ok (.istore 4, 2) := by decide +kernel
theorem dX5_crowdedCell_26 : decode cX5_crowdedCell 26 = .ok (.iload 4, 2) := by decide +kernel
theorem dX5_crowdedCell_28 : decode cX5_crowdedCell 28 = .ok (.iload_n 2, 1) := by decide +kernel
theorem dX5_crowdedCell_29 : decode cX5_crowdedCell 29 = .ok (.if_icmp .le 8, 3) := by decide +kernel
theorem dX5_crowdedCell_32 : decode cX5_crowdedCell 32 = .ok (.iload 4, 2) := by decide +kernel
theorem dX5_crowdedCell_34 : decode cX5_crowdedCell 34 = .ok (.istore_n 2, 1) := by decide +kernel
theorem dX5_crowdedCell_35 : decode cX5_crowdedCell 35 = .ok (.iload_n 3, 1) := by decide +kernel
theorem dX5_crowdedCell_36 : decode cX5_crowdedCell 36 = .ok (.istore_n 1, 1) := by decide +kernel
theorem dX5_crowdedCell_37 : decode cX5_crowdedCell 37 = .ok (.iinc 3 1, 3) := by decide +kernel
theorem dX5_crowdedCell_40 : decode cX5_crowdedCell 40 = .ok (.goto (-33), 3) := by decide +kernel
theorem dX5_crowdedCell_43 : decode cX5_crowdedCell 43 = .ok (.iload_n 1, 1) := by decide +kernel
theorem dX5_crowdedCell_44 : decode cX5_crowdedCell 44 = .ok (.ireturn, 1) := by decide +kernel
theorem dX5_hoursAlike_0 : decode cX5_hoursAlike 0 = .ok (.aload_n 0, 1) := by decide +kernel
theorem dX5_hoursAlike_1 : decode cX5_hoursAlike 1 = .ok (.getfield 50, 3) := by decide +kernel
theorem dX5_hoursAlike_4 : decode cX5_hoursAlike 4 = .ok (.aload_n 0, 1) := by decide +kernel
theorem dX5_hoursAlike_5 : decode cX5_hoursAlike 5 = .ok (.getfield 10, 3) := by decide +kernel
theorem dX5_hoursAlike_8 : decode cX5_hoursAlike 8 = .ok (.invokevirtual 67, 3) := by decide +kernel
theorem dX5_hoursAlike_11 : decode cX5_hoursAlike 11 = .ok (.aload_n 0, 1) := by decide +kernel
theorem dX5_hoursAlike_12 : decode cX5_hoursAlike 12 = .ok (.getfield 50, 3) := by decide +kernel
theorem dX5_hoursAlike_15 : decode cX5_hoursAlike 15 = .ok (.invokevirtual 217, 3) := by decide +kernel
theorem dX5_hoursAlike_18 : decode cX5_hoursAlike 18 = .ok (.invokestatic 242, 3) := by decide +kernel
theorem dX5_hoursAlike_21 : decode cX5_hoursAlike 21 = .ok (.istore_n 1, 1) := by decide +kernel
theorem dX5_hoursAlike_22 : decode cX5_hoursAlike 22 = .ok (.iconst 0, 1) := by decide +kernel
theorem dX5_hoursAlike_23 : decode cX5_hoursAlike 23 = .ok (.istore_n 2, 1) := by decide +kernel
theorem dX5_hoursAlike_24 : decode cX5_hoursAlike 24 = .ok (.iconst 0, 1) := by decide +kernel
theorem dX5_hoursAlike_25 : decode cX5_hoursAlike 25 = .ok (.istore_n 3, 1) := by decide +kernel
theorem dX5_hoursAlike_26 : decode cX5_hoursAlike 26 = .ok (.iload_n 3, 1) := by decide +kernel
theorem dX5_hoursAlike_27 : decode cX5_hoursAlike 27 = .ok (.bipush 60, 2) := by decide +kernel
theorem dX5_hoursAlike_29 : decode cX5_hoursAlike 29 = .ok (.if_icmp .ge 34, 3) := by decide +kernel
theorem dX5_hoursAlike_32 : decode cX5_hoursAlike 32 = .ok (.aload_n 0, 1) := by decide +kernel
theorem dX5_hoursAlike_33 : decode cX5_hoursAlike 33 = .ok (.getfield 50, 3) := by decide +kernel
theorem dX5_hoursAlike_36 : decode cX5_hoursAlike 36 = .ok (.iconst 1, 1) := by decide +kernel
theorem dX5_hoursAlike_37 : decode cX5_hoursAlike 37 = .ok (.invokevirtual 119, 3) := by decide +kernel
theorem dX5_hoursAlike_40 : decode cX5_hoursAlike 40 = .ok (.aload_n 0, 1) := by decide +kernel
theorem dX5_hoursAlike_41 : decode cX5_hoursAlike 41 = .ok (.getfield 50, 3) := by decide +kernel
theorem dX5_hoursAlike_44 : decode cX5_hoursAlike 44 = .ok (.invokevirtual 217, 3) := by decide +kernel
theorem dX5_hoursAlike_47 : decode cX5_hoursAlike 47 = .ok (.invokestatic 242, 3) := by decide +kernel
theorem dX5_hoursAlike_50 : decode cX5_hoursAlike 50 = .ok (.iload_n 1, 1) := by decide +kernel
theorem dX5_hoursAlike_51 : decode cX5_hoursAlike 51 = .ok (.if_icmp .ne 6, 3) := by decide +kernel
theorem dX5_hoursAlike_54 : decode cX5_hoursAlike 54 = .ok (.iinc 2 1, 3) := by decide +kernel
theorem dX5_hoursAlike_57 : decode cX5_hoursAlike 57 = .ok (.iinc 3 1, 3) := by decide +kernel
theorem dX5_hoursAlike_60 : decode cX5_hoursAlike 60 = .ok (.goto (-34), 3) := by decide +kernel
theorem dX5_hoursAlike_63 : decode cX5_hoursAlike 63 = .ok (.iload_n 2, 1) := by decide +kernel
theorem dX5_hoursAlike_64 : decode cX5_hoursAlike 64 = .ok (.ireturn, 1) := by decide +kernel
theorem dX5_kinds_0 : decode cX5_kinds 0 = .ok (.iload_n 1, 1) := by decide +kernel
theorem dX5_kinds_1 : decode cX5_kinds 1 = .ok (.ifCond .lt 9, 3) := by decide +kernel
theorem dX5_kinds_4 : decode cX5_kinds 4 = .ok (.iload_n 1, 1) := by decide +kernel
theorem dX5_kinds_5 : decode cX5_kinds 5 = .ok (.bipush 8, 2) := by decide +kernel
theorem dX5_kinds_7 : decode cX5_kinds 7 = .ok (.if_icmp .lt 10, 3) := by decide +kernel
theorem dX5_kinds_10 : decode cX5_kinds 10 = .ok (.aload_n 0, 1) := by decide +kernel
theorem dX5_kinds_11 : decode cX5_kinds 11 = .ok (.bipush (-2), 2) := by decide +kernel
theorem dX5_kinds_13 : decode cX5_kinds 13 = .ok (.invokevirtual 60, 3) := by decide +kernel
theorem dX5_kinds_16 : decode cX5_kinds 16 = .ok (.ireturn, 1) := by decide +kernel
theorem dX5_kinds_17 : decode cX5_kinds 17 = .ok (.iconst 0, 1) := by decide +kernel
theorem dX5_kinds_18 : decode cX5_kinds 18 = .ok (.istore_n 2, 1) := by decide +kernel
theorem dX5_kinds_19 : decode cX5_kinds 19 = .ok (.iconst 0, 1) := by decide +kernel
theorem dX5_kinds_20 : decode cX5_kinds 20 = .ok (.istore_n 3, 1) := by decide +kernel
theorem dX5_kinds_21 : decode cX5_kinds 21 = .ok (.iload_n 3, 1) := by decide +kernel
theorem dX5_kinds_22 : decode cX5_kinds 22 = .ok (.aload_n 0, 1) := by decide +kernel
theorem dX5_kinds_23 : decode cX5_kinds 23 = .ok (.getfield 10, 3) := by decide +kernel
theorem dX5_kinds_26 : decode cX5_kinds 26 = .ok (.getfield 204, 3) := by decide +kernel
theorem dX5_kinds_29 : decode cX5_kinds 29 = .ok (.if_icmp .ge 25, 3) := by decide +kernel
theorem dX5_kinds_32 : decode cX5_kinds 32 = .ok (.aload_n 0, 1) := by decide +kernel
theorem dX5_kinds_33 : decode cX5_kinds 33 = .ok (.getfield 10, 3) := by decide +kernel
theorem dX5_kinds_36 : decode cX5_kinds 36 = .ok (.getfield 126, 3) := by decide +kernel
theorem dX5_kinds_39 : decode cX5_kinds 39 = .ok (.iload_n 3, 1) := by decide +kernel
theorem dX5_kinds_40 : decode cX5_kinds 40 = .ok (.iaload, 1) := by decide +kernel
theorem dX5_kinds_41 : decode cX5_kinds 41 = .ok (.iload_n 1, 1) := by decide +kernel
theorem dX5_kinds_42 : decode cX5_kinds 42 = .ok (.if_icmp .ne 6, 3) := by decide +kernel
theorem dX5_kinds_45 : decode cX5_kinds 45 = .ok (.iinc 2 1, 3) := by decide +kernel
theorem dX5_kinds_48 : decode cX5_kinds 48 = .ok (.iinc 3 1, 3) := by decide +kernel
theorem dX5_kinds_51 : decode cX5_kinds 51 = .ok (.goto (-30), 3) := by decide +kernel
theorem dX5_kinds_54 : decode cX5_kinds 54 = .ok (.iload_n 2, 1) := by decide +kernel
theorem dX5_kinds_55 : decode cX5_kinds 55 = .ok (.ireturn, 1) := by decide +kernel
theorem dX5_row_0 : decode cX5_row 0 = .ok (.iload_n 1, 1) := by decide +kernel
theorem dX5_row_1 : decode cX5_row 1 = .ok (.iconst 0, 1) := by decide +kernel
theorem dX5_row_2 : decode cX5_row 2 = .ok (.bipush 99, 2) := by decide +kernel
theorem dX5_row_4 : decode cX5_row 4 = .ok (.invokestatic 220, 3) := by decide +kernel
theorem dX5_row_7 : decode cX5_row 7 = .ok (.istore_n 2, 1) := by decide +kernel
theorem dX5_row_8 : decode cX5_row 8 = .ok (.iload_n 2, 1) := by decide +kernel
theorem dX5_row_9 : decode cX5_row 9 = .ok (.ifCond .eq 9, 3) := by decide +kernel
theorem dX5_row_12 : decode cX5_row 12 = .ok (.aload_n 0, 1) := by decide +kernel
theorem dX5_row_13 : decode cX5_row 13 = .ok (.iload_n 2, 1) := by decide +kernel
theorem dX5_row_14 : decode cX5_row 14 = .ok (.invokevirtual 60, 3) := by decide +kernel
theorem dX5_row_17 : decode cX5_row 17 = .ok (.ireturn, 1) := by decide +kernel
theorem dX5_row_18 : decode cX5_row 18 = .ok (.aload_n 0, 1) := by decide +kernel
theorem dX5_row_19 : decode cX5_row 19 = .ok (.getfield 41, 3) := by decide +kernel
theorem dX5_row_22 : decode cX5_row 22 = .ok (.bipush 12, 2) := by decide +kernel
theorem dX5_row_24 : decode cX5_row 24 = .ok (.if_icmp .lt 10, 3) := by decide +kernel
theorem dX5_row_27 : decode cX5_row 27 = .ok (.aload_n 0, 1) := by decide +kernel
theorem dX5_row_28 : decode cX5_row 28 = .ok (.bipush (-6), 2) := by decide +kernel
theorem dX5_row_30 : decode cX5_row 30 = .ok (.invokevirtual 60, 3) := by decide +kernel
theorem dX5_row_33 : decode cX5_row 33 = .ok (.ireturn, 1) := by decide +kernel
theorem dX5_row_34 : decode cX5_row 34 = .ok (.aload_n 0, 1) := by decide +kernel
theorem dX5_row_35 : decode cX5_row 35 = .ok (.getfield 38, 3) := by decide +kernel
theorem dX5_row_38 : decode cX5_row 38 = .ok (.aload_n 0, 1) := by decide +kernel
theorem dX5_row_39 : decode cX5_row 39 = .ok (.getfield 41, 3) := by decide +kernel
theorem dX5_row_42 : decode cX5_row 42 = .ok (.iload_n 1, 1) := by decide +kernel
theorem dX5_row_43 : decode cX5_row 43 = .ok (.iastore, 1) := by decide +kernel
theorem dX5_row_44 : decode cX5_row 44 = .ok (.aload_n 0, 1) := by decide +kernel
theorem dX5_row_45 : decode cX5_row 45 = .ok (.dup, 1) := by decide +kernel
theorem dX5_row_46 : decode cX5_row 46 = .ok (.getfield 41, 3) := by decide +kernel
theorem dX5_row_49 : decode cX5_row 49 = .ok (.iconst 1, 1) := by decide +kernel
theorem dX5_row_50 : decode cX5_row 50 = .ok (.iadd, 1) := by decide +kernel
theorem dX5_row_51 : decode cX5_row 51 = .ok (.putfield 41, 3) := by decide +kernel
theorem dX5_row_54 : decode cX5_row 54 = .ok (.aload_n 0, 1) := by decide +kernel
theorem dX5_row_55 : decode cX5_row 55 = .ok (.getfield 41, 3) := by decide +kernel
theorem dX5_row_58 : decode cX5_row 58 = .ok (.ireturn, 1) := by decide +kernel
theorem dX5_judge_0 : decode cX5_judge 0 = .ok (.aload_n 0, 1) := by decide +kernel
theorem dX5_judge_1 : decode cX5_judge 1 = .ok (.getfield 41, 3) := by decide +kernel
theorem dX5_judge_4 : decode cX5_judge 4 = .ok (.istore_n 1, 1) := by decide +kernel
theorem dX5_judge_5 : decode cX5_judge 5 = .ok (.aload_n 0, 1) := by decide +kernel
theorem dX5_judge_6 : decode cX5_judge 6 = .ok (.iconst 0, 1) := by decide +kernel
theorem dX5_judge_7 : decode cX5_judge 7 = .ok (.putfield 41, 3) := by decide +kernel
theorem dX5_judge_10 : decode cX5_judge 10 = .ok (.iconst 0, 1) := by decide +kernel
theorem dX5_judge_11 : decode cX5_judge 11 = .ok (.istore_n 2, 1) := by decide +kernel
theorem dX5_judge_12 : decode cX5_judge 12 = .ok (.iload_n 2, 1) := by decide +kernel
theorem dX5_judge_13 : decode cX5_judge 13 = .ok (.iload_n 1, 1) := by decide +kernel
theorem dX5_judge_14 : decode cX5_judge 14 = .ok (.if_icmp .ge 62, 3) := by decide +kernel
theorem dX5_judge_17 : decode cX5_judge 17 = .ok (.iload_n 2, 1) := by decide +kernel
theorem dX5_judge_18 : decode cX5_judge 18 = .ok (.aload_n 0, 1) := by decide +kernel
theorem dX5_judge_19 : decode cX5_judge 19 = .ok (.getfield 10, 3) := by decide +kernel
theorem dX5_judge_22 : decode cX5_judge 22 = .ok (.getfield 207, 3) := by decide +kernel
theorem dX5_judge_25 : decode cX5_judge 25 = .ok (.if_icmp .lt 5, 3) := by decide +kernel
theorem dX5_judge_28 : decode cX5_judge 28 = .ok (.iload_n 2, 1) := by decide +kernel
theorem dX5_judge_29 : decode cX5_judge 29 = .ok (.ireturn, 1) := by decide +kernel
theorem dX5_judge_30 : decode cX5_judge 30 = .ok (.aload_n 0, 1) := by decide +kernel
theorem dX5_judge_31 : decode cX5_judge 31 = .ok (.getfield 10, 3) := by decide +kernel
theorem dX5_judge_34 : decode cX5_judge 34 = .ok (.getfield 168, 3) := by decide +kernel
theorem dX5_judge_37 : decode cX5_judge 37 = .ok (.iload_n 2, 1) := by decide +kernel
theorem dX5_judge_38 : decode cX5_judge 38 = .ok (.iaload, 1) := by decide +kernel
theorem dX5_judge_39 : decode cX5_judge 39 = .ok (.iconst (-1), 1) := by decide +kernel
theorem dX5_judge_40 : decode cX5_judge 40 = .ok (.if_icmp .ne 8, 3) := by decide +kernel
theorem dX5_judge_43 : decode cX5_judge 43 = .ok (.bipush 9, 2) := by decide +kernel
theorem dX5_judge_45 : decode cX5_judge 45 = .ok (.goto 12, 3) := by decide +kernel
theorem dX5_judge_48 : decode cX5_judge 48 = .ok (.aload_n 0, 1) := by decide +kernel
theorem dX5_judge_49 : decode cX5_judge 49 = .ok (.getfield 10, 3) := by decide +kernel
theorem dX5_judge_52 : decode cX5_judge 52 = .ok (.getfield 168, 3) := by decide +kernel
theorem dX5_judge_55 : decode cX5_judge 55 = .ok (.iload_n 2, 1) := by decide +kernel
theorem dX5_judge_56 : decode cX5_judge 56 = .ok (.iaload, 1) := by decide +kernel
theorem dX5_judge_57 : decode cX5_judge 57 = .ok (.istore_n 3, 1) := by decide +kernel
theorem dX5_judge_58 : decode cX5_judge 58 = .ok (.aload_n 0, 1) := by decide +kernel
theorem dX5_judge_59 : decode cX5_judge 59 = .ok (.getfield 38, 3) := by decide +kernel
theorem dX5_judge_62 : decode cX5_judge 62 = .ok (.iload_n 2, 1) := by decide +kernel
theorem dX5_judge_63 : decode cX5_judge 63 = .ok (.iaload, 1) := by decide +kernel
theorem dX5_judge_64 : decode cX5_judge 64 = .ok (.iload_n 3, 1) := by decide +kernel
theorem dX5_judge_65 : decode cX5_judge 65 = .ok (.if_icmp .eq 5, 3) := by decide +kernel
theorem dX5_judge_68 : decode cX5_judge 68 = .ok (.iload_n 2, 1) := by decide +kernel
theorem dX5_judge_69 : decode cX5_judge 69 = .ok (.ireturn, 1) := by decide +kernel
theorem dX5_judge_70 : decode cX5_judge 70 = .ok (.iinc 2 1, 3) := by decide +kernel
theorem dX5_judge_73 : decode cX5_judge 73 = .ok (.goto (-61), 3) := by decide +kernel
theorem dX5_judge_76 : decode cX5_judge 76 = .ok (.bipush (-9), 2) := by decide +kernel
theorem dX5_judge_78 : decode cX5_judge 78 = .ok (.ireturn, 1) := by decide +kernel
theorem dX5_clear_0 : decode cX5_clear 0 = .ok (.aload_n 0, 1) := by decide +kernel
theorem dX5_clear_1 : decode cX5_clear 1 = .ok (.getfield 41, 3) := by decide +kernel
theorem dX5_clear_4 : decode cX5_clear 4 = .ok (.istore_n 1, 1) := by decide +kernel
theorem dX5_clear_5 : decode cX5_clear 5 = .ok (.aload_n 0, 1) := by decide +kernel
theorem dX5_clear_6 : decode cX5_clear 6 = .ok (.iconst 0, 1) := by decide +kernel
theorem dX5_clear_7 : decode cX5_clear 7 = .ok (.putfield 41, 3) := by decide +kernel
theorem dX5_clear_10 : decode cX5_clear 10 = .ok (.iload_n 1, 1) := by decide +kernel
theorem dX5_clear_11 : decode cX5_clear 11 = .ok (.ireturn, 1) := by decide +kernel
theorem dX5_lots_0 : decode cX5_lots 0 = .ok (.iload_n 1, 1) := by decide +kernel
theorem dX5_lots_1 : decode cX5_lots 1 = .ok (.iconst 1, 1) := by decide +kernel
theorem dX5_lots_2 : decode cX5_lots 2 = .ok (.bipush 20, 2) := by decide +kernel
theorem dX5_lots_4 : decode cX5_lots 4 = .ok (.invokestatic 220, 3) := by decide +kernel
theorem dX5_lots_7 : decode cX5_lots 7 = .ok (.istore 4, 2) := by decide +kernel
theorem dX5_lots_9 : decode cX5_lots 9 = .ok (.iload 4, 2) := by decide +kernel
theorem dX5_lots_11 : decode cX5_lots 11 = .ok (.ifCond .eq 10, 3) := by decide +kernel
theorem dX5_lots_14 : decode cX5_lots 14 = .ok (.aload_n 0, 1) := by decide +kernel
theorem dX5_lots_15 : decode cX5_lots 15 = .ok (.iload 4, 2) := by decide +kernel
theorem dX5_lots_17 : decode cX5_lots 17 = .ok (.invokevirtual 60, 3) := by decide +kernel
theorem dX5_lots_20 : decode cX5_lots 20 = .ok (.ireturn, 1) := by decide +kernel
theorem dX5_lots_21 : decode cX5_lots 21 = .ok (.iload_n 3, 1) := by decide +kernel
theorem dX5_lots_22 : decode cX5_lots 22 = .ok (.ifCond .eq 15, 3) := by decide +kernel
theorem dX5_lots_25 : decode cX5_lots 25 = .ok (.iload_n 3, 1) := by decide +kernel
theorem dX5_lots_26 : decode cX5_lots 26 = .ok (.iconst 1, 1) := by decide +kernel
theorem dX5_lots_27 : decode cX5_lots 27 = .ok (.if_icmp .eq 10, 3) := by decide +kernel
theorem dX5_lots_30 : decode cX5_lots 30 = .ok (.aload_n 0, 1) := by decide +kernel
theorem dX5_lots_31 : decode cX5_lots 31 = .ok (.bipush (-2), 2) := by decide +kernel
theorem dX5_lots_33 : decode cX5_lots 33 = .ok (.invokevirtual 60, 3) := by decide +kernel
theorem dX5_lots_36 : decode cX5_lots 36 = .ok (.ireturn, 1) := by decide +kernel
theorem dX5_lots_37 : decode cX5_lots 37 = .ok (.iload_n 2, 1) := by decide +kernel
theorem dX5_lots_38 : decode cX5_lots 38 = .ok (.istore 5, 2) := by decide +kernel
theorem dX5_lots_40 : decode cX5_lots 40 = .ok (.iconst 0, 1) := by decide +kernel
theorem dX5_lots_41 : decode cX5_lots 41 = .ok (.istore 6, 2) := by decide +kernel
theorem dX5_lots_43 : decode cX5_lots 43 = .ok (.iconst 0, 1) := by decide +kernel
theorem dX5_lots_44 : decode cX5_lots 44 = .ok (.istore 7, 2) := by decide +kernel
theorem dX5_lots_46 : decode cX5_lots 46 = .ok (.iload 7, 2) := by decide +kernel
theorem dX5_lots_48 : decode cX5_lots 48 = .ok (.iload_n 1, 1) := by decide +kernel
theorem dX5_lots_49 : decode cX5_lots 49 = .ok (.if_icmp .ge 120, 3) := by decide +kernel
theorem dX5_lots_52 : decode cX5_lots 52 = .ok (.aload_n 0, 1) := by decide +kernel
theorem dX5_lots_53 : decode cX5_lots 53 = .ok (.getfield 50, 3) := by decide +kernel
theorem dX5_lots_56 : decode cX5_lots 56 = .ok (.aload_n 0, 1) := by decide +kernel
theorem dX5_lots_57 : decode cX5_lots 57 = .ok (.getfield 10, 3) := by decide +kernel
theorem dX5_lots_60 : decode cX5_lots 60 = .ok (.invokevirtual 67, 3) := by decide +kernel
theorem dX5_lots_63 : decode cX5_lots 63 = .ok (.aload_n 0, 1) := by decide +kernel
theorem dX5_lots_64 : decode cX5_lots 64 = .ok (.getfield 50, 3) := by decide +kernel
theorem dX5_lots_67 : decode cX5_lots 67 = .ok (.getfield 81, 3) := by decide +kernel
theorem dX5_lots_70 : decode cX5_lots 70 = .ok (.astore 8, 2) := by decide +kernel
theorem dX5_lots_72 : decode cX5_lots 72 = .ok (.iconst 0, 1) := by decide +kernel
theorem dX5_lots_73 : decode cX5_lots 73 = .ok (.istore 9, 2) := by decide +kernel
theorem dX5_lots_75 : decode cX5_lots 75 = .ok (.iload 9, 2) := by decide +kernel
theorem dX5_lots_77 : decode cX5_lots 77 = .ok (.aload 8, 2) := by decide +kernel
theorem dX5_lots_79 : decode cX5_lots 79 = .ok (.getfield 207, 3) := by decide +kernel
theorem dX5_lots_82 : decode cX5_lots 82 = .ok (.if_icmp .ge 50, 3) := by decide +kernel
theorem dX5_lots_85 : decode cX5_lots 85 = .ok (.iload 5, 2) := by decide +kernel
theorem dX5_lots_87 : decode cX5_lots 87 = .ok (.ldc_w 310, 3) := by decide +kernel
theorem dX5_lots_90 : decode cX5_lots 90 = .ok (.imul, 1) := by decide +kernel
theorem dX5_lots_91 : decode cX5_lots 91 = .ok (.sipush 12345, 3) := by decide +kernel
theorem dX5_lots_94 : decode cX5_lots 94 = .ok (.iadd, 1) := by decide +kernel
theorem dX5_lots_95 : decode cX5_lots 95 = .ok (.istore 5, 2) := by decide +kernel
theorem dX5_lots_97 : decode cX5_lots 97 = .ok (.aload 8, 2) := by decide +kernel
theorem dX5_lots_99 : decode cX5_lots 99 = .ok (.getfield 165, 3) := by decide +kernel
theorem dX5_lots_102 : decode cX5_lots 102 = .ok (.iload 9, 2) := by decide +kernel
theorem dX5_lots_104 : decode cX5_lots 104 = .ok (.iload 5, 2) := by decide +kernel
theorem dX5_lots_106 : decode cX5_lots 106 = .ok (.ldc_w 311, 3) := by decide +kernel
theorem dX5_lots_109 : decode cX5_lots 109 = .ok (.iand, 1) := by decide +kernel
theorem dX5_lots_110 : decode cX5_lots 110 = .ok (.bipush 16, 2) := by decide +kernel
theorem dX5_lots_112 : decode cX5_lots 112 = .ok (.ishr, 1) := by decide +kernel
theorem dX5_lots_113 : decode cX5_lots 113 = .ok (.bipush 24, 2) := by decide +kernel
theorem dX5_lots_115 : decode cX5_lots 115 = .ok (.irem, 1) := by decide +kernel
theorem dX5_lots_116 : decode cX5_lots 116 = .ok (.iastore, 1) := by decide +kernel
theorem dX5_lots_117 : decode cX5_lots 117 = .ok (.aload 8, 2) := by decide +kernel
theorem dX5_lots_119 : decode cX5_lots 119 = .ok (.getfield 168, 3) := by decide +kernel
theorem dX5_lots_122 : decode cX5_lots 122 = .ok (.iload 9, 2) := by decide +kernel
theorem dX5_lots_124 : decode cX5_lots 124 = .ok (.iconst (-1), 1) := by decide +kernel
theorem dX5_lots_125 : decode cX5_lots 125 = .ok (.iastore, 1) := by decide +kernel
theorem dX5_lots_126 : decode cX5_lots 126 = .ok (.iinc 9 1, 3) := by decide +kernel
theorem dX5_lots_129 : decode cX5_lots 129 = .ok (.goto (-54), 3) := by decide +kernel
theorem dX5_lots_132 : decode cX5_lots 132 = .ok (.aload_n 0, 1) := by decide +kernel
theorem dX5_lots_133 : decode cX5_lots 133 = .ok (.getfield 50, 3) := by decide +kernel
theorem dX5_lots_136 : decode cX5_lots 136 = .ok (.bipush 10, 2) := by decide +kernel
theorem dX5_lots_138 : decode cX5_lots 138 = .ok (.invokevirtual 119, 3) := by decide +kernel
theorem dX5_lots_141 : decode cX5_lots 141 = .ok (.iload 6, 2) := by decide +kernel
theorem dX5_lots_143 : decode cX5_lots 143 = .ok (.iload_n 3, 1) := by decide +kernel
theorem dX5_lots_144 : decode cX5_lots 144 = .ok (.ifCond .ne 11, 3) := by decide +kernel
theorem dX5_lots_147 : decode cX5_lots 147 = .ok (.aload 8, 2) := by decide +kernel
theorem dX5_lots_149 : decode cX5_lots 149 = .ok (.invokevirtual 213, 3) := by decide +kernel
theorem dX5_lots_152 : decode cX5_lots 152 = .ok (.goto 8, 3) := by decide +kernel
theorem dX5_lots_155 : decode cX5_lots 155 = .ok (.aload 8, 2) := by decide +kernel
theorem dX5_lots_157 : decode cX5_lots 157 = .ok (.invokevirtual 312, 3) := by decide +kernel
theorem dX5_lots_160 : decode cX5_lots 160 = .ok (.iadd, 1) := by decide +kernel
theorem dX5_lots_161 : decode cX5_lots 161 = .ok (.istore 6, 2) := by decide +kernel
theorem dX5_lots_163 : decode cX5_lots 163 = .ok (.iinc 7 1, 3) := by decide +kernel
theorem dX5_lots_166 : decode cX5_lots 166 = .ok (.goto (-120), 3) := by decide +kernel
theorem dX5_lots_169 : decode cX5_lots 169 = .ok (.iload 6, 2) := by decide +kernel
theorem dX5_lots_171 : decode cX5_lots 171 = .ok (.ireturn, 1) := by decide +kernel
theorem dX5_image_0 : decode cX5_image 0 = .ok (.aload_n 0, 1) := by decide +kernel
theorem dX5_image_1 : decode cX5_image 1 = .ok (.getfield 16, 3) := by decide +kernel
theorem dX5_image_4 : decode cX5_image 4 = .ok (.aload_n 0, 1) := by decide +kernel
theorem dX5_image_5 : decode cX5_image 5 = .ok (.getfield 10, 3) := by decide +kernel
theorem dX5_image_8 : decode cX5_image 8 = .ok (.invokevirtual 84, 3) := by decide +kernel
theorem dX5_image_11 : decode cX5_image 11 = .ok (.aload_n 0, 1) := by decide +kernel
theorem dX5_image_12 : decode cX5_image 12 = .ok (.iconst 1, 1) := by decide +kernel
theorem dX5_image_13 : decode cX5_image 13 = .ok (.putfield 19, 3) := by decide +kernel
theorem dX5_image_16 : decode cX5_image 16 = .ok (.aload_n 0, 1) := by decide +kernel
theorem dX5_image_17 : decode cX5_image 17 = .ok (.getfield 10, 3) := by decide +kernel
theorem dX5_image_20 : decode cX5_image 20 = .ok (.getfield 116, 3) := by decide +kernel
theorem dX5_image_23 : decode cX5_image 23 = .ok (.ireturn, 1) := by decide +kernel
theorem dX5_restore_0 : decode cX5_restore 0 = .ok (.aload_n 0, 1) := by decide +kernel
theorem dX5_restore_1 : decode cX5_restore 1 = .ok (.getfield 19, 3) := by decide +kernel
theorem dX5_restore_4 : decode cX5_restore 4 = .ok (.ifCond .ne 10, 3) := by decide +kernel
theorem dX5_restore_7 : decode cX5_restore 7 = .ok (.aload_n 0, 1) := by decide +kernel
theorem dX5_restore_8 : decode cX5_restore 8 = .ok (.bipush (-3), 2) := by decide +kernel
theorem dX5_restore_10 : decode cX5_restore 10 = .ok (.invokevirtual 60, 3) := by decide +kernel
theorem dX5_restore_13 : decode cX5_restore 13 = .ok (.ireturn, 1) := by decide +kernel
theorem dX5_restore_14 : decode cX5_restore 14 = .ok (.aload_n 0, 1) := by decide +kernel
theorem dX5_restore_15 : decode cX5_restore 15 = .ok (.getfield 10, 3) := by decide +kernel
theorem dX5_restore_18 : decode cX5_restore 18 = .ok (.aload_n 0, 1) := by decide +kernel
theorem dX5_restore_19 : decode cX5_restore 19 = .ok (.getfield 16, 3) := by decide +kernel
theorem dX5_restore_22 : decode cX5_restore 22 = .ok (.invokevirtual 84, 3) := by decide +kernel
theorem dX5_restore_25 : decode cX5_restore 25 = .ok (.aload_n 0, 1) := by decide +kernel
theorem dX5_restore_26 : decode cX5_restore 26 = .ok (.iconst 0, 1) := by decide +kernel
theorem dX5_restore_27 : decode cX5_restore 27 = .ok (.putfield 27, 3) := by decide +kernel
theorem dX5_restore_30 : decode cX5_restore 30 = .ok (.aload_n 0, 1) := by decide +kernel
theorem dX5_restore_31 : decode cX5_restore 31 = .ok (.getfield 10, 3) := by decide +kernel
theorem dX5_restore_34 : decode cX5_restore 34 = .ok (.getfield 116, 3) := by decide +kernel
theorem dX5_restore_37 : decode cX5_restore 37 = .ok (.ireturn, 1) := by decide +kernel
theorem dX5_refuse_0 : decode cX5_refuse 0 = .ok (.iload_n 1, 1) := by decide +kernel
theorem dX5_refuse_1 : decode cX5_refuse 1 = .ok (.ineg, 1) := by decide +kernel
theorem dX5_refuse_2 : decode cX5_refuse 2 = .ok (.istore_n 2, 1) := by decide +kernel
theorem dX5_refuse_3 : decode cX5_refuse 3 = .ok (.iload_n 2, 1) := by decide +kernel
theorem dX5_refuse_4 : decode cX5_refuse 4 = .ok (.ifCond .lt 19, 3) := by decide +kernel
theorem dX5_refuse_7 : decode cX5_refuse 7 = .ok (.iload_n 2, 1) := by decide +kernel
theorem dX5_refuse_8 : decode cX5_refuse 8 = .ok (.bipush 6, 2) := by decide +kernel
theorem dX5_refuse_10 : decode cX5_refuse 10 = .ok (.if_icmp .gt 13, 3) := by decide +kernel
theorem dX5_refuse_13 : decode cX5_refuse 13 = .ok (.aload_n 0, 1) := by decide +kernel
theorem dX5_refuse_14 : decode cX5_refuse 14 = .ok (.getfield 44, 3) := by decide +kernel
theorem dX5_refuse_17 : decode cX5_refuse 17 = .ok (.iload_n 2, 1) := by decide +kernel
theorem dX5_refuse_18 : decode cX5_refuse 18 = .ok (.dup2, 1) := by decide +kernel
theorem dX5_refuse_19 : decode cX5_refuse 19 = .ok (.iaload, 1) := by decide +kernel
theorem dX5_refuse_20 : decode cX5_refuse 20 = .ok (.iconst 1, 1) := by decide +kernel
theorem dX5_refuse_21 : decode cX5_refuse 21 = .ok (.iadd, 1) := by decide +kernel
theorem dX5_refuse_22 : decode cX5_refuse 22 = .ok (.iastore, 1) := by decide +kernel
theorem dX5_refuse_23 : decode cX5_refuse 23 = .ok (.iload_n 1, 1) := by decide +kernel
theorem dX5_refuse_24 : decode cX5_refuse 24 = .ok (.ireturn, 1) := by decide +kernel
theorem dX5_refuseLong_0 : decode cX5_refuseLong 0 = .ok (.ldc2_w 315, 3) := by decide +kernel
theorem dX5_refuseLong_3 : decode cX5_refuseLong 3 = .ok (.aload_n 0, 1) := by decide +kernel
theorem dX5_refuseLong_4 : decode cX5_refuseLong 4 = .ok (.iload_n 1, 1) := by decide +kernel
theorem dX5_refuseLong_5 : decode cX5_refuseLong 5 = .ok (.invokevirtual 60, 3) := by decide +kernel
theorem dX5_refuseLong_8 : decode cX5_refuseLong 8 = .ok (.i2l, 1) := by decide +kernel
theorem dX5_refuseLong_9 : decode cX5_refuseLong 9 = .ok (.lsub, 1) := by decide +kernel
theorem dX5_refuseLong_10 : decode cX5_refuseLong 10 = .ok (.lreturn, 1) := by decide +kernel
theorem dX5_outOfRange_0 : decode cX5_outOfRange 0 = .ok (.iload_n 0, 1) := by decide +kernel
theorem dX5_outOfRange_1 : decode cX5_outOfRange 1 = .ok (.iload_n 1, 1) := by decide +kernel
theorem dX5_outOfRange_2 : decode cX5_outOfRange 2 = .ok (.if_icmp .ge 6, 3) := by decide +kernel
theorem dX5_outOfRange_5 : decode cX5_outOfRange 5 = .ok (.bipush (-4), 2) := by decide +kernel
theorem dX5_outOfRange_7 : decode cX5_outOfRange 7 = .ok (.ireturn, 1) := by decide +kernel
theorem dX5_outOfRange_8 : decode cX5_outOfRange 8 = .ok (.iload_n 0, 1) := by decide +kernel
theorem dX5_outOfRange_9 : decode cX5_outOfRange 9 = .ok (.iload_n 2, 1) := by decide +kernel
theorem dX5_outOfRange_10 : decode cX5_outOfRange 10 = .ok (.if_icmp .le 8, 3) := by decide +kernel
theorem dX5_outOfRange_13 : decode cX5_outOfRange 13 = .ok (.bipush (-6), 2) := by decide +kernel
theorem dX5_outOfRange_15 : decode cX5_outOfRange 15 = .ok (.goto 4, 3) := by decide +kernel
theorem dX5_outOfRange_18 : decode cX5_outOfRange 18 = .ok (.iconst 0, 1) := by decide +kernel
theorem dX5_outOfRange_19 : decode cX5_outOfRange 19 = .ok (.ireturn, 1) := by decide +kernel
theorem dX5_isCell_0 : decode cX5_isCell 0 = .ok (.iload_n 0, 1) := by decide +kernel
theorem dX5_isCell_1 : decode cX5_isCell 1 = .ok (.ifCond .lt 13, 3) := by decide +kernel
theorem dX5_isCell_4 : decode cX5_isCell 4 = .ok (.iload_n 0, 1) := by decide +kernel
theorem dX5_isCell_5 : decode cX5_isCell 5 = .ok (.bipush 24, 2) := by decide +kernel
theorem dX5_isCell_7 : decode cX5_isCell 7 = .ok (.if_icmp .ge 7, 3) := by decide +kernel
theorem dX5_isCell_10 : decode cX5_isCell 10 = .ok (.iconst 1, 1) := by decide +kernel
theorem dX5_isCell_11 : decode cX5_isCell 11 = .ok (.goto 4, 3) := by decide +kernel
theorem dX5_isCell_14 : decode cX5_isCell 14 = .ok (.iconst 0, 1) := by decide +kernel
theorem dX5_isCell_15 : decode cX5_isCell 15 = .ok (.ireturn, 1) := by decide +kernel
theorem dX5_orNone_0 : decode cX5_orNone 0 = .ok (.iload_n 0, 1) := by decide +kernel
theorem dX5_orNone_1 : decode cX5_orNone 1 = .ok (.iconst (-1), 1) := by decide +kernel
theorem dX5_orNone_2 : decode cX5_orNone 2 = .ok (.if_icmp .ne 8, 3) := by decide +kernel
theorem dX5_orNone_5 : decode cX5_orNone 5 = .ok (.bipush (-9), 2) := by decide +kernel
theorem dX5_orNone_7 : decode cX5_orNone 7 = .ok (.goto 4, 3) := by decide +kernel
theorem dX5_orNone_10 : decode cX5_orNone 10 = .ok (.iload_n 0, 1) := by decide +kernel
theorem dX5_orNone_11 : decode cX5_orNone 11 = .ok (.ireturn, 1) := by decide +kernel
theorem dX5_leastThing_0 : decode cX5_leastThing 0 = .ok (.iconst 0, 1) := by decide +kernel
theorem dX5_leastThing_1 : decode cX5_leastThing 1 = .ok (.istore_n 1, 1) := by decide +kernel
theorem dX5_leastThing_2 : decode cX5_leastThing 2 = .ok (.iload_n 1, 1) := by decide +kernel
theorem dX5_leastThing_3 : decode cX5_leastThing 3 = .ok (.bipush 8, 2) := by decide +kernel
theorem dX5_leastThing_5 : decode cX5_leastThing 5 = .ok (.if_icmp .ge 19, 3) := by decide +kernel
theorem dX5_leastThing_8 : decode cX5_leastThing 8 = .ok (.iload_n 0, 1) := by decide +kernel
theorem dX5_leastThing_9 : decode cX5_leastThing 9 = .ok (.iconst 1, 1) := by decide +kernel
theorem dX5_leastThing_10 : decode cX5_leastThing 10 = .ok (.iload_n 1, 1) := by decide +kernel
theorem dX5_leastThing_11 : decode cX5_leastThing 11 = .ok (.ishl, 1) := by decide +kernel
theorem dX5_leastThing_12 : decode cX5_leastThing 12 = .ok (.iand, 1) := by decide +kernel
theorem dX5_leastThing_13 : decode cX5_leastThing 13 = .ok (.ifCond .eq 5, 3) := by decide +kernel
theorem dX5_leastThing_16 : decode cX5_leastThing 16 = .ok (.iload_n 1, 1) := by decide +kernel
theorem dX5_leastThing_17 : decode cX5_leastThing 17 = .ok (.ireturn, 1) := by decide +kernel
theorem dX5_leastThing_18 : decode cX5_leastThing 18 = .ok (.iinc 1 1, 3) := by decide +kernel
theorem dX5_leastThing_21 : decode cX5_leastThing 21 = .ok (.goto (-19), 3) := by decide +kernel
theorem dX5_leastThing_24 : decode cX5_leastThing 24 = .ok (.bipush (-9), 2) := by decide +kernel
theorem dX5_leastThing_26 : decode cX5_leastThing 26 = .ok (.ireturn, 1) := by decide +kernel
theorem dX5_power_0 : decode cX5_power 0 = .ok (.lconst 1, 1) := by decide +kernel
theorem dX5_power_1 : decode cX5_power 1 = .ok (.lstore_n 3, 1) := by decide +kernel
theorem dX5_power_2 : decode cX5_power 2 = .ok (.iconst 0, 1) := by decide +kernel
theorem dX5_power_3 : decode cX5_power 3 = .ok (.istore 5, 2) := by decide +kernel
theorem dX5_power_5 : decode cX5_power 5 = .ok (.iload 5, 2) := by decide +kernel
theorem dX5_power_7 : decode cX5_power 7 = .ok (.iload_n 2, 1) := by decide +kernel
theorem dX5_power_8 : decode cX5_power 8 = .ok (.if_icmp .ge 13, 3) := by decide +kernel
theorem dX5_power_11 : decode cX5_power 11 = .ok (.lload_n 3, 1) := by decide +kernel
theorem dX5_power_12 : decode cX5_power 12 = .ok (.lload_n 0, 1) := by decide +kernel
theorem dX5_power_13 : decode cX5_power 13 = .ok (.lmul, 1) := by decide +kernel
theorem dX5_power_14 : decode cX5_power 14 = .ok (.lstore_n 3, 1) := by decide +kernel
theorem dX5_power_15 : decode cX5_power 15 = .ok (.iinc 5 1, 3) := by decide +kernel
theorem dX5_power_18 : decode cX5_power 18 = .ok (.goto (-13), 3) := by decide +kernel
theorem dX5_power_21 : decode cX5_power 21 = .ok (.lload_n 3, 1) := by decide +kernel
theorem dX5_power_22 : decode cX5_power 22 = .ok (.lreturn, 1) := by decide +kernel
theorem dX5_lowest_0 : decode cX5_lowest 0 = .ok (.lload_n 0, 1) := by decide +kernel
theorem dX5_lowest_1 : decode cX5_lowest 1 = .ok (.lconst 0, 1) := by decide +kernel
theorem dX5_lowest_2 : decode cX5_lowest 2 = .ok (.lcmp, 1) := by decide +kernel
theorem dX5_lowest_3 : decode cX5_lowest 3 = .ok (.ifCond .eq 9, 3) := by decide +kernel
theorem dX5_lowest_6 : decode cX5_lowest 6 = .ok (.lload_n 2, 1) := by decide +kernel
theorem dX5_lowest_7 : decode cX5_lowest 7 = .ok (.lconst 0, 1) := by decide +kernel
theorem dX5_lowest_8 : decode cX5_lowest 8 = .ok (.lcmp, 1) := by decide +kernel
theorem dX5_lowest_9 : decode cX5_lowest 9 = .ok (.ifCond .ne 14, 3) := by decide +kernel
theorem dX5_lowest_12 : decode cX5_lowest 12 = .ok (.iload 4, 2) := by decide +kernel
theorem dX5_lowest_14 : decode cX5_lowest 14 = .ok (.ifCond .ne 7, 3) := by decide +kernel
theorem dX5_lowest_17 : decode cX5_lowest 17 = .ok (.lconst 0, 1) := by decide +kernel
theorem dX5_lowest_18 : decode cX5_lowest 18 = .ok (.goto 4, 3) := by decide +kernel
theorem dX5_lowest_21 : decode cX5_lowest 21 = .ok (.lconst 1, 1) := by decide +kernel
theorem dX5_lowest_22 : decode cX5_lowest 22 = .ok (.lreturn, 1) := by decide +kernel
theorem dX5_lowest_23 : decode cX5_lowest 23 = .ok (.lload_n 2, 1) := by decide +kernel
theorem dX5_lowest_24 : decode cX5_lowest 24 = .ok (.lstore 5, 2) := by decide +kernel
theorem dX5_lowest_26 : decode cX5_lowest 26 = .ok (.lload_n 0, 1) := by decide +kernel
theorem dX5_lowest_27 : decode cX5_lowest 27 = .ok (.lload_n 2, 1) := by decide +kernel
theorem dX5_lowest_28 : decode cX5_lowest 28 = .ok (.lrem, 1) := by decide +kernel
theorem dX5_lowest_29 : decode cX5_lowest 29 = .ok (.lstore 7, 2) := by decide +kernel
theorem dX5_lowest_31 : decode cX5_lowest 31 = .ok (.iconst 0, 1) := by decide +kernel
theorem dX5_lowest_32 : decode cX5_lowest 32 = .ok (.istore 9, 2) := by decide +kernel
theorem dX5_lowest_34 : decode cX5_lowest 34 = .ok (.iload 9, 2) := by decide +kernel
theorem dX5_lowest_36 : decode cX5_lowest 36 = .ok (.sipush 200, 3) := by decide +kernel
theorem dX5_lowest_39 : decode cX5_lowest 39 = .ok (.if_icmp .ge 31, 3) := by decide +kernel
theorem dX5_lowest_42 : decode cX5_lowest 42 = .ok (.lload 7, 2) := by decide +kernel
theorem dX5_lowest_44 : decode cX5_lowest 44 = .ok (.lconst 0, 1) := by decide +kernel
theorem dX5_lowest_45 : decode cX5_lowest 45 = .ok (.lcmp, 1) := by decide +kernel
theorem dX5_lowest_46 : decode cX5_lowest 46 = .ok (.ifCond .eq 24, 3) := by decide +kernel
theorem dX5_lowest_49 : decode cX5_lowest 49 = .ok (.lload 5, 2) := by decide +kernel
theorem dX5_lowest_51 : decode cX5_lowest 51 = .ok (.lload 7, 2) := by decide +kernel
theorem dX5_lowest_53 : decode cX5_lowest 53 = .ok (.lrem, 1) := by decide +kernel
theorem dX5_lowest_54 : decode cX5_lowest 54 = .ok (.lstore 10, 2) := by decide +kernel
theorem dX5_lowest_56 : decode cX5_lowest 56 = .ok (.lload 7, 2) := by decide +kernel
theorem dX5_lowest_58 : decode cX5_lowest 58 = .ok (.lstore 5, 2) := by decide +kernel
theorem dX5_lowest_60 : decode cX5_lowest 60 = .ok (.lload 10, 2) := by decide +kernel
theorem dX5_lowest_62 : decode cX5_lowest 62 = .ok (.lstore 7, 2) := by decide +kernel
theorem dX5_lowest_64 : decode cX5_lowest 64 = .ok (.iinc 9 1, 3) := by decide +kernel
theorem dX5_lowest_67 : decode cX5_lowest 67 = .ok (.goto (-33), 3) := by decide +kernel
theorem dX5_lowest_70 : decode cX5_lowest 70 = .ok (.iload 4, 2) := by decide +kernel
theorem dX5_lowest_72 : decode cX5_lowest 72 = .ok (.ifCond .ne 10, 3) := by decide +kernel
theorem dX5_lowest_75 : decode cX5_lowest 75 = .ok (.lload_n 0, 1) := by decide +kernel
theorem dX5_lowest_76 : decode cX5_lowest 76 = .ok (.lload 5, 2) := by decide +kernel
theorem dX5_lowest_78 : decode cX5_lowest 78 = .ok (.ldiv, 1) := by decide +kernel
theorem dX5_lowest_79 : decode cX5_lowest 79 = .ok (.goto 7, 3) := by decide +kernel
theorem dX5_lowest_82 : decode cX5_lowest 82 = .ok (.lload_n 2, 1) := by decide +kernel
theorem dX5_lowest_83 : decode cX5_lowest 83 = .ok (.lload 5, 2) := by decide +kernel
theorem dX5_lowest_85 : decode cX5_lowest 85 = .ok (.ldiv, 1) := by decide +kernel
theorem dX5_lowest_86 : decode cX5_lowest 86 = .ok (.lreturn, 1) := by decide +kernel
theorem dX5_thinkOn_0 : decode cX5_thinkOn 0 = .ok (.aload_n 0, 1) := by decide +kernel
theorem dX5_thinkOn_1 : decode cX5_thinkOn 1 = .ok (.getfield 50, 3) := by decide +kernel
theorem dX5_thinkOn_4 : decode cX5_thinkOn 4 = .ok (.aload_n 0, 1) := by decide +kernel
theorem dX5_thinkOn_5 : decode cX5_thinkOn 5 = .ok (.getfield 10, 3) := by decide +kernel
theorem dX5_thinkOn_8 : decode cX5_thinkOn 8 = .ok (.invokevirtual 67, 3) := by decide +kernel
theorem dX5_thinkOn_11 : decode cX5_thinkOn 11 = .ok (.aload_n 0, 1) := by decide +kernel
theorem dX5_thinkOn_12 : decode cX5_thinkOn 12 = .ok (.getfield 50, 3) := by decide +kernel
theorem dX5_thinkOn_15 : decode cX5_thinkOn 15 = .ok (.iload_n 1, 1) := by decide +kernel
theorem dX5_thinkOn_16 : decode cX5_thinkOn 16 = .ok (.invokevirtual 119, 3) := by decide +kernel
theorem dX5_thinkOn_19 : decode cX5_thinkOn 19 = .ok (.return_, 1) := by decide +kernel
theorem dJ6_bitCount_0f7a4_0 : decode cJ6_bitCount_0f7a4 0 = .ok (.iload_n 0, 1) := by decide +kernel
theorem dJ6_bitCount_0f7a4_1 : decode cJ6_bitCount_0f7a4 1 = .ok (.iload_n 0, 1) := by decide +kernel
theorem dJ6_bitCount_0f7a4_2 : decode cJ6_bitCount_0f7a4 2 = .ok (.iconst 1, 1) := by decide +kernel
theorem dJ6_bitCount_0f7a4_3 : decode cJ6_bitCount_0f7a4 3 = .ok (.iushr, 1) := by decide +kernel
theorem dJ6_bitCount_0f7a4_4 : decode cJ6_bitCount_0f7a4 4 = .ok (.ldc_w 265, 3) := by decide +kernel
theorem dJ6_bitCount_0f7a4_7 : decode cJ6_bitCount_0f7a4 7 = .ok (.iand, 1) := by decide +kernel
theorem dJ6_bitCount_0f7a4_8 : decode cJ6_bitCount_0f7a4 8 = .ok (.isub, 1) := by decide +kernel
theorem dJ6_bitCount_0f7a4_9 : decode cJ6_bitCount_0f7a4 9 = .ok (.istore_n 0, 1) := by decide +kernel
theorem dJ6_bitCount_0f7a4_10 : decode cJ6_bitCount_0f7a4 10 = .ok (.iload_n 0, 1) := by decide +kernel
theorem dJ6_bitCount_0f7a4_11 : decode cJ6_bitCount_0f7a4 11 = .ok (.ldc_w 266, 3) := by decide +kernel
theorem dJ6_bitCount_0f7a4_14 : decode cJ6_bitCount_0f7a4 14 = .ok (.iand, 1) := by decide +kernel
theorem dJ6_bitCount_0f7a4_15 : decode cJ6_bitCount_0f7a4 15 = .ok (.iload_n 0, 1) := by decide +kernel
theorem dJ6_bitCount_0f7a4_16 : decode cJ6_bitCount_0f7a4 16 = .ok (.iconst 2, 1) := by decide +kernel
theorem dJ6_bitCount_0f7a4_17 : decode cJ6_bitCount_0f7a4 17 = .ok (.iushr, 1) := by decide +kernel
theorem dJ6_bitCount_0f7a4_18 : decode cJ6_bitCount_0f7a4 18 = .ok (.ldc_w 266, 3) := by decide +kernel
theorem dJ6_bitCount_0f7a4_21 : decode cJ6_bitCount_0f7a4 21 = .ok (.iand, 1) := by decide +kernel
theorem dJ6_bitCount_0f7a4_22 : decode cJ6_bitCount_0f7a4 22 = .ok (.iadd, 1) := by decide +kernel
theorem dJ6_bitCount_0f7a4_23 : decode cJ6_bitCount_0f7a4 23 = .ok (.istore_n 0, 1) := by decide +kernel
theorem dJ6_bitCount_0f7a4_24 : decode cJ6_bitCount_0f7a4 24 = .ok (.iload_n 0, 1) := by decide +kernel
theorem dJ6_bitCount_0f7a4_25 : decode cJ6_bitCount_0f7a4 25 = .ok (.iload_n 0, 1) := by decide +kernel
theorem dJ6_bitCount_0f7a4_26 : decode cJ6_bitCount_0f7a4 26 = .ok (.iconst 4, 1) := by decide +kernel
theorem dJ6_bitCount_0f7a4_27 : decode cJ6_bitCount_0f7a4 27 = .ok (.iushr, 1) := by decide +kernel
theorem dJ6_bitCount_0f7a4_28 : decode cJ6_bitCount_0f7a4 28 = .ok (.iadd, 1) := by decide +kernel
theorem dJ6_bitCount_0f7a4_29 : decode cJ6_bitCount_0f7a4 29 = .ok (.ldc_w 267, 3) := by decide +kernel
theorem dJ6_bitCount_0f7a4_32 : decode cJ6_bitCount_0f7a4 32 = .ok (.iand, 1) := by decide +kernel
theorem dJ6_bitCount_0f7a4_33 : decode cJ6_bitCount_0f7a4 33 = .ok (.istore_n 0, 1) := by decide +kernel
theorem dJ6_bitCount_0f7a4_34 : decode cJ6_bitCount_0f7a4 34 = .ok (.iload_n 0, 1) := by decide +kernel
theorem dJ6_bitCount_0f7a4_35 : decode cJ6_bitCount_0f7a4 35 = .ok (.iload_n 0, 1) := by decide +kernel
theorem dJ6_bitCount_0f7a4_36 : decode cJ6_bitCount_0f7a4 36 = .ok (.bipush 8, 2) := by decide +kernel
theorem dJ6_bitCount_0f7a4_38 : decode cJ6_bitCount_0f7a4 38 = .ok (.iushr, 1) := by decide +kernel
theorem dJ6_bitCount_0f7a4_39 : decode cJ6_bitCount_0f7a4 39 = .ok (.iadd, 1) := by decide +kernel
theorem dJ6_bitCount_0f7a4_40 : decode cJ6_bitCount_0f7a4 40 = .ok (.istore_n 0, 1) := by decide +kernel
theorem dJ6_bitCount_0f7a4_41 : decode cJ6_bitCount_0f7a4 41 = .ok (.iload_n 0, 1) := by decide +kernel
theorem dJ6_bitCount_0f7a4_42 : decode cJ6_bitCount_0f7a4 42 = .ok (.iload_n 0, 1) := by decide +kernel
theorem dJ6_bitCount_0f7a4_43 : decode cJ6_bitCount_0f7a4 43 = .ok (.bipush 16, 2) := by decide +kernel
theorem dJ6_bitCount_0f7a4_45 : decode cJ6_bitCount_0f7a4 45 = .ok (.iushr, 1) := by decide +kernel
theorem dJ6_bitCount_0f7a4_46 : decode cJ6_bitCount_0f7a4 46 = .ok (.iadd, 1) := by decide +kernel
theorem dJ6_bitCount_0f7a4_47 : decode cJ6_bitCount_0f7a4 47 = .ok (.istore_n 0, 1) := by decide +kernel
theorem dJ6_bitCount_0f7a4_48 : decode cJ6_bitCount_0f7a4 48 = .ok (.iload_n 0, 1) := by decide +kernel
theorem dJ6_bitCount_0f7a4_49 : decode cJ6_bitCount_0f7a4 49 = .ok (.bipush 63, 2) := by decide +kernel
theorem dJ6_bitCount_0f7a4_51 : decode cJ6_bitCount_0f7a4 51 = .ok (.iand, 1) := by decide +kernel
theorem dJ6_bitCount_0f7a4_52 : decode cJ6_bitCount_0f7a4 52 = .ok (.ireturn, 1) := by decide +kernel
theorem dJ9_abs_0f7a4_0 : decode cJ9_abs_0f7a4 0 = .ok (.iload_n 0, 1) := by decide +kernel
theorem dJ9_abs_0f7a4_1 : decode cJ9_abs_0f7a4 1 = .ok (.ifCond .ge 8, 3) := by decide +kernel
theorem dJ9_abs_0f7a4_4 : decode cJ9_abs_0f7a4 4 = .ok (.iload_n 0, 1) := by decide +kernel
theorem dJ9_abs_0f7a4_5 : decode cJ9_abs_0f7a4 5 = .ok (.ineg, 1) := by decide +kernel
theorem dJ9_abs_0f7a4_6 : decode cJ9_abs_0f7a4 6 = .ok (.goto 4, 3) := by decide +kernel
theorem dJ9_abs_0f7a4_9 : decode cJ9_abs_0f7a4 9 = .ok (.iload_n 0, 1) := by decide +kernel
theorem dJ9_abs_0f7a4_10 : decode cJ9_abs_0f7a4 10 = .ok (.ireturn, 1) := by decide +kernel
theorem dJ9_max_7cf53_0 : decode cJ9_max_7cf53 0 = .ok (.iload_n 0, 1) := by decide +kernel
theorem dJ9_max_7cf53_1 : decode cJ9_max_7cf53 1 = .ok (.iload_n 1, 1) := by decide +kernel
theorem dJ9_max_7cf53_2 : decode cJ9_max_7cf53 2 = .ok (.if_icmp .lt 7, 3) := by decide +kernel
theorem dJ9_max_7cf53_5 : decode cJ9_max_7cf53 5 = .ok (.iload_n 0, 1) := by decide +kernel
theorem dJ9_max_7cf53_6 : decode cJ9_max_7cf53 6 = .ok (.goto 4, 3) := by decide +kernel
theorem dJ9_max_7cf53_9 : decode cJ9_max_7cf53 9 = .ok (.iload_n 1, 1) := by decide +kernel
theorem dJ9_max_7cf53_10 : decode cJ9_max_7cf53 10 = .ok (.ireturn, 1) := by decide +kernel
theorem dX6_init_0 : decode cX6_init 0 = .ok (.aload_n 0, 1) := by decide +kernel
theorem dX6_init_1 : decode cX6_init 1 = .ok (.invokespecial 1, 3) := by decide +kernel
theorem dX6_init_4 : decode cX6_init 4 = .ok (.aload_n 0, 1) := by decide +kernel
theorem dX6_init_5 : decode cX6_init 5 = .ok (.bipush 7, 2) := by decide +kernel
theorem dX6_init_7 : decode cX6_init 7 = .ok (.newarray .int, 2) := by decide +kernel
theorem dX6_init_9 : decode cX6_init 9 = .ok (.putfield 7, 3) := by decide +kernel
theorem dX6_init_12 : decode cX6_init 12 = .ok (.aload_n 0, 1) := by decide +kernel
theorem dX6_init_13 : decode cX6_init 13 = .ok (.bipush 6, 2) := by decide +kernel
theorem dX6_init_15 : decode cX6_init 15 = .ok (.newarray .int, 2) := by decide +kernel
theorem dX6_init_17 : decode cX6_init 17 = .ok (.putfield 13, 3) := by decide +kernel
theorem dX6_init_20 : decode cX6_init 20 = .ok (.aload_n 0, 1) := by decide +kernel
theorem dX6_init_21 : decode cX6_init 21 = .ok (.bipush 6, 2) := by decide +kernel
theorem dX6_init_23 : decode cX6_init 23 = .ok (.newarray .int, 2) := by decide +kernel
theorem dX6_init_25 : decode cX6_init 25 = .ok (.putfield 16, 3) := by decide +kernel
theorem dX6_init_28 : decode cX6_init 28 = .ok (.aload_n 0, 1) := by decide +kernel
theorem dX6_init_29 : decode cX6_init 29 = .ok (.bipush 6, 2) := by decide +kernel
theorem dX6_init_31 : decode cX6_init 31 = .ok (.newarray .int, 2) := by decide +kernel
theorem dX6_init_33 : decode cX6_init 33 = .ok (.putfield 19, 3) := by decide +kernel
theorem dX6_init_36 : decode cX6_init 36 = .ok (.aload_n 0, 1) := by decide +kernel
theorem dX6_init_37 : decode cX6_init 37 = .ok (.bipush 8, 2) := by decide +kernel
theorem dX6_init_39 : decode cX6_init 39 = .ok (.newarray .int, 2) := by decide +kernel
theorem dX6_init_41 : decode cX6_init 41 = .ok (.putfield 22, 3) := by decide +kernel
theorem dX6_init_44 : decode cX6_init 44 = .ok (.aload_n 0, 1) := by decide +kernel
theorem dX6_init_45 : decode cX6_init 45 = .ok (.bipush 8, 2) := by decide +kernel
theorem dX6_init_47 : decode cX6_init 47 = .ok (.newarray .int, 2) := by decide +kernel
theorem dX6_init_49 : decode cX6_init 49 = .ok (.putfield 25, 3) := by decide +kernel
theorem dX6_init_52 : decode cX6_init 52 = .ok (.aload_n 0, 1) := by decide +kernel
theorem dX6_init_53 : decode cX6_init 53 = .ok (.bipush 8, 2) := by decide +kernel
theorem dX6_init_55 : decode cX6_init 55 = .ok (.newarray .int, 2) := by decide +kernel
theorem dX6_init_57 : decode cX6_init 57 = .ok (.putfield 28, 3) := by decide +kernel
theorem dX6_init_60 : decode cX6_init 60 = .ok (.aload_n 0, 1) := by decide +kernel
theorem dX6_init_61 : decode cX6_init 61 = .ok (.iconst 5, 1) := by decide +kernel
theorem dX6_init_62 : decode cX6_init 62 = .ok (.newarray .int, 2) := by decide +kernel
theorem dX6_init_64 : decode cX6_init 64 = .ok (.putfield 31, 3) := by decide +kernel
theorem dX6_init_67 : decode cX6_init 67 = .ok (.aload_n 0, 1) := by decide +kernel
theorem dX6_init_68 : decode cX6_init 68 = .ok (.iconst 5, 1) := by decide +kernel
theorem dX6_init_69 : decode cX6_init 69 = .ok (.newarray .int, 2) := by decide +kernel
theorem dX6_init_71 : decode cX6_init 71 = .ok (.putfield 34, 3) := by decide +kernel
theorem dX6_init_74 : decode cX6_init 74 = .ok (.aload_n 0, 1) := by decide +kernel
theorem dX6_init_75 : decode cX6_init 75 = .ok (.iconst 5, 1) := by decide +kernel
theorem dX6_init_76 : decode cX6_init 76 = .ok (.newarray .int, 2) := by decide +kernel
theorem dX6_init_78 : decode cX6_init 78 = .ok (.putfield 37, 3) := by decide +kernel
theorem dX6_init_81 : decode cX6_init 81 = .ok (.aload_n 0, 1) := by decide +kernel
theorem dX6_init_82 : decode cX6_init 82 = .ok (.iconst 5, 1) := by decide +kernel
theorem dX6_init_83 : decode cX6_init 83 = .ok (.newarray .int, 2) := by decide +kernel
theorem dX6_init_85 : decode cX6_init 85 = .ok (.putfield 40, 3) := by decide +kernel
theorem dX6_init_88 : decode cX6_init 88 = .ok (.aload_n 0, 1) := by decide +kernel
theorem dX6_init_89 : decode cX6_init 89 = .ok (.bipush 6, 2) := by decide +kernel
theorem dX6_init_91 : decode cX6_init 91 = .ok (.newarray .int, 2) := by decide +kernel
theorem dX6_init_93 : decode cX6_init 93 = .ok (.putfield 43, 3) := by decide +kernel
theorem dX6_init_96 : decode cX6_init 96 = .ok (.aload_n 0, 1) := by decide +kernel
theorem dX6_init_97 : decode cX6_init 97 = .ok (.bipush 6, 2) := by decide +kernel
theorem dX6_init_99 : decode cX6_init 99 = .ok (.newarray .int, 2) := by decide +kernel
theorem dX6_init_101 : decode cX6_init 101 = .ok (.putfield 46, 3) := by decide +kernel
theorem dX6_init_104 : decode cX6_init 104 = .ok (.aload_n 0, 1) := by decide +kernel
theorem dX6_init_105 : decode cX6_init 105 = .ok (.bipush (-9), 2) := by decide +kernel
theorem dX6_init_107 : decode cX6_init 107 = .ok (.putfield 49, 3) := by decide +kernel
theorem dX6_init_110 : decode cX6_init 110 = .ok (.aload_n 0, 1) := by decide +kernel
theorem dX6_init_111 : decode cX6_init 111 = .ok (.bipush 96, 2) := by decide +kernel
theorem dX6_init_113 : decode cX6_init 113 = .ok (.newarray .int, 2) := by decide +kernel
theorem dX6_init_115 : decode cX6_init 115 = .ok (.putfield 53, 3) := by decide +kernel
theorem dX6_init_118 : decode cX6_init 118 = .ok (.aload_n 0, 1) := by decide +kernel
theorem dX6_init_119 : decode cX6_init 119 = .ok (.bipush 33, 2) := by decide +kernel
theorem dX6_init_121 : decode cX6_init 121 = .ok (.newarray .int, 2) := by decide +kernel
theorem dX6_init_123 : decode cX6_init 123 = .ok (.putfield 56, 3) := by decide +kernel
theorem dX6_init_126 : decode cX6_init 126 = .ok (.aload_n 0, 1) := by decide +kernel
theorem dX6_init_127 : decode cX6_init 127 = .ok (.bipush 33, 2) := by decide +kernel
theorem dX6_init_129 : decode cX6_init 129 = .ok (.newarray .int, 2) := by decide +kernel
theorem dX6_init_131 : decode cX6_init 131 = .ok (.putfield 59, 3) := by decide +kernel
theorem dX6_init_134 : decode cX6_init 134 = .ok (.aload_n 0, 1) := by decide +kernel
theorem dX6_init_135 : decode cX6_init 135 = .ok (.bipush 99, 2) := by decide +kernel
theorem dX6_init_137 : decode cX6_init 137 = .ok (.newarray .int, 2) := by decide +kernel
theorem dX6_init_139 : decode cX6_init 139 = .ok (.putfield 62, 3) := by decide +kernel
theorem dX6_init_142 : decode cX6_init 142 = .ok (.aload_n 0, 1) := by decide +kernel
theorem dX6_init_143 : decode cX6_init 143 = .ok (.sipush 750, 3) := by decide +kernel
theorem dX6_init_146 : decode cX6_init 146 = .ok (.newarray .int, 2) := by decide +kernel
theorem dX6_init_148 : decode cX6_init 148 = .ok (.putfield 65, 3) := by decide +kernel
theorem dX6_init_151 : decode cX6_init 151 = .ok (.aload_n 0, 1) := by decide +kernel
theorem dX6_init_152 : decode cX6_init 152 = .ok (.bipush 12, 2) := by decide +kernel
theorem dX6_init_154 : decode cX6_init 154 = .ok (.newarray .int, 2) := by decide +kernel
theorem dX6_init_156 : decode cX6_init 156 = .ok (.putfield 68, 3) := by decide +kernel
theorem dX6_init_159 : decode cX6_init 159 = .ok (.aload_n 0, 1) := by decide +kernel
theorem dX6_init_160 : decode cX6_init 160 = .ok (.bipush 8, 2) := by decide +kernel
theorem dX6_init_162 : decode cX6_init 162 = .ok (.newarray .int, 2) := by decide +kernel
theorem dX6_init_164 : decode cX6_init 164 = .ok (.putfield 71, 3) := by decide +kernel
theorem dX6_init_167 : decode cX6_init 167 = .ok (.aload_n 0, 1) := by decide +kernel
theorem dX6_init_168 : decode cX6_init 168 = .ok (.iconst 3, 1) := by decide +kernel
theorem dX6_init_169 : decode cX6_init 169 = .ok (.putfield 74, 3) := by decide +kernel
theorem dX6_init_172 : decode cX6_init 172 = .ok (.return_, 1) := by decide +kernel
theorem dX6_no_0 : decode cX6_no 0 = .ok (.aload_n 0, 1) := by decide +kernel
theorem dX6_no_1 : decode cX6_no 1 = .ok (.getfield 7, 3) := by decide +kernel
theorem dX6_no_4 : decode cX6_no 4 = .ok (.iload_n 1, 1) := by decide +kernel
theorem dX6_no_5 : decode cX6_no 5 = .ok (.ineg, 1) := by decide +kernel
theorem dX6_no_6 : decode cX6_no 6 = .ok (.dup2, 1) := by decide +kernel
theorem dX6_no_7 : decode cX6_no 7 = .ok (.iaload, 1) := by decide +kernel
theorem dX6_no_8 : decode cX6_no 8 = .ok (.iconst 1, 1) := by decide +kernel
theorem dX6_no_9 : decode cX6_no 9 = .ok (.iadd, 1) := by decide +kernel
theorem dX6_no_10 : decode cX6_no 10 = .ok (.iastore, 1) := by decide +kernel
theorem dX6_no_11 : decode cX6_no 11 = .ok (.iload_n 1, 1) := by decide +kernel
theorem dX6_no_12 : decode cX6_no 12 = .ok (.ireturn, 1) := by decide +kernel
theorem dX6_lowestOf_0 : decode cX6_lowestOf 0 = .ok (.aload_n 0, 1) := by decide +kernel
theorem dX6_lowestOf_1 : decode cX6_lowestOf 1 = .ok (.getfield 7, 3) := by decide +kernel
theorem dX6_lowestOf_4 : decode cX6_lowestOf 4 = .ok (.iload_n 1, 1) := by decide +kernel
theorem dX6_lowestOf_5 : decode cX6_lowestOf 5 = .ok (.ineg, 1) := by decide +kernel
theorem dX6_lowestOf_6 : decode cX6_lowestOf 6 = .ok (.dup2, 1) := by decide +kernel
theorem dX6_lowestOf_7 : decode cX6_lowestOf 7 = .ok (.iaload, 1) := by decide +kernel
theorem dX6_lowestOf_8 : decode cX6_lowestOf 8 = .ok (.iconst 1, 1) := by decide +kernel
theorem dX6_lowestOf_9 : decode cX6_lowestOf 9 = .ok (.iadd, 1) := by decide +kernel
theorem dX6_lowestOf_10 : decode cX6_lowestOf 10 = .ok (.iastore, 1) := by decide +kernel
theorem dX6_lowestOf_11 : decode cX6_lowestOf 11 = .ok (.ldc2_w 77, 3) := by decide +kernel
theorem dX6_lowestOf_14 : decode cX6_lowestOf 14 = .ok (.iload_n 1, 1) := by decide +kernel
theorem dX6_lowestOf_15 : decode cX6_lowestOf 15 = .ok (.i2l, 1) := by decide +kernel
theorem dX6_lowestOf_16 : decode cX6_lowestOf 16 = .ok (.lsub, 1) := by decide +kernel
theorem dX6_lowestOf_17 : decode cX6_lowestOf 17 = .ok (.lreturn, 1) := by decide +kernel
theorem dX6_isIn_0 : decode cX6_isIn 0 = .ok (.iload_n 0, 1) := by decide +kernel
theorem dX6_isIn_1 : decode cX6_isIn 1 = .ok (.iload_n 1, 1) := by decide +kernel
theorem dX6_isIn_2 : decode cX6_isIn 2 = .ok (.if_icmp .lt 12, 3) := by decide +kernel
theorem dX6_isIn_5 : decode cX6_isIn 5 = .ok (.iload_n 0, 1) := by decide +kernel
theorem dX6_isIn_6 : decode cX6_isIn 6 = .ok (.iload_n 2, 1) := by decide +kernel
theorem dX6_isIn_7 : decode cX6_isIn 7 = .ok (.if_icmp .gt 7, 3) := by decide +kernel
theorem dX6_isIn_10 : decode cX6_isIn 10 = .ok (.iconst 1, 1) := by decide +kernel
theorem dX6_isIn_11 : decode cX6_isIn 11 = .ok (.goto 4, 3) := by decide +kernel
theorem dX6_isIn_14 : decode cX6_isIn 14 = .ok (.iconst 0, 1) := by decide +kernel
theorem dX6_isIn_15 : decode cX6_isIn 15 = .ok (.ireturn, 1) := by decide +kernel
theorem dX6_bound_0 : decode cX6_bound 0 = .ok (.iload_n 0, 1) := by decide +kernel
theorem dX6_bound_1 : decode cX6_bound 1 = .ok (.iload_n 1, 1) := by decide +kernel
theorem dX6_bound_2 : decode cX6_bound 2 = .ok (.if_icmp .ge 8, 3) := by decide +kernel
theorem dX6_bound_5 : decode cX6_bound 5 = .ok (.bipush (-4), 2) := by decide +kernel
theorem dX6_bound_7 : decode cX6_bound 7 = .ok (.goto 14, 3) := by decide +kernel
theorem dX6_bound_10 : decode cX6_bound 10 = .ok (.iload_n 0, 1) := by decide +kernel
theorem dX6_bound_11 : decode cX6_bound 11 = .ok (.iload_n 2, 1) := by decide +kernel
theorem dX6_bound_12 : decode cX6_bound 12 = .ok (.if_icmp .le 8, 3) := by decide +kernel
theorem dX6_bound_15 : decode cX6_bound 15 = .ok (.bipush (-6), 2) := by decide +kernel
theorem dX6_bound_17 : decode cX6_bound 17 = .ok (.goto 4, 3) := by decide +kernel
theorem dX6_bound_20 : decode cX6_bound 20 = .ok (.iconst 0, 1) := by decide +kernel
theorem dX6_bound_21 : decode cX6_bound 21 = .ok (.ireturn, 1) := by decide +kernel
theorem dX6_has_0 : decode cX6_has 0 = .ok (.iload_n 0, 1) := by decide +kernel
theorem dX6_has_1 : decode cX6_has 1 = .ok (.iload_n 1, 1) := by decide +kernel
theorem dX6_has_2 : decode cX6_has 2 = .ok (.ishr, 1) := by decide +kernel
theorem dX6_has_3 : decode cX6_has 3 = .ok (.iconst 1, 1) := by decide +kernel
theorem dX6_has_4 : decode cX6_has 4 = .ok (.iand, 1) := by decide +kernel
theorem dX6_has_5 : decode cX6_has 5 = .ok (.iconst 1, 1) := by decide +kernel
theorem dX6_has_6 : decode cX6_has 6 = .ok (.if_icmp .ne 7, 3) := by decide +kernel
theorem dX6_has_9 : decode cX6_has 9 = .ok (.iconst 1, 1) := by decide +kernel
theorem dX6_has_10 : decode cX6_has 10 = .ok (.goto 4, 3) := by decide +kernel
theorem dX6_has_13 : decode cX6_has 13 = .ok (.iconst 0, 1) := by decide +kernel
theorem dX6_has_14 : decode cX6_has 14 = .ok (.ireturn, 1) := by decide +kernel
theorem dX6_apart_0 : decode cX6_apart 0 = .ok (.iload_n 0, 1) := by decide +kernel
theorem dX6_apart_1 : decode cX6_apart 1 = .ok (.iload_n 1, 1) := by decide +kernel
theorem dX6_apart_2 : decode cX6_apart 2 = .ok (.if_icmp .ge 9, 3) := by decide +kernel
theorem dX6_apart_5 : decode cX6_apart 5 = .ok (.iload_n 1, 1) := by decide +kernel
theorem dX6_apart_6 : decode cX6_apart 6 = .ok (.iload_n 0, 1) := by decide +kernel
theorem dX6_apart_7 : decode cX6_apart 7 = .ok (.isub, 1) := by decide +kernel
theorem dX6_apart_8 : decode cX6_apart 8 = .ok (.goto 6, 3) := by decide +kernel
theorem dX6_apart_11 : decode cX6_apart 11 = .ok (.iload_n 0, 1) := by decide +kernel
theorem dX6_apart_12 : decode cX6_apart 12 = .ok (.iload_n 1, 1) := by decide +kernel
theorem dX6_apart_13 : decode cX6_apart 13 = .ok (.isub, 1) := by decide +kernel
theorem dX6_apart_14 : decode cX6_apart 14 = .ok (.ireturn, 1) := by decide +kernel
theorem dX6_bits_0 : decode cX6_bits 0 = .ok (.iconst 0, 1) := by decide +kernel
theorem dX6_bits_1 : decode cX6_bits 1 = .ok (.istore_n 1, 1) := by decide +kernel
theorem dX6_bits_2 : decode cX6_bits 2 = .ok (.iconst 0, 1) := by decide +kernel
theorem dX6_bits_3 : decode cX6_bits 3 = .ok (.istore_n 2, 1) := by decide +kernel
theorem dX6_bits_4 : decode cX6_bits 4 = .ok (.iload_n 2, 1) := by decide +kernel
theorem dX6_bits_5 : decode cX6_bits 5 = .ok (.bipush 31, 2) := by decide +kernel
theorem dX6_bits_7 : decode cX6_bits 7 = .ok (.if_icmp .ge 17, 3) := by decide +kernel
theorem dX6_bits_10 : decode cX6_bits 10 = .ok (.iload_n 1, 1) := by decide +kernel
theorem dX6_bits_11 : decode cX6_bits 11 = .ok (.iload_n 0, 1) := by decide +kernel
theorem dX6_bits_12 : decode cX6_bits 12 = .ok (.iload_n 2, 1) := by decide +kernel
theorem dX6_bits_13 : decode cX6_bits 13 = .ok (.ishr, 1) := by decide +kernel
theorem dX6_bits_14 : decode cX6_bits 14 = .ok (.iconst 1, 1) := by decide +kernel
theorem dX6_bits_15 : decode cX6_bits 15 = .ok (.iand, 1) := by decide +kernel
theorem dX6_bits_16 : decode cX6_bits 16 = .ok (.iadd, 1) := by decide +kernel
theorem dX6_bits_17 : decode cX6_bits 17 = .ok (.istore_n 1, 1) := by decide +kernel
theorem dX6_bits_18 : decode cX6_bits 18 = .ok (.iinc 2 1, 3) := by decide +kernel
theorem dX6_bits_21 : decode cX6_bits 21 = .ok (.goto (-17), 3) := by decide +kernel
theorem dX6_bits_24 : decode cX6_bits 24 = .ok (.iload_n 1, 1) := by decide +kernel
theorem dX6_bits_25 : decode cX6_bits 25 = .ok (.ireturn, 1) := by decide +kernel
theorem dX6_isFront_0 : decode cX6_isFront 0 = .ok (.iload_n 1, 1) := by decide +kernel
theorem dX6_isFront_1 : decode cX6_isFront 1 = .ok (.iconst 0, 1) := by decide +kernel
theorem dX6_isFront_2 : decode cX6_isFront 2 = .ok (.aload_n 0, 1) := by decide +kernel
theorem dX6_isFront_3 : decode cX6_isFront 3 = .ok (.getfield 79, 3) := by decide +kernel
theorem dX6_isFront_6 : decode cX6_isFront 6 = .ok (.iconst 1, 1) := by decide +kernel
theorem dX6_isFront_7 : decode cX6_isFront 7 = .ok (.isub, 1) := by decide +kernel
theorem dX6_isFront_8 : decode cX6_isFront 8 = .ok (.invokestatic 82, 3) := by decide +kernel
theorem dX6_isFront_11 : decode cX6_isFront 11 = .ok (.ireturn, 1) := by decide +kernel
theorem dX6_isThing_0 : decode cX6_isThing 0 = .ok (.iload_n 1, 1) := by decide +kernel
theorem dX6_isThing_1 : decode cX6_isThing 1 = .ok (.iconst 0, 1) := by decide +kernel
theorem dX6_isThing_2 : decode cX6_isThing 2 = .ok (.aload_n 0, 1) := by decide +kernel
theorem dX6_isThing_3 : decode cX6_isThing 3 = .ok (.getfield 86, 3) := by decide +kernel
theorem dX6_isThing_6 : decode cX6_isThing 6 = .ok (.iconst 1, 1) := by decide +kernel
theorem dX6_isThing_7 : decode cX6_isThing 7 = .ok (.isub, 1) := by decide +kernel
theorem dX6_isThing_8 : decode cX6_isThing 8 = .ok (.invokestatic 82, 3) := by decide +kernel
theorem dX6_isThing_11 : decode cX6_isThing 11 = .ok (.ireturn, 1) := by decide +kernel
theorem dX6_isPerson_0 : decode cX6_isPerson 0 = .ok (.iload_n 1, 1) := by decide +kernel
theorem dX6_isPerson_1 : decode cX6_isPerson 1 = .ok (.iconst 0, 1) := by decide +kernel
theorem dX6_isPerson_2 : decode cX6_isPerson 2 = .ok (.aload_n 0, 1) := by decide +kernel
theorem dX6_isPerson_3 : decode cX6_isPerson 3 = .ok (.getfield 89, 3) := by decide +kernel
theorem dX6_isPerson_6 : decode cX6_isPerson 6 = .ok (.iconst 1, 1) := by decide +kernel
theorem dX6_isPerson_7 : decode cX6_isPerson 7 = .ok (.isub, 1) := by decide +kernel
theorem dX6_isPerson_8 : decode cX6_isPerson 8 = .ok (.invokestatic 82, 3) := by decide +kernel
theorem dX6_isPerson_11 : decode cX6_isPerson 11 = .ok (.ireturn, 1) := by decide +kernel
theorem dX6_isCell_0 : decode cX6_isCell 0 = .ok (.iload_n 0, 1) := by decide +kernel
theorem dX6_isCell_1 : decode cX6_isCell 1 = .ok (.iconst 0, 1) := by decide +kernel
theorem dX6_isCell_2 : decode cX6_isCell 2 = .ok (.bipush 23, 2) := by decide +kernel
theorem dX6_isCell_4 : decode cX6_isCell 4 = .ok (.invokestatic 82, 3) := by decide +kernel
theorem dX6_isCell_7 : decode cX6_isCell 7 = .ok (.ireturn, 1) := by decide +kernel
theorem dX6_areTwo_0 : decode cX6_areTwo 0 = .ok (.aload_n 0, 1) := by decide +kernel
theorem dX6_areTwo_1 : decode cX6_areTwo 1 = .ok (.iload_n 1, 1) := by decide +kernel
theorem dX6_areTwo_2 : decode cX6_areTwo 2 = .ok (.invokevirtual 92, 3) := by decide +kernel
theorem dX6_areTwo_5 : decode cX6_areTwo 5 = .ok (.ifCond .eq 20, 3) := by decide +kernel
theorem dX6_areTwo_8 : decode cX6_areTwo 8 = .ok (.aload_n 0, 1) := by decide +kernel
theorem dX6_areTwo_9 : decode cX6_areTwo 9 = .ok (.iload_n 2, 1) := by decide +kernel
theorem dX6_areTwo_10 : decode cX6_areTwo 10 = .ok (.invokevirtual 92, 3) := by decide +kernel
theorem dX6_areTwo_13 : decode cX6_areTwo 13 = .ok (.ifCond .eq 12, 3) := by decide +kernel
theorem dX6_areTwo_16 : decode cX6_areTwo 16 = .ok (.iload_n 1, 1) := by decide +kernel
theorem dX6_areTwo_17 : decode cX6_areTwo 17 = .ok (.iload_n 2, 1) := by decide +kernel
theorem dX6_areTwo_18 : decode cX6_areTwo 18 = .ok (.if_icmp .eq 7, 3) := by decide +kernel
theorem dX6_areTwo_21 : decode cX6_areTwo 21 = .ok (.iconst 1, 1) := by decide +kernel
theorem dX6_areTwo_22 : decode cX6_areTwo 22 = .ok (.goto 4, 3) := by decide +kernel
theorem dX6_areTwo_25 : decode cX6_areTwo 25 = .ok (.iconst 0, 1) := by decide +kernel
theorem dX6_areTwo_26 : decode cX6_areTwo 26 = .ok (.ireturn, 1) := by decide +kernel
theorem dX6_asksBack_0 : decode cX6_asksBack 0 = .ok (.iload_n 1, 1) := by decide +kernel
theorem dX6_asksBack_1 : decode cX6_asksBack 1 = .ok (.istore_n 3, 1) := by decide +kernel
theorem dX6_asksBack_2 : decode cX6_asksBack 2 = .ok (.iload_n 2, 1) := by decide +kernel
theorem dX6_asksBack_3 : decode cX6_asksBack 3 = .ok (.istore 4, 2) := by decide +kernel
theorem dX6_asksBack_5 : decode cX6_asksBack 5 = .ok (.aload_n 0, 1) := by decide +kernel
theorem dX6_asksBack_6 : decode cX6_asksBack 6 = .ok (.getfield 79, 3) := by decide +kernel
theorem dX6_asksBack_9 : decode cX6_asksBack 9 = .ok (.iconst 1, 1) := by decide +kernel
theorem dX6_asksBack_10 : decode cX6_asksBack 10 = .ok (.isub, 1) := by decide +kernel
theorem dX6_asksBack_11 : decode cX6_asksBack 11 = .ok (.istore 5, 2) := by decide +kernel
theorem dX6_asksBack_13 : decode cX6_asksBack 13 = .ok (.iload 5, 2) := by decide +kernel
theorem dX6_asksBack_15 : decode cX6_asksBack 15 = .ok (.ifCond .lt 92, 3) := by decide +kernel
theorem dX6_asksBack_18 : decode cX6_asksBack 18 = .ok (.aload_n 0, 1) := by decide +kernel
theorem dX6_asksBack_19 : decode cX6_asksBack 19 = .ok (.getfield 43, 3) := by decide +kernel
theorem dX6_asksBack_22 : decode cX6_asksBack 22 = .ok (.iload 5, 2) := by decide +kernel
theorem dX6_asksBack_24 : decode cX6_asksBack 24 = .ok (.iload_n 3, 1) := by decide +kernel
theorem dX6_asksBack_25 : decode cX6_asksBack 25 = .ok (.iastore, 1) := by decide +kernel
theorem dX6_asksBack_26 : decode cX6_asksBack 26 = .ok (.aload_n 0, 1) := by decide +kernel
theorem dX6_asksBack_27 : decode cX6_asksBack 27 = .ok (.getfield 46, 3) := by decide +kernel
theorem dX6_asksBack_30 : decode cX6_asksBack 30 = .ok (.iload 5, 2) := by decide +kernel
theorem dX6_asksBack_32 : decode cX6_asksBack 32 = .ok (.iload 4, 2) := by decide +kernel
theorem dX6_asksBack_34 : decode cX6_asksBack 34 = .ok (.iastore, 1) := by decide +kernel
theorem dX6_asksBack_35 : decode cX6_asksBack 35 = .ok (.aload_n 0, 1) := by decide +kernel
theorem dX6_asksBack_36 : decode cX6_asksBack 36 = .ok (.getfield 13, 3) := by decide +kernel
theorem dX6_asksBack_39 : decode cX6_asksBack 39 = .ok (.iload 5, 2) := by decide +kernel
theorem dX6_asksBack_41 : decode cX6_asksBack 41 = .ok (.iaload, 1) := by decide +kernel
theorem dX6_asksBack_42 : decode cX6_asksBack 42 = .ok (.iconst 5, 1) := by decide +kernel
theorem dX6_asksBack_43 : decode cX6_asksBack 43 = .ok (.if_icmp .ne 18, 3) := by decide +kernel
theorem dX6_asksBack_46 : decode cX6_asksBack 46 = .ok (.iload_n 3, 1) := by decide +kernel
theorem dX6_asksBack_47 : decode cX6_asksBack 47 = .ok (.bipush 6, 2) := by decide +kernel
theorem dX6_asksBack_49 : decode cX6_asksBack 49 = .ok (.idiv, 1) := by decide +kernel
theorem dX6_asksBack_50 : decode cX6_asksBack 50 = .ok (.bipush 6, 2) := by decide +kernel
theorem dX6_asksBack_52 : decode cX6_asksBack 52 = .ok (.imul, 1) := by decide +kernel
theorem dX6_asksBack_53 : decode cX6_asksBack 53 = .ok (.iconst 5, 1) := by decide +kernel
theorem dX6_asksBack_54 : decode cX6_asksBack 54 = .ok (.iadd, 1) := by decide +kernel
theorem dX6_asksBack_55 : decode cX6_asksBack 55 = .ok (.iload_n 3, 1) := by decide +kernel
theorem dX6_asksBack_56 : decode cX6_asksBack 56 = .ok (.bipush 6, 2) := by decide +kernel
theorem dX6_asksBack_58 : decode cX6_asksBack 58 = .ok (.irem, 1) := by decide +kernel
theorem dX6_asksBack_59 : decode cX6_asksBack 59 = .ok (.isub, 1) := by decide +kernel
theorem dX6_asksBack_60 : decode cX6_asksBack 60 = .ok (.istore_n 3, 1) := by decide +kernel
theorem dX6_asksBack_61 : decode cX6_asksBack 61 = .ok (.aload_n 0, 1) := by decide +kernel
theorem dX6_asksBack_62 : decode cX6_asksBack 62 = .ok (.getfield 13, 3) := by decide +kernel
theorem dX6_asksBack_65 : decode cX6_asksBack 65 = .ok (.iload 5, 2) := by decide +kernel
theorem dX6_asksBack_67 : decode cX6_asksBack 67 = .ok (.iaload, 1) := by decide +kernel
theorem dX6_asksBack_68 : decode cX6_asksBack 68 = .ok (.bipush 6, 2) := by decide +kernel
theorem dX6_asksBack_70 : decode cX6_asksBack 70 = .ok (.if_icmp .ne 31, 3) := by decide +kernel
theorem dX6_asksBack_73 : decode cX6_asksBack 73 = .ok (.iload 4, 2) := by decide +kernel
theorem dX6_asksBack_75 : decode cX6_asksBack 75 = .ok (.aload_n 0, 1) := by decide +kernel
theorem dX6_asksBack_76 : decode cX6_asksBack 76 = .ok (.getfield 19, 3) := by decide +kernel
theorem dX6_asksBack_79 : decode cX6_asksBack 79 = .ok (.iload 5, 2) := by decide +kernel
theorem dX6_asksBack_81 : decode cX6_asksBack 81 = .ok (.iaload, 1) := by decide +kernel
theorem dX6_asksBack_82 : decode cX6_asksBack 82 = .ok (.if_icmp .le 16, 3) := by decide +kernel
theorem dX6_asksBack_85 : decode cX6_asksBack 85 = .ok (.iload 4, 2) := by decide +kernel
theorem dX6_asksBack_87 : decode cX6_asksBack 87 = .ok (.aload_n 0, 1) := by decide +kernel
theorem dX6_asksBack_88 : decode cX6_asksBack 88 = .ok (.getfield 19, 3) := by decide +kernel
theorem dX6_asksBack_91 : decode cX6_asksBack 91 = .ok (.iload 5, 2) := by decide +kernel
theorem dX6_asksBack_93 : decode cX6_asksBack 93 = .ok (.iaload, 1) := by decide +kernel
theorem dX6_asksBack_94 : decode cX6_asksBack 94 = .ok (.isub, 1) := by decide +kernel
theorem dX6_asksBack_95 : decode cX6_asksBack 95 = .ok (.goto 4, 3) := by decide +kernel
theorem dX6_asksBack_98 : decode cX6_asksBack 98 = .ok (.iconst 0, 1) := by decide +kernel
theorem dX6_asksBack_99 : decode cX6_asksBack 99 = .ok (.istore 4, 2) := by decide +kernel
theorem dX6_asksBack_101 : decode cX6_asksBack 101 = .ok (.iinc 5 (-1), 3) := by decide +kernel
theorem dX6_asksBack_104 : decode cX6_asksBack 104 = .ok (.goto (-91), 3) := by decide +kernel
theorem dX6_asksBack_107 : decode cX6_asksBack 107 = .ok (.return_, 1) := by decide +kernel
theorem dX6_greater_0 : decode cX6_greater 0 = .ok (.iload_n 0, 1) := by decide +kernel
theorem dX6_greater_1 : decode cX6_greater 1 = .ok (.iload_n 1, 1) := by decide +kernel
theorem dX6_greater_2 : decode cX6_greater 2 = .ok (.if_icmp .le 7, 3) := by decide +kernel
theorem dX6_greater_5 : decode cX6_greater 5 = .ok (.iload_n 0, 1) := by decide +kernel
theorem dX6_greater_6 : decode cX6_greater 6 = .ok (.goto 4, 3) := by decide +kernel
theorem dX6_greater_9 : decode cX6_greater 9 = .ok (.iload_n 1, 1) := by decide +kernel
theorem dX6_greater_10 : decode cX6_greater 10 = .ok (.ireturn, 1) := by decide +kernel
theorem dX6_airBy_0 : decode cX6_airBy 0 = .ok (.aload_n 0, 1) := by decide +kernel
theorem dX6_airBy_1 : decode cX6_airBy 1 = .ok (.getfield 43, 3) := by decide +kernel
theorem dX6_airBy_4 : decode cX6_airBy 4 = .ok (.iload_n 1, 1) := by decide +kernel
theorem dX6_airBy_5 : decode cX6_airBy 5 = .ok (.iaload, 1) := by decide +kernel
theorem dX6_airBy_6 : decode cX6_airBy 6 = .ok (.istore_n 3, 1) := by decide +kernel
theorem dX6_airBy_7 : decode cX6_airBy 7 = .ok (.aload_n 0, 1) := by decide +kernel
theorem dX6_airBy_8 : decode cX6_airBy 8 = .ok (.getfield 46, 3) := by decide +kernel
theorem dX6_airBy_11 : decode cX6_airBy 11 = .ok (.iload_n 1, 1) := by decide +kernel
theorem dX6_airBy_12 : decode cX6_airBy 12 = .ok (.iaload, 1) := by decide +kernel
theorem dX6_airBy_13 : decode cX6_airBy 13 = .ok (.istore 4, 2) := by decide +kernel
theorem dX6_airBy_15 : decode cX6_airBy 15 = .ok (.aload_n 0, 1) := by decide +kernel
theorem dX6_airBy_16 : decode cX6_airBy 16 = .ok (.getfield 16, 3) := by decide +kernel
theorem dX6_airBy_19 : decode cX6_airBy 19 = .ok (.iload_n 1, 1) := by decide +kernel
theorem dX6_airBy_20 : decode cX6_airBy 20 = .ok (.iaload, 1) := by decide +kernel
theorem dX6_airBy_21 : decode cX6_airBy 21 = .ok (.istore 5, 2) := by decide +kernel
theorem dX6_airBy_23 : decode cX6_airBy 23 = .ok (.aload_n 0, 1) := by decide +kernel
theorem dX6_airBy_24 : decode cX6_airBy 24 = .ok (.getfield 19, 3) := by decide +kernel
theorem dX6_airBy_27 : decode cX6_airBy 27 = .ok (.iload_n 1, 1) := by decide +kernel
theorem dX6_airBy_28 : decode cX6_airBy 28 = .ok (.iaload, 1) := by decide +kernel
theorem dX6_airBy_29 : decode cX6_airBy 29 = .ok (.istore 6, 2) := by decide +kernel
theorem dX6_airBy_31 : decode cX6_airBy 31 = .ok (.aload_n 0, 1) := by decide +kernel
theorem dX6_airBy_32 : decode cX6_airBy 32 = .ok (.getfield 13, 3) := by decide +kernel
theorem dX6_airBy_35 : decode cX6_airBy 35 = .ok (.iload_n 1, 1) := by decide +kernel
theorem dX6_airBy_36 : decode cX6_airBy 36 = .ok (.iaload, 1) := by decide +kernel
theorem dX6_airBy_37 : decode cX6_airBy 37 = .ok (.tableswitch 132 0 4 #[35, 60, 82, 103, 123], 35) := by decide +kernel
theorem dX6_airBy_72 : decode cX6_airBy 72 = .ok (.iload_n 3, 1) := by decide +kernel
theorem dX6_airBy_73 : decode cX6_airBy 73 = .ok (.bipush 6, 2) := by decide +kernel
theorem dX6_airBy_75 : decode cX6_airBy 75 = .ok (.irem, 1) := by decide +kernel
theorem dX6_airBy_76 : decode cX6_airBy 76 = .ok (.iload 4, 2) := by decide +kernel
theorem dX6_airBy_78 : decode cX6_airBy 78 = .ok (.iload 6, 2) := by decide +kernel
theorem dX6_airBy_80 : decode cX6_airBy 80 = .ok (.iconst 2, 1) := by decide +kernel
theorem dX6_airBy_81 : decode cX6_airBy 81 = .ok (.iadd, 1) := by decide +kernel
theorem dX6_airBy_82 : decode cX6_airBy 82 = .ok (.irem, 1) := by decide +kernel
theorem dX6_airBy_83 : decode cX6_airBy 83 = .ok (.if_icmp .gt 12, 3) := by decide +kernel
theorem dX6_airBy_86 : decode cX6_airBy 86 = .ok (.iload_n 2, 1) := by decide +kernel
theorem dX6_airBy_87 : decode cX6_airBy 87 = .ok (.iload 5, 2) := by decide +kernel
theorem dX6_airBy_89 : decode cX6_airBy 89 = .ok (.invokestatic 96, 3) := by decide +kernel
theorem dX6_airBy_92 : decode cX6_airBy 92 = .ok (.goto 4, 3) := by decide +kernel
theorem dX6_airBy_95 : decode cX6_airBy 95 = .ok (.iload_n 2, 1) := by decide +kernel
theorem dX6_airBy_96 : decode cX6_airBy 96 = .ok (.ireturn, 1) := by decide +kernel
theorem dX6_airBy_97 : decode cX6_airBy 97 = .ok (.iload_n 3, 1) := by decide +kernel
theorem dX6_airBy_98 : decode cX6_airBy 98 = .ok (.bipush 6, 2) := by decide +kernel
theorem dX6_airBy_100 : decode cX6_airBy 100 = .ok (.idiv, 1) := by decide +kernel
theorem dX6_airBy_101 : decode cX6_airBy 101 = .ok (.iload 6, 2) := by decide +kernel
theorem dX6_airBy_103 : decode cX6_airBy 103 = .ok (.iconst 4, 1) := by decide +kernel
theorem dX6_airBy_104 : decode cX6_airBy 104 = .ok (.irem, 1) := by decide +kernel
theorem dX6_airBy_105 : decode cX6_airBy 105 = .ok (.if_icmp .ne 12, 3) := by decide +kernel
theorem dX6_airBy_108 : decode cX6_airBy 108 = .ok (.iload_n 2, 1) := by decide +kernel
theorem dX6_airBy_109 : decode cX6_airBy 109 = .ok (.iload 5, 2) := by decide +kernel
theorem dX6_airBy_111 : decode cX6_airBy 111 = .ok (.invokestatic 96, 3) := by decide +kernel
theorem dX6_airBy_114 : decode cX6_airBy 114 = .ok (.goto 4, 3) := by decide +kernel
theorem dX6_airBy_117 : decode cX6_airBy 117 = .ok (.iload_n 2, 1) := by decide +kernel
theorem dX6_airBy_118 : decode cX6_airBy 118 = .ok (.ireturn, 1) := by decide +kernel
theorem dX6_airBy_119 : decode cX6_airBy 119 = .ok (.iload 4, 2) := by decide +kernel
theorem dX6_airBy_121 : decode cX6_airBy 121 = .ok (.iload 6, 2) := by decide +kernel
theorem dX6_airBy_123 : decode cX6_airBy 123 = .ok (.iconst 1, 1) := by decide +kernel
theorem dX6_airBy_124 : decode cX6_airBy 124 = .ok (.iadd, 1) := by decide +kernel
theorem dX6_airBy_125 : decode cX6_airBy 125 = .ok (.irem, 1) := by decide +kernel
theorem dX6_airBy_126 : decode cX6_airBy 126 = .ok (.ifCond .ne 12, 3) := by decide +kernel
theorem dX6_airBy_129 : decode cX6_airBy 129 = .ok (.iload_n 2, 1) := by decide +kernel
theorem dX6_airBy_130 : decode cX6_airBy 130 = .ok (.iload 5, 2) := by decide +kernel
theorem dX6_airBy_132 : decode cX6_airBy 132 = .ok (.invokestatic 96, 3) := by decide +kernel
theorem dX6_airBy_135 : decode cX6_airBy 135 = .ok (.goto 4, 3) := by decide +kernel
theorem dX6_airBy_138 : decode cX6_airBy 138 = .ok (.iload_n 2, 1) := by decide +kernel
theorem dX6_airBy_139 : decode cX6_airBy 139 = .ok (.ireturn, 1) := by decide +kernel
theorem dX6_airBy_140 : decode cX6_airBy 140 = .ok (.iload_n 2, 1) := by decide +kernel
theorem dX6_airBy_141 : decode cX6_airBy 141 = .ok (.iload 5, 2) := by decide +kernel
theorem dX6_airBy_143 : decode cX6_airBy 143 = .ok (.iload_n 3, 1) := by decide +kernel
theorem dX6_airBy_144 : decode cX6_airBy 144 = .ok (.bipush 6, 2) := by decide +kernel
theorem dX6_airBy_146 : decode cX6_airBy 146 = .ok (.irem, 1) := by decide +kernel
theorem dX6_airBy_147 : decode cX6_airBy 147 = .ok (.iload 4, 2) := by decide +kernel
theorem dX6_airBy_149 : decode cX6_airBy 149 = .ok (.bipush 6, 2) := by decide +kernel
theorem dX6_airBy_151 : decode cX6_airBy 151 = .ok (.irem, 1) := by decide +kernel
theorem dX6_airBy_152 : decode cX6_airBy 152 = .ok (.invokestatic 100, 3) := by decide +kernel
theorem dX6_airBy_155 : decode cX6_airBy 155 = .ok (.isub, 1) := by decide +kernel
theorem dX6_airBy_156 : decode cX6_airBy 156 = .ok (.invokestatic 96, 3) := by decide +kernel
theorem dX6_airBy_159 : decode cX6_airBy 159 = .ok (.ireturn, 1) := by decide +kernel
theorem dX6_airBy_160 : decode cX6_airBy 160 = .ok (.iconst 0, 1) := by decide +kernel
theorem dX6_airBy_161 : decode cX6_airBy 161 = .ok (.iload_n 2, 1) := by decide +kernel
theorem dX6_airBy_162 : decode cX6_airBy 162 = .ok (.iload 5, 2) := by decide +kernel
theorem dX6_airBy_164 : decode cX6_airBy 164 = .ok (.isub, 1) := by decide +kernel
theorem dX6_airBy_165 : decode cX6_airBy 165 = .ok (.invokestatic 96, 3) := by decide +kernel
theorem dX6_airBy_168 : decode cX6_airBy 168 = .ok (.ireturn, 1) := by decide +kernel
theorem dX6_airBy_169 : decode cX6_airBy 169 = .ok (.iload_n 2, 1) := by decide +kernel
theorem dX6_airBy_170 : decode cX6_airBy 170 = .ok (.ireturn, 1) := by decide +kernel
theorem dX6_airIn_0 : decode cX6_airIn 0 = .ok (.aload_n 0, 1) := by decide +kernel
theorem dX6_airIn_1 : decode cX6_airIn 1 = .ok (.getfield 103, 3) := by decide +kernel
theorem dX6_airIn_4 : decode cX6_airIn 4 = .ok (.ifCond .eq 5, 3) := by decide +kernel
theorem dX6_airIn_7 : decode cX6_airIn 7 = .ok (.iconst 0, 1) := by decide +kernel
theorem dX6_airIn_8 : decode cX6_airIn 8 = .ok (.ireturn, 1) := by decide +kernel
theorem dX6_airIn_9 : decode cX6_airIn 9 = .ok (.aload_n 0, 1) := by decide +kernel
theorem dX6_airIn_10 : decode cX6_airIn 10 = .ok (.iload_n 1, 1) := by decide +kernel
theorem dX6_airIn_11 : decode cX6_airIn 11 = .ok (.iload_n 2, 1) := by decide +kernel
theorem dX6_airIn_12 : decode cX6_airIn 12 = .ok (.invokevirtual 107, 3) := by decide +kernel
theorem dX6_airIn_15 : decode cX6_airIn 15 = .ok (.iconst 0, 1) := by decide +kernel
theorem dX6_airIn_16 : decode cX6_airIn 16 = .ok (.istore_n 3, 1) := by decide +kernel
theorem dX6_airIn_17 : decode cX6_airIn 17 = .ok (.iconst 0, 1) := by decide +kernel
theorem dX6_airIn_18 : decode cX6_airIn 18 = .ok (.istore 4, 2) := by decide +kernel
theorem dX6_airIn_20 : decode cX6_airIn 20 = .ok (.iload 4, 2) := by decide +kernel
theorem dX6_airIn_22 : decode cX6_airIn 22 = .ok (.aload_n 0, 1) := by decide +kernel
theorem dX6_airIn_23 : decode cX6_airIn 23 = .ok (.getfield 79, 3) := by decide +kernel
theorem dX6_airIn_26 : decode cX6_airIn 26 = .ok (.if_icmp .ge 17, 3) := by decide +kernel
theorem dX6_airIn_29 : decode cX6_airIn 29 = .ok (.aload_n 0, 1) := by decide +kernel
theorem dX6_airIn_30 : decode cX6_airIn 30 = .ok (.iload 4, 2) := by decide +kernel
theorem dX6_airIn_32 : decode cX6_airIn 32 = .ok (.iload_n 3, 1) := by decide +kernel
theorem dX6_airIn_33 : decode cX6_airIn 33 = .ok (.invokevirtual 111, 3) := by decide +kernel
theorem dX6_airIn_36 : decode cX6_airIn 36 = .ok (.istore_n 3, 1) := by decide +kernel
theorem dX6_airIn_37 : decode cX6_airIn 37 = .ok (.iinc 4 1, 3) := by decide +kernel
theorem dX6_airIn_40 : decode cX6_airIn 40 = .ok (.goto (-20), 3) := by decide +kernel
theorem dX6_airIn_43 : decode cX6_airIn 43 = .ok (.iload_n 3, 1) := by decide +kernel
theorem dX6_airIn_44 : decode cX6_airIn 44 = .ok (.ireturn, 1) := by decide +kernel
theorem dX6_steam_0 : decode cX6_steam 0 = .ok (.aload_n 0, 1) := by decide +kernel
theorem dX6_steam_1 : decode cX6_steam 1 = .ok (.getfield 31, 3) := by decide +kernel
theorem dX6_steam_4 : decode cX6_steam 4 = .ok (.iload_n 1, 1) := by decide +kernel
theorem dX6_steam_5 : decode cX6_steam 5 = .ok (.iaload, 1) := by decide +kernel
theorem dX6_steam_6 : decode cX6_steam 6 = .ok (.tableswitch 45 3 6 #[30, 32, 45, 43], 30) := by decide +kernel
theorem dX6_steam_36 : decode cX6_steam 36 = .ok (.iconst 5, 1) := by decide +kernel
theorem dX6_steam_37 : decode cX6_steam 37 = .ok (.ireturn, 1) := by decide +kernel
theorem dX6_steam_38 : decode cX6_steam 38 = .ok (.aload_n 0, 1) := by decide +kernel
theorem dX6_steam_39 : decode cX6_steam 39 = .ok (.getfield 34, 3) := by decide +kernel
theorem dX6_steam_42 : decode cX6_steam 42 = .ok (.iload_n 1, 1) := by decide +kernel
theorem dX6_steam_43 : decode cX6_steam 43 = .ok (.iaload, 1) := by decide +kernel
theorem dX6_steam_44 : decode cX6_steam 44 = .ok (.iconst 2, 1) := by decide +kernel
theorem dX6_steam_45 : decode cX6_steam 45 = .ok (.idiv, 1) := by decide +kernel
theorem dX6_steam_46 : decode cX6_steam 46 = .ok (.iconst 5, 1) := by decide +kernel
theorem dX6_steam_47 : decode cX6_steam 47 = .ok (.iadd, 1) := by decide +kernel
theorem dX6_steam_48 : decode cX6_steam 48 = .ok (.ireturn, 1) := by decide +kernel
theorem dX6_steam_49 : decode cX6_steam 49 = .ok (.iconst 3, 1) := by decide +kernel
theorem dX6_steam_50 : decode cX6_steam 50 = .ok (.ireturn, 1) := by decide +kernel
theorem dX6_steam_51 : decode cX6_steam 51 = .ok (.iconst 0, 1) := by decide +kernel
theorem dX6_steam_52 : decode cX6_steam 52 = .ok (.ireturn, 1) := by decide +kernel
