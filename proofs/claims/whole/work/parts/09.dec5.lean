theorem dX6_passes_44 : decode cX6_passes 44 = .ok (.getfield 248, 3) := by decide +kernel
theorem dX6_passes_47 : decode cX6_passes 47 = .ok (.iconst 1, 1) := by decide +kernel
theorem dX6_passes_48 : decode cX6_passes 48 = .ok (.iadd, 1) := by decide +kernel
theorem dX6_passes_49 : decode cX6_passes 49 = .ok (.putfield 248, 3) := by decide +kernel
theorem dX6_passes_52 : decode cX6_passes 52 = .ok (.iinc 2 1, 3) := by decide +kernel
theorem dX6_passes_55 : decode cX6_passes 55 = .ok (.goto (-53), 3) := by decide +kernel
theorem dX6_passes_58 : decode cX6_passes 58 = .ok (.return_, 1) := by decide +kernel
theorem dX6_passOne_0 : decode cX6_passOne 0 = .ok (.aload_n 0, 1) := by decide +kernel
theorem dX6_passOne_1 : decode cX6_passOne 1 = .ok (.getfield 245, 3) := by decide +kernel
theorem dX6_passOne_4 : decode cX6_passOne 4 = .ok (.ifCond .eq 7, 3) := by decide +kernel
theorem dX6_passOne_7 : decode cX6_passOne 7 = .ok (.iload_n 1, 1) := by decide +kernel
theorem dX6_passOne_8 : decode cX6_passOne 8 = .ok (.goto 12, 3) := by decide +kernel
theorem dX6_passOne_11 : decode cX6_passOne 11 = .ok (.aload_n 0, 1) := by decide +kernel
theorem dX6_passOne_12 : decode cX6_passOne 12 = .ok (.getfield 65, 3) := by decide +kernel
theorem dX6_passOne_15 : decode cX6_passOne 15 = .ok (.aload_n 0, 1) := by decide +kernel
theorem dX6_passOne_16 : decode cX6_passOne 16 = .ok (.getfield 248, 3) := by decide +kernel
theorem dX6_passOne_19 : decode cX6_passOne 19 = .ok (.iaload, 1) := by decide +kernel
theorem dX6_passOne_20 : decode cX6_passOne 20 = .ok (.istore_n 2, 1) := by decide +kernel
theorem dX6_passOne_21 : decode cX6_passOne 21 = .ok (.aload_n 0, 1) := by decide +kernel
theorem dX6_passOne_22 : decode cX6_passOne 22 = .ok (.getfield 245, 3) := by decide +kernel
theorem dX6_passOne_25 : decode cX6_passOne 25 = .ok (.ifCond .eq 13, 3) := by decide +kernel
theorem dX6_passOne_28 : decode cX6_passOne 28 = .ok (.aload_n 0, 1) := by decide +kernel
theorem dX6_passOne_29 : decode cX6_passOne 29 = .ok (.getfield 65, 3) := by decide +kernel
theorem dX6_passOne_32 : decode cX6_passOne 32 = .ok (.aload_n 0, 1) := by decide +kernel
theorem dX6_passOne_33 : decode cX6_passOne 33 = .ok (.getfield 248, 3) := by decide +kernel
theorem dX6_passOne_36 : decode cX6_passOne 36 = .ok (.iload_n 1, 1) := by decide +kernel
theorem dX6_passOne_37 : decode cX6_passOne 37 = .ok (.iastore, 1) := by decide +kernel
theorem dX6_passOne_38 : decode cX6_passOne 38 = .ok (.aload_n 0, 1) := by decide +kernel
theorem dX6_passOne_39 : decode cX6_passOne 39 = .ok (.dup, 1) := by decide +kernel
theorem dX6_passOne_40 : decode cX6_passOne 40 = .ok (.getfield 248, 3) := by decide +kernel
theorem dX6_passOne_43 : decode cX6_passOne 43 = .ok (.iconst 1, 1) := by decide +kernel
theorem dX6_passOne_44 : decode cX6_passOne 44 = .ok (.iadd, 1) := by decide +kernel
theorem dX6_passOne_45 : decode cX6_passOne 45 = .ok (.putfield 248, 3) := by decide +kernel
theorem dX6_passOne_48 : decode cX6_passOne 48 = .ok (.iload_n 2, 1) := by decide +kernel
theorem dX6_passOne_49 : decode cX6_passOne 49 = .ok (.ireturn, 1) := by decide +kernel
theorem dX6_passesAll_0 : decode cX6_passesAll 0 = .ok (.aload_n 0, 1) := by decide +kernel
theorem dX6_passesAll_1 : decode cX6_passesAll 1 = .ok (.bipush 68, 2) := by decide +kernel
theorem dX6_passesAll_3 : decode cX6_passesAll 3 = .ok (.iload_n 1, 1) := by decide +kernel
theorem dX6_passesAll_4 : decode cX6_passesAll 4 = .ok (.imul, 1) := by decide +kernel
theorem dX6_passesAll_5 : decode cX6_passesAll 5 = .ok (.putfield 248, 3) := by decide +kernel
theorem dX6_passesAll_8 : decode cX6_passesAll 8 = .ok (.aload_n 0, 1) := by decide +kernel
theorem dX6_passesAll_9 : decode cX6_passesAll 9 = .ok (.iload_n 2, 1) := by decide +kernel
theorem dX6_passesAll_10 : decode cX6_passesAll 10 = .ok (.putfield 245, 3) := by decide +kernel
theorem dX6_passesAll_13 : decode cX6_passesAll 13 = .ok (.aload_n 0, 1) := by decide +kernel
theorem dX6_passesAll_14 : decode cX6_passesAll 14 = .ok (.aload_n 0, 1) := by decide +kernel
theorem dX6_passesAll_15 : decode cX6_passesAll 15 = .ok (.getfield 13, 3) := by decide +kernel
theorem dX6_passesAll_18 : decode cX6_passesAll 18 = .ok (.invokevirtual 251, 3) := by decide +kernel
theorem dX6_passesAll_21 : decode cX6_passesAll 21 = .ok (.aload_n 0, 1) := by decide +kernel
theorem dX6_passesAll_22 : decode cX6_passesAll 22 = .ok (.aload_n 0, 1) := by decide +kernel
theorem dX6_passesAll_23 : decode cX6_passesAll 23 = .ok (.getfield 16, 3) := by decide +kernel
theorem dX6_passesAll_26 : decode cX6_passesAll 26 = .ok (.invokevirtual 251, 3) := by decide +kernel
theorem dX6_passesAll_29 : decode cX6_passesAll 29 = .ok (.aload_n 0, 1) := by decide +kernel
theorem dX6_passesAll_30 : decode cX6_passesAll 30 = .ok (.aload_n 0, 1) := by decide +kernel
theorem dX6_passesAll_31 : decode cX6_passesAll 31 = .ok (.getfield 19, 3) := by decide +kernel
theorem dX6_passesAll_34 : decode cX6_passesAll 34 = .ok (.invokevirtual 251, 3) := by decide +kernel
theorem dX6_passesAll_37 : decode cX6_passesAll 37 = .ok (.aload_n 0, 1) := by decide +kernel
theorem dX6_passesAll_38 : decode cX6_passesAll 38 = .ok (.aload_n 0, 1) := by decide +kernel
theorem dX6_passesAll_39 : decode cX6_passesAll 39 = .ok (.getfield 22, 3) := by decide +kernel
theorem dX6_passesAll_42 : decode cX6_passesAll 42 = .ok (.invokevirtual 251, 3) := by decide +kernel
theorem dX6_passesAll_45 : decode cX6_passesAll 45 = .ok (.aload_n 0, 1) := by decide +kernel
theorem dX6_passesAll_46 : decode cX6_passesAll 46 = .ok (.aload_n 0, 1) := by decide +kernel
theorem dX6_passesAll_47 : decode cX6_passesAll 47 = .ok (.getfield 25, 3) := by decide +kernel
theorem dX6_passesAll_50 : decode cX6_passesAll 50 = .ok (.invokevirtual 251, 3) := by decide +kernel
theorem dX6_passesAll_53 : decode cX6_passesAll 53 = .ok (.aload_n 0, 1) := by decide +kernel
theorem dX6_passesAll_54 : decode cX6_passesAll 54 = .ok (.aload_n 0, 1) := by decide +kernel
theorem dX6_passesAll_55 : decode cX6_passesAll 55 = .ok (.getfield 28, 3) := by decide +kernel
theorem dX6_passesAll_58 : decode cX6_passesAll 58 = .ok (.invokevirtual 251, 3) := by decide +kernel
theorem dX6_passesAll_61 : decode cX6_passesAll 61 = .ok (.aload_n 0, 1) := by decide +kernel
theorem dX6_passesAll_62 : decode cX6_passesAll 62 = .ok (.aload_n 0, 1) := by decide +kernel
theorem dX6_passesAll_63 : decode cX6_passesAll 63 = .ok (.getfield 31, 3) := by decide +kernel
theorem dX6_passesAll_66 : decode cX6_passesAll 66 = .ok (.invokevirtual 251, 3) := by decide +kernel
theorem dX6_passesAll_69 : decode cX6_passesAll 69 = .ok (.aload_n 0, 1) := by decide +kernel
theorem dX6_passesAll_70 : decode cX6_passesAll 70 = .ok (.aload_n 0, 1) := by decide +kernel
theorem dX6_passesAll_71 : decode cX6_passesAll 71 = .ok (.getfield 34, 3) := by decide +kernel
theorem dX6_passesAll_74 : decode cX6_passesAll 74 = .ok (.invokevirtual 251, 3) := by decide +kernel
theorem dX6_passesAll_77 : decode cX6_passesAll 77 = .ok (.aload_n 0, 1) := by decide +kernel
theorem dX6_passesAll_78 : decode cX6_passesAll 78 = .ok (.aload_n 0, 1) := by decide +kernel
theorem dX6_passesAll_79 : decode cX6_passesAll 79 = .ok (.getfield 37, 3) := by decide +kernel
theorem dX6_passesAll_82 : decode cX6_passesAll 82 = .ok (.invokevirtual 251, 3) := by decide +kernel
theorem dX6_passesAll_85 : decode cX6_passesAll 85 = .ok (.aload_n 0, 1) := by decide +kernel
theorem dX6_passesAll_86 : decode cX6_passesAll 86 = .ok (.aload_n 0, 1) := by decide +kernel
theorem dX6_passesAll_87 : decode cX6_passesAll 87 = .ok (.getfield 40, 3) := by decide +kernel
theorem dX6_passesAll_90 : decode cX6_passesAll 90 = .ok (.invokevirtual 251, 3) := by decide +kernel
theorem dX6_passesAll_93 : decode cX6_passesAll 93 = .ok (.aload_n 0, 1) := by decide +kernel
theorem dX6_passesAll_94 : decode cX6_passesAll 94 = .ok (.aload_n 0, 1) := by decide +kernel
theorem dX6_passesAll_95 : decode cX6_passesAll 95 = .ok (.aload_n 0, 1) := by decide +kernel
theorem dX6_passesAll_96 : decode cX6_passesAll 96 = .ok (.getfield 79, 3) := by decide +kernel
theorem dX6_passesAll_99 : decode cX6_passesAll 99 = .ok (.invokevirtual 255, 3) := by decide +kernel
theorem dX6_passesAll_102 : decode cX6_passesAll 102 = .ok (.putfield 79, 3) := by decide +kernel
theorem dX6_passesAll_105 : decode cX6_passesAll 105 = .ok (.aload_n 0, 1) := by decide +kernel
theorem dX6_passesAll_106 : decode cX6_passesAll 106 = .ok (.aload_n 0, 1) := by decide +kernel
theorem dX6_passesAll_107 : decode cX6_passesAll 107 = .ok (.aload_n 0, 1) := by decide +kernel
theorem dX6_passesAll_108 : decode cX6_passesAll 108 = .ok (.getfield 86, 3) := by decide +kernel
theorem dX6_passesAll_111 : decode cX6_passesAll 111 = .ok (.invokevirtual 255, 3) := by decide +kernel
theorem dX6_passesAll_114 : decode cX6_passesAll 114 = .ok (.putfield 86, 3) := by decide +kernel
theorem dX6_passesAll_117 : decode cX6_passesAll 117 = .ok (.aload_n 0, 1) := by decide +kernel
theorem dX6_passesAll_118 : decode cX6_passesAll 118 = .ok (.aload_n 0, 1) := by decide +kernel
theorem dX6_passesAll_119 : decode cX6_passesAll 119 = .ok (.aload_n 0, 1) := by decide +kernel
theorem dX6_passesAll_120 : decode cX6_passesAll 120 = .ok (.getfield 89, 3) := by decide +kernel
theorem dX6_passesAll_123 : decode cX6_passesAll 123 = .ok (.invokevirtual 255, 3) := by decide +kernel
theorem dX6_passesAll_126 : decode cX6_passesAll 126 = .ok (.putfield 89, 3) := by decide +kernel
theorem dX6_passesAll_129 : decode cX6_passesAll 129 = .ok (.aload_n 0, 1) := by decide +kernel
theorem dX6_passesAll_130 : decode cX6_passesAll 130 = .ok (.aload_n 0, 1) := by decide +kernel
theorem dX6_passesAll_131 : decode cX6_passesAll 131 = .ok (.aload_n 0, 1) := by decide +kernel
theorem dX6_passesAll_132 : decode cX6_passesAll 132 = .ok (.getfield 74, 3) := by decide +kernel
theorem dX6_passesAll_135 : decode cX6_passesAll 135 = .ok (.invokevirtual 255, 3) := by decide +kernel
theorem dX6_passesAll_138 : decode cX6_passesAll 138 = .ok (.putfield 74, 3) := by decide +kernel
theorem dX6_passesAll_141 : decode cX6_passesAll 141 = .ok (.aload_n 0, 1) := by decide +kernel
theorem dX6_passesAll_142 : decode cX6_passesAll 142 = .ok (.aload_n 0, 1) := by decide +kernel
theorem dX6_passesAll_143 : decode cX6_passesAll 143 = .ok (.aload_n 0, 1) := by decide +kernel
theorem dX6_passesAll_144 : decode cX6_passesAll 144 = .ok (.getfield 114, 3) := by decide +kernel
theorem dX6_passesAll_147 : decode cX6_passesAll 147 = .ok (.invokevirtual 255, 3) := by decide +kernel
theorem dX6_passesAll_150 : decode cX6_passesAll 150 = .ok (.putfield 114, 3) := by decide +kernel
theorem dX6_passesAll_153 : decode cX6_passesAll 153 = .ok (.return_, 1) := by decide +kernel
theorem dX6_minds_0 : decode cX6_minds 0 = .ok (.aload_n 0, 1) := by decide +kernel
theorem dX6_minds_1 : decode cX6_minds 1 = .ok (.iconst 2, 1) := by decide +kernel
theorem dX6_minds_2 : decode cX6_minds 2 = .ok (.iconst 1, 1) := by decide +kernel
theorem dX6_minds_3 : decode cX6_minds 3 = .ok (.invokevirtual 235, 3) := by decide +kernel
theorem dX6_minds_6 : decode cX6_minds 6 = .ok (.return_, 1) := by decide +kernel
theorem dX6_forgets_0 : decode cX6_forgets 0 = .ok (.aload_n 0, 1) := by decide +kernel
theorem dX6_forgets_1 : decode cX6_forgets 1 = .ok (.iconst 2, 1) := by decide +kernel
theorem dX6_forgets_2 : decode cX6_forgets 2 = .ok (.iconst 0, 1) := by decide +kernel
theorem dX6_forgets_3 : decode cX6_forgets 3 = .ok (.invokevirtual 235, 3) := by decide +kernel
theorem dX6_forgets_6 : decode cX6_forgets 6 = .ok (.aload_n 0, 1) := by decide +kernel
theorem dX6_forgets_7 : decode cX6_forgets 7 = .ok (.bipush (-9), 2) := by decide +kernel
theorem dX6_forgets_9 : decode cX6_forgets 9 = .ok (.putfield 49, 3) := by decide +kernel
theorem dX6_forgets_12 : decode cX6_forgets 12 = .ok (.aload_n 0, 1) := by decide +kernel
theorem dX6_forgets_13 : decode cX6_forgets 13 = .ok (.iconst 0, 1) := by decide +kernel
theorem dX6_forgets_14 : decode cX6_forgets 14 = .ok (.putfield 103, 3) := by decide +kernel
theorem dX6_forgets_17 : decode cX6_forgets 17 = .ok (.return_, 1) := by decide +kernel
theorem dX6_remembers_0 : decode cX6_remembers 0 = .ok (.aload_n 0, 1) := by decide +kernel
theorem dX6_remembers_1 : decode cX6_remembers 1 = .ok (.getfield 242, 3) := by decide +kernel
theorem dX6_remembers_4 : decode cX6_remembers 4 = .ok (.bipush 8, 2) := by decide +kernel
theorem dX6_remembers_6 : decode cX6_remembers 6 = .ok (.if_icmp .ne 19, 3) := by decide +kernel
theorem dX6_remembers_9 : decode cX6_remembers 9 = .ok (.aload_n 0, 1) := by decide +kernel
theorem dX6_remembers_10 : decode cX6_remembers 10 = .ok (.aload_n 0, 1) := by decide +kernel
theorem dX6_remembers_11 : decode cX6_remembers 11 = .ok (.getfield 258, 3) := by decide +kernel
theorem dX6_remembers_14 : decode cX6_remembers 14 = .ok (.iconst 1, 1) := by decide +kernel
theorem dX6_remembers_15 : decode cX6_remembers 15 = .ok (.iadd, 1) := by decide +kernel
theorem dX6_remembers_16 : decode cX6_remembers 16 = .ok (.bipush 8, 2) := by decide +kernel
theorem dX6_remembers_18 : decode cX6_remembers 18 = .ok (.irem, 1) := by decide +kernel
theorem dX6_remembers_19 : decode cX6_remembers 19 = .ok (.putfield 258, 3) := by decide +kernel
theorem dX6_remembers_22 : decode cX6_remembers 22 = .ok (.goto 13, 3) := by decide +kernel
theorem dX6_remembers_25 : decode cX6_remembers 25 = .ok (.aload_n 0, 1) := by decide +kernel
theorem dX6_remembers_26 : decode cX6_remembers 26 = .ok (.dup, 1) := by decide +kernel
theorem dX6_remembers_27 : decode cX6_remembers 27 = .ok (.getfield 242, 3) := by decide +kernel
theorem dX6_remembers_30 : decode cX6_remembers 30 = .ok (.iconst 1, 1) := by decide +kernel
theorem dX6_remembers_31 : decode cX6_remembers 31 = .ok (.iadd, 1) := by decide +kernel
theorem dX6_remembers_32 : decode cX6_remembers 32 = .ok (.putfield 242, 3) := by decide +kernel
theorem dX6_remembers_35 : decode cX6_remembers 35 = .ok (.aload_n 0, 1) := by decide +kernel
theorem dX6_remembers_36 : decode cX6_remembers 36 = .ok (.iconst 3, 1) := by decide +kernel
theorem dX6_remembers_37 : decode cX6_remembers 37 = .ok (.aload_n 0, 1) := by decide +kernel
theorem dX6_remembers_38 : decode cX6_remembers 38 = .ok (.getfield 258, 3) := by decide +kernel
theorem dX6_remembers_41 : decode cX6_remembers 41 = .ok (.aload_n 0, 1) := by decide +kernel
theorem dX6_remembers_42 : decode cX6_remembers 42 = .ok (.getfield 242, 3) := by decide +kernel
theorem dX6_remembers_45 : decode cX6_remembers 45 = .ok (.iadd, 1) := by decide +kernel
theorem dX6_remembers_46 : decode cX6_remembers 46 = .ok (.iconst 1, 1) := by decide +kernel
theorem dX6_remembers_47 : decode cX6_remembers 47 = .ok (.isub, 1) := by decide +kernel
theorem dX6_remembers_48 : decode cX6_remembers 48 = .ok (.bipush 8, 2) := by decide +kernel
theorem dX6_remembers_50 : decode cX6_remembers 50 = .ok (.irem, 1) := by decide +kernel
theorem dX6_remembers_51 : decode cX6_remembers 51 = .ok (.iadd, 1) := by decide +kernel
theorem dX6_remembers_52 : decode cX6_remembers 52 = .ok (.iconst 1, 1) := by decide +kernel
theorem dX6_remembers_53 : decode cX6_remembers 53 = .ok (.invokevirtual 235, 3) := by decide +kernel
theorem dX6_remembers_56 : decode cX6_remembers 56 = .ok (.return_, 1) := by decide +kernel
theorem dX6_back_0 : decode cX6_back 0 = .ok (.aload_n 0, 1) := by decide +kernel
theorem dX6_back_1 : decode cX6_back 1 = .ok (.getfield 242, 3) := by decide +kernel
theorem dX6_back_4 : decode cX6_back 4 = .ok (.ifCond .ne 10, 3) := by decide +kernel
theorem dX6_back_7 : decode cX6_back 7 = .ok (.aload_n 0, 1) := by decide +kernel
theorem dX6_back_8 : decode cX6_back 8 = .ok (.bipush (-3), 2) := by decide +kernel
theorem dX6_back_10 : decode cX6_back 10 = .ok (.invokevirtual 172, 3) := by decide +kernel
theorem dX6_back_13 : decode cX6_back 13 = .ok (.ireturn, 1) := by decide +kernel
theorem dX6_back_14 : decode cX6_back 14 = .ok (.aload_n 0, 1) := by decide +kernel
theorem dX6_back_15 : decode cX6_back 15 = .ok (.iconst 3, 1) := by decide +kernel
theorem dX6_back_16 : decode cX6_back 16 = .ok (.aload_n 0, 1) := by decide +kernel
theorem dX6_back_17 : decode cX6_back 17 = .ok (.getfield 258, 3) := by decide +kernel
theorem dX6_back_20 : decode cX6_back 20 = .ok (.aload_n 0, 1) := by decide +kernel
theorem dX6_back_21 : decode cX6_back 21 = .ok (.getfield 242, 3) := by decide +kernel
theorem dX6_back_24 : decode cX6_back 24 = .ok (.iadd, 1) := by decide +kernel
theorem dX6_back_25 : decode cX6_back 25 = .ok (.iconst 1, 1) := by decide +kernel
theorem dX6_back_26 : decode cX6_back 26 = .ok (.isub, 1) := by decide +kernel
theorem dX6_back_27 : decode cX6_back 27 = .ok (.bipush 8, 2) := by decide +kernel
theorem dX6_back_29 : decode cX6_back 29 = .ok (.irem, 1) := by decide +kernel
theorem dX6_back_30 : decode cX6_back 30 = .ok (.iadd, 1) := by decide +kernel
theorem dX6_back_31 : decode cX6_back 31 = .ok (.iconst 0, 1) := by decide +kernel
theorem dX6_back_32 : decode cX6_back 32 = .ok (.invokevirtual 235, 3) := by decide +kernel
theorem dX6_back_35 : decode cX6_back 35 = .ok (.aload_n 0, 1) := by decide +kernel
theorem dX6_back_36 : decode cX6_back 36 = .ok (.dup, 1) := by decide +kernel
theorem dX6_back_37 : decode cX6_back 37 = .ok (.getfield 242, 3) := by decide +kernel
theorem dX6_back_40 : decode cX6_back 40 = .ok (.iconst 1, 1) := by decide +kernel
theorem dX6_back_41 : decode cX6_back 41 = .ok (.isub, 1) := by decide +kernel
theorem dX6_back_42 : decode cX6_back 42 = .ok (.putfield 242, 3) := by decide +kernel
theorem dX6_back_45 : decode cX6_back 45 = .ok (.aload_n 0, 1) := by decide +kernel
theorem dX6_back_46 : decode cX6_back 46 = .ok (.getfield 242, 3) := by decide +kernel
theorem dX6_back_49 : decode cX6_back 49 = .ok (.ireturn, 1) := by decide +kernel
theorem dX6_image_0 : decode cX6_image 0 = .ok (.aload_n 0, 1) := by decide +kernel
theorem dX6_image_1 : decode cX6_image 1 = .ok (.iconst 1, 1) := by decide +kernel
theorem dX6_image_2 : decode cX6_image 2 = .ok (.putfield 261, 3) := by decide +kernel
theorem dX6_image_5 : decode cX6_image 5 = .ok (.aload_n 0, 1) := by decide +kernel
theorem dX6_image_6 : decode cX6_image 6 = .ok (.iconst 0, 1) := by decide +kernel
theorem dX6_image_7 : decode cX6_image 7 = .ok (.iconst 1, 1) := by decide +kernel
theorem dX6_image_8 : decode cX6_image 8 = .ok (.invokevirtual 235, 3) := by decide +kernel
theorem dX6_image_11 : decode cX6_image 11 = .ok (.aload_n 0, 1) := by decide +kernel
theorem dX6_image_12 : decode cX6_image 12 = .ok (.getfield 114, 3) := by decide +kernel
theorem dX6_image_15 : decode cX6_image 15 = .ok (.ireturn, 1) := by decide +kernel
theorem dX6_restore_0 : decode cX6_restore 0 = .ok (.aload_n 0, 1) := by decide +kernel
theorem dX6_restore_1 : decode cX6_restore 1 = .ok (.getfield 261, 3) := by decide +kernel
theorem dX6_restore_4 : decode cX6_restore 4 = .ok (.ifCond .ne 10, 3) := by decide +kernel
theorem dX6_restore_7 : decode cX6_restore 7 = .ok (.aload_n 0, 1) := by decide +kernel
theorem dX6_restore_8 : decode cX6_restore 8 = .ok (.bipush (-3), 2) := by decide +kernel
theorem dX6_restore_10 : decode cX6_restore 10 = .ok (.invokevirtual 172, 3) := by decide +kernel
theorem dX6_restore_13 : decode cX6_restore 13 = .ok (.ireturn, 1) := by decide +kernel
theorem dX6_restore_14 : decode cX6_restore 14 = .ok (.aload_n 0, 1) := by decide +kernel
theorem dX6_restore_15 : decode cX6_restore 15 = .ok (.iconst 0, 1) := by decide +kernel
theorem dX6_restore_16 : decode cX6_restore 16 = .ok (.iconst 0, 1) := by decide +kernel
theorem dX6_restore_17 : decode cX6_restore 17 = .ok (.invokevirtual 235, 3) := by decide +kernel
theorem dX6_restore_20 : decode cX6_restore 20 = .ok (.aload_n 0, 1) := by decide +kernel
theorem dX6_restore_21 : decode cX6_restore 21 = .ok (.iconst 0, 1) := by decide +kernel
theorem dX6_restore_22 : decode cX6_restore 22 = .ok (.putfield 242, 3) := by decide +kernel
theorem dX6_restore_25 : decode cX6_restore 25 = .ok (.aload_n 0, 1) := by decide +kernel
theorem dX6_restore_26 : decode cX6_restore 26 = .ok (.getfield 114, 3) := by decide +kernel
theorem dX6_restore_29 : decode cX6_restore 29 = .ok (.ireturn, 1) := by decide +kernel
theorem dX6_person_0 : decode cX6_person 0 = .ok (.aload_n 0, 1) := by decide +kernel
theorem dX6_person_1 : decode cX6_person 1 = .ok (.iload_n 1, 1) := by decide +kernel
theorem dX6_person_2 : decode cX6_person 2 = .ok (.invokevirtual 92, 3) := by decide +kernel
theorem dX6_person_5 : decode cX6_person 5 = .ok (.ifCond .ne 9, 3) := by decide +kernel
theorem dX6_person_8 : decode cX6_person 8 = .ok (.aload_n 0, 1) := by decide +kernel
theorem dX6_person_9 : decode cX6_person 9 = .ok (.iconst (-1), 1) := by decide +kernel
theorem dX6_person_10 : decode cX6_person 10 = .ok (.invokevirtual 172, 3) := by decide +kernel
theorem dX6_person_13 : decode cX6_person 13 = .ok (.ireturn, 1) := by decide +kernel
theorem dX6_person_14 : decode cX6_person 14 = .ok (.iload_n 2, 1) := by decide +kernel
theorem dX6_person_15 : decode cX6_person 15 = .ok (.tableswitch 113 0 8 #[49, 56, 63, 70, 77, 83, 89, 95, 107], 49) := by decide +kernel
theorem dX6_person_64 : decode cX6_person 64 = .ok (.aload_n 0, 1) := by decide +kernel
theorem dX6_person_65 : decode cX6_person 65 = .ok (.getfield 31, 3) := by decide +kernel
theorem dX6_person_68 : decode cX6_person 68 = .ok (.iload_n 1, 1) := by decide +kernel
theorem dX6_person_69 : decode cX6_person 69 = .ok (.iaload, 1) := by decide +kernel
theorem dX6_person_70 : decode cX6_person 70 = .ok (.ireturn, 1) := by decide +kernel
theorem dX6_person_71 : decode cX6_person 71 = .ok (.aload_n 0, 1) := by decide +kernel
theorem dX6_person_72 : decode cX6_person 72 = .ok (.getfield 34, 3) := by decide +kernel
theorem dX6_person_75 : decode cX6_person 75 = .ok (.iload_n 1, 1) := by decide +kernel
theorem dX6_person_76 : decode cX6_person 76 = .ok (.iaload, 1) := by decide +kernel
theorem dX6_person_77 : decode cX6_person 77 = .ok (.ireturn, 1) := by decide +kernel
theorem dX6_person_78 : decode cX6_person 78 = .ok (.aload_n 0, 1) := by decide +kernel
theorem dX6_person_79 : decode cX6_person 79 = .ok (.getfield 37, 3) := by decide +kernel
theorem dX6_person_82 : decode cX6_person 82 = .ok (.iload_n 1, 1) := by decide +kernel
theorem dX6_person_83 : decode cX6_person 83 = .ok (.iaload, 1) := by decide +kernel
theorem dX6_person_84 : decode cX6_person 84 = .ok (.ireturn, 1) := by decide +kernel
theorem dX6_person_85 : decode cX6_person 85 = .ok (.aload_n 0, 1) := by decide +kernel
theorem dX6_person_86 : decode cX6_person 86 = .ok (.getfield 40, 3) := by decide +kernel
theorem dX6_person_89 : decode cX6_person 89 = .ok (.iload_n 1, 1) := by decide +kernel
theorem dX6_person_90 : decode cX6_person 90 = .ok (.iaload, 1) := by decide +kernel
theorem dX6_person_91 : decode cX6_person 91 = .ok (.ireturn, 1) := by decide +kernel
theorem dX6_person_92 : decode cX6_person 92 = .ok (.aload_n 0, 1) := by decide +kernel
theorem dX6_person_93 : decode cX6_person 93 = .ok (.iload_n 1, 1) := by decide +kernel
theorem dX6_person_94 : decode cX6_person 94 = .ok (.invokevirtual 145, 3) := by decide +kernel
theorem dX6_person_97 : decode cX6_person 97 = .ok (.ireturn, 1) := by decide +kernel
theorem dX6_person_98 : decode cX6_person 98 = .ok (.aload_n 0, 1) := by decide +kernel
theorem dX6_person_99 : decode cX6_person 99 = .ok (.iload_n 1, 1) := by decide +kernel
theorem dX6_person_100 : decode cX6_person 100 = .ok (.invokevirtual 151, 3) := by decide +kernel
theorem dX6_person_103 : decode cX6_person 103 = .ok (.ireturn, 1) := by decide +kernel
theorem dX6_person_104 : decode cX6_person 104 = .ok (.aload_n 0, 1) := by decide +kernel
theorem dX6_person_105 : decode cX6_person 105 = .ok (.iload_n 1, 1) := by decide +kernel
theorem dX6_person_106 : decode cX6_person 106 = .ok (.invokevirtual 120, 3) := by decide +kernel
theorem dX6_person_109 : decode cX6_person 109 = .ok (.ireturn, 1) := by decide +kernel
theorem dX6_person_110 : decode cX6_person 110 = .ok (.aload_n 0, 1) := by decide +kernel
theorem dX6_person_111 : decode cX6_person 111 = .ok (.iload_n 1, 1) := by decide +kernel
theorem dX6_person_112 : decode cX6_person 112 = .ok (.aload_n 0, 1) := by decide +kernel
theorem dX6_person_113 : decode cX6_person 113 = .ok (.getfield 114, 3) := by decide +kernel
theorem dX6_person_116 : decode cX6_person 116 = .ok (.iconst 1, 1) := by decide +kernel
theorem dX6_person_117 : decode cX6_person 117 = .ok (.iadd, 1) := by decide +kernel
theorem dX6_person_118 : decode cX6_person 118 = .ok (.invokevirtual 142, 3) := by decide +kernel
theorem dX6_person_121 : decode cX6_person 121 = .ok (.ireturn, 1) := by decide +kernel
theorem dX6_person_122 : decode cX6_person 122 = .ok (.aload_n 0, 1) := by decide +kernel
theorem dX6_person_123 : decode cX6_person 123 = .ok (.iload_n 1, 1) := by decide +kernel
theorem dX6_person_124 : decode cX6_person 124 = .ok (.invokevirtual 264, 3) := by decide +kernel
theorem dX6_person_127 : decode cX6_person 127 = .ok (.ireturn, 1) := by decide +kernel
theorem dX6_person_128 : decode cX6_person 128 = .ok (.aload_n 0, 1) := by decide +kernel
theorem dX6_person_129 : decode cX6_person 129 = .ok (.bipush (-2), 2) := by decide +kernel
theorem dX6_person_131 : decode cX6_person 131 = .ok (.invokevirtual 172, 3) := by decide +kernel
theorem dX6_person_134 : decode cX6_person 134 = .ok (.ireturn, 1) := by decide +kernel
theorem dX6_thing_0 : decode cX6_thing 0 = .ok (.aload_n 0, 1) := by decide +kernel
theorem dX6_thing_1 : decode cX6_thing 1 = .ok (.iload_n 1, 1) := by decide +kernel
theorem dX6_thing_2 : decode cX6_thing 2 = .ok (.invokevirtual 207, 3) := by decide +kernel
theorem dX6_thing_5 : decode cX6_thing 5 = .ok (.ifCond .ne 9, 3) := by decide +kernel
theorem dX6_thing_8 : decode cX6_thing 8 = .ok (.aload_n 0, 1) := by decide +kernel
theorem dX6_thing_9 : decode cX6_thing 9 = .ok (.iconst (-1), 1) := by decide +kernel
theorem dX6_thing_10 : decode cX6_thing 10 = .ok (.invokevirtual 172, 3) := by decide +kernel
theorem dX6_thing_13 : decode cX6_thing 13 = .ok (.ireturn, 1) := by decide +kernel
theorem dX6_thing_14 : decode cX6_thing 14 = .ok (.iload_n 2, 1) := by decide +kernel
theorem dX6_thing_15 : decode cX6_thing 15 = .ok (.tableswitch 46 0 2 #[25, 32, 39], 25) := by decide +kernel
theorem dX6_thing_40 : decode cX6_thing 40 = .ok (.aload_n 0, 1) := by decide +kernel
theorem dX6_thing_41 : decode cX6_thing 41 = .ok (.getfield 22, 3) := by decide +kernel
theorem dX6_thing_44 : decode cX6_thing 44 = .ok (.iload_n 1, 1) := by decide +kernel
theorem dX6_thing_45 : decode cX6_thing 45 = .ok (.iaload, 1) := by decide +kernel
theorem dX6_thing_46 : decode cX6_thing 46 = .ok (.ireturn, 1) := by decide +kernel
theorem dX6_thing_47 : decode cX6_thing 47 = .ok (.aload_n 0, 1) := by decide +kernel
theorem dX6_thing_48 : decode cX6_thing 48 = .ok (.getfield 25, 3) := by decide +kernel
theorem dX6_thing_51 : decode cX6_thing 51 = .ok (.iload_n 1, 1) := by decide +kernel
theorem dX6_thing_52 : decode cX6_thing 52 = .ok (.iaload, 1) := by decide +kernel
theorem dX6_thing_53 : decode cX6_thing 53 = .ok (.ireturn, 1) := by decide +kernel
theorem dX6_thing_54 : decode cX6_thing 54 = .ok (.aload_n 0, 1) := by decide +kernel
theorem dX6_thing_55 : decode cX6_thing 55 = .ok (.getfield 28, 3) := by decide +kernel
theorem dX6_thing_58 : decode cX6_thing 58 = .ok (.iload_n 1, 1) := by decide +kernel
theorem dX6_thing_59 : decode cX6_thing 59 = .ok (.iaload, 1) := by decide +kernel
theorem dX6_thing_60 : decode cX6_thing 60 = .ok (.ireturn, 1) := by decide +kernel
theorem dX6_thing_61 : decode cX6_thing 61 = .ok (.aload_n 0, 1) := by decide +kernel
theorem dX6_thing_62 : decode cX6_thing 62 = .ok (.bipush (-2), 2) := by decide +kernel
theorem dX6_thing_64 : decode cX6_thing 64 = .ok (.invokevirtual 172, 3) := by decide +kernel
theorem dX6_thing_67 : decode cX6_thing 67 = .ok (.ireturn, 1) := by decide +kernel
theorem dX6_front_0 : decode cX6_front 0 = .ok (.aload_n 0, 1) := by decide +kernel
theorem dX6_front_1 : decode cX6_front 1 = .ok (.iload_n 1, 1) := by decide +kernel
theorem dX6_front_2 : decode cX6_front 2 = .ok (.invokevirtual 267, 3) := by decide +kernel
theorem dX6_front_5 : decode cX6_front 5 = .ok (.ifCond .ne 9, 3) := by decide +kernel
theorem dX6_front_8 : decode cX6_front 8 = .ok (.aload_n 0, 1) := by decide +kernel
theorem dX6_front_9 : decode cX6_front 9 = .ok (.iconst (-1), 1) := by decide +kernel
theorem dX6_front_10 : decode cX6_front 10 = .ok (.invokevirtual 172, 3) := by decide +kernel
theorem dX6_front_13 : decode cX6_front 13 = .ok (.ireturn, 1) := by decide +kernel
theorem dX6_front_14 : decode cX6_front 14 = .ok (.iload_n 2, 1) := by decide +kernel
theorem dX6_front_15 : decode cX6_front 15 = .ok (.tableswitch 46 0 2 #[25, 32, 39], 25) := by decide +kernel
theorem dX6_front_40 : decode cX6_front 40 = .ok (.aload_n 0, 1) := by decide +kernel
theorem dX6_front_41 : decode cX6_front 41 = .ok (.getfield 13, 3) := by decide +kernel
theorem dX6_front_44 : decode cX6_front 44 = .ok (.iload_n 1, 1) := by decide +kernel
theorem dX6_front_45 : decode cX6_front 45 = .ok (.iaload, 1) := by decide +kernel
theorem dX6_front_46 : decode cX6_front 46 = .ok (.ireturn, 1) := by decide +kernel
theorem dX6_front_47 : decode cX6_front 47 = .ok (.aload_n 0, 1) := by decide +kernel
theorem dX6_front_48 : decode cX6_front 48 = .ok (.getfield 16, 3) := by decide +kernel
theorem dX6_front_51 : decode cX6_front 51 = .ok (.iload_n 1, 1) := by decide +kernel
theorem dX6_front_52 : decode cX6_front 52 = .ok (.iaload, 1) := by decide +kernel
theorem dX6_front_53 : decode cX6_front 53 = .ok (.ireturn, 1) := by decide +kernel
theorem dX6_front_54 : decode cX6_front 54 = .ok (.aload_n 0, 1) := by decide +kernel
theorem dX6_front_55 : decode cX6_front 55 = .ok (.getfield 19, 3) := by decide +kernel
theorem dX6_front_58 : decode cX6_front 58 = .ok (.iload_n 1, 1) := by decide +kernel
theorem dX6_front_59 : decode cX6_front 59 = .ok (.iaload, 1) := by decide +kernel
theorem dX6_front_60 : decode cX6_front 60 = .ok (.ireturn, 1) := by decide +kernel
theorem dX6_front_61 : decode cX6_front 61 = .ok (.aload_n 0, 1) := by decide +kernel
theorem dX6_front_62 : decode cX6_front 62 = .ok (.bipush (-2), 2) := by decide +kernel
theorem dX6_front_64 : decode cX6_front 64 = .ok (.invokevirtual 172, 3) := by decide +kernel
theorem dX6_front_67 : decode cX6_front 67 = .ok (.ireturn, 1) := by decide +kernel
theorem dX6_setAt_0 : decode cX6_setAt 0 = .ok (.iconst 0, 1) := by decide +kernel
theorem dX6_setAt_1 : decode cX6_setAt 1 = .ok (.istore_n 3, 1) := by decide +kernel
theorem dX6_setAt_2 : decode cX6_setAt 2 = .ok (.iconst 0, 1) := by decide +kernel
theorem dX6_setAt_3 : decode cX6_setAt 3 = .ok (.istore 4, 2) := by decide +kernel
theorem dX6_setAt_5 : decode cX6_setAt 5 = .ok (.iload 4, 2) := by decide +kernel
theorem dX6_setAt_7 : decode cX6_setAt 7 = .ok (.iload_n 1, 1) := by decide +kernel
theorem dX6_setAt_8 : decode cX6_setAt 8 = .ok (.if_icmp .ge 28, 3) := by decide +kernel
theorem dX6_setAt_11 : decode cX6_setAt 11 = .ok (.iload_n 3, 1) := by decide +kernel
theorem dX6_setAt_12 : decode cX6_setAt 12 = .ok (.aload_n 0, 1) := by decide +kernel
theorem dX6_setAt_13 : decode cX6_setAt 13 = .ok (.iload 4, 2) := by decide +kernel
theorem dX6_setAt_15 : decode cX6_setAt 15 = .ok (.iaload, 1) := by decide +kernel
theorem dX6_setAt_16 : decode cX6_setAt 16 = .ok (.iload_n 2, 1) := by decide +kernel
theorem dX6_setAt_17 : decode cX6_setAt 17 = .ok (.if_icmp .ne 10, 3) := by decide +kernel
theorem dX6_setAt_20 : decode cX6_setAt 20 = .ok (.iconst 1, 1) := by decide +kernel
theorem dX6_setAt_21 : decode cX6_setAt 21 = .ok (.iload 4, 2) := by decide +kernel
theorem dX6_setAt_23 : decode cX6_setAt 23 = .ok (.ishl, 1) := by decide +kernel
theorem dX6_setAt_24 : decode cX6_setAt 24 = .ok (.goto 4, 3) := by decide +kernel
theorem dX6_setAt_27 : decode cX6_setAt 27 = .ok (.iconst 0, 1) := by decide +kernel
theorem dX6_setAt_28 : decode cX6_setAt 28 = .ok (.ior, 1) := by decide +kernel
theorem dX6_setAt_29 : decode cX6_setAt 29 = .ok (.istore_n 3, 1) := by decide +kernel
theorem dX6_setAt_30 : decode cX6_setAt 30 = .ok (.iinc 4 1, 3) := by decide +kernel
theorem dX6_setAt_33 : decode cX6_setAt 33 = .ok (.goto (-28), 3) := by decide +kernel
theorem dX6_setAt_36 : decode cX6_setAt 36 = .ok (.iload_n 3, 1) := by decide +kernel
theorem dX6_setAt_37 : decode cX6_setAt 37 = .ok (.ireturn, 1) := by decide +kernel
theorem dX6_cell_0 : decode cX6_cell 0 = .ok (.iload_n 1, 1) := by decide +kernel
theorem dX6_cell_1 : decode cX6_cell 1 = .ok (.invokestatic 198, 3) := by decide +kernel
theorem dX6_cell_4 : decode cX6_cell 4 = .ok (.ifCond .ne 9, 3) := by decide +kernel
theorem dX6_cell_7 : decode cX6_cell 7 = .ok (.aload_n 0, 1) := by decide +kernel
theorem dX6_cell_8 : decode cX6_cell 8 = .ok (.iconst (-1), 1) := by decide +kernel
theorem dX6_cell_9 : decode cX6_cell 9 = .ok (.invokevirtual 172, 3) := by decide +kernel
theorem dX6_cell_12 : decode cX6_cell 12 = .ok (.ireturn, 1) := by decide +kernel
theorem dX6_cell_13 : decode cX6_cell 13 = .ok (.iload_n 2, 1) := by decide +kernel
theorem dX6_cell_14 : decode cX6_cell 14 = .ok (.tableswitch 90 0 4 #[34, 44, 50, 64, 77], 34) := by decide +kernel
theorem dX6_cell_48 : decode cX6_cell 48 = .ok (.aload_n 0, 1) := by decide +kernel
theorem dX6_cell_49 : decode cX6_cell 49 = .ok (.iload_n 1, 1) := by decide +kernel
theorem dX6_cell_50 : decode cX6_cell 50 = .ok (.aload_n 0, 1) := by decide +kernel
theorem dX6_cell_51 : decode cX6_cell 51 = .ok (.getfield 114, 3) := by decide +kernel
theorem dX6_cell_54 : decode cX6_cell 54 = .ok (.invokevirtual 117, 3) := by decide +kernel
theorem dX6_cell_57 : decode cX6_cell 57 = .ok (.ireturn, 1) := by decide +kernel
theorem dX6_cell_58 : decode cX6_cell 58 = .ok (.aload_n 0, 1) := by decide +kernel
theorem dX6_cell_59 : decode cX6_cell 59 = .ok (.iload_n 1, 1) := by decide +kernel
theorem dX6_cell_60 : decode cX6_cell 60 = .ok (.invokevirtual 124, 3) := by decide +kernel
theorem dX6_cell_63 : decode cX6_cell 63 = .ok (.ireturn, 1) := by decide +kernel
theorem dX6_cell_64 : decode cX6_cell 64 = .ok (.aload_n 0, 1) := by decide +kernel
theorem dX6_cell_65 : decode cX6_cell 65 = .ok (.iload_n 1, 1) := by decide +kernel
theorem dX6_cell_66 : decode cX6_cell 66 = .ok (.invokevirtual 127, 3) := by decide +kernel
theorem dX6_cell_69 : decode cX6_cell 69 = .ok (.ifCond .eq 7, 3) := by decide +kernel
theorem dX6_cell_72 : decode cX6_cell 72 = .ok (.iconst 1, 1) := by decide +kernel
theorem dX6_cell_73 : decode cX6_cell 73 = .ok (.goto 4, 3) := by decide +kernel
theorem dX6_cell_76 : decode cX6_cell 76 = .ok (.iconst 0, 1) := by decide +kernel
theorem dX6_cell_77 : decode cX6_cell 77 = .ok (.ireturn, 1) := by decide +kernel
theorem dX6_cell_78 : decode cX6_cell 78 = .ok (.aload_n 0, 1) := by decide +kernel
theorem dX6_cell_79 : decode cX6_cell 79 = .ok (.getfield 40, 3) := by decide +kernel
theorem dX6_cell_82 : decode cX6_cell 82 = .ok (.aload_n 0, 1) := by decide +kernel
theorem dX6_cell_83 : decode cX6_cell 83 = .ok (.getfield 89, 3) := by decide +kernel
theorem dX6_cell_86 : decode cX6_cell 86 = .ok (.iload_n 1, 1) := by decide +kernel
theorem dX6_cell_87 : decode cX6_cell 87 = .ok (.invokestatic 270, 3) := by decide +kernel
theorem dX6_cell_90 : decode cX6_cell 90 = .ok (.ireturn, 1) := by decide +kernel
theorem dX6_cell_91 : decode cX6_cell 91 = .ok (.aload_n 0, 1) := by decide +kernel
theorem dX6_cell_92 : decode cX6_cell 92 = .ok (.getfield 25, 3) := by decide +kernel
theorem dX6_cell_95 : decode cX6_cell 95 = .ok (.aload_n 0, 1) := by decide +kernel
theorem dX6_cell_96 : decode cX6_cell 96 = .ok (.getfield 86, 3) := by decide +kernel
theorem dX6_cell_99 : decode cX6_cell 99 = .ok (.iload_n 1, 1) := by decide +kernel
theorem dX6_cell_100 : decode cX6_cell 100 = .ok (.invokestatic 270, 3) := by decide +kernel
theorem dX6_cell_103 : decode cX6_cell 103 = .ok (.ireturn, 1) := by decide +kernel
theorem dX6_cell_104 : decode cX6_cell 104 = .ok (.aload_n 0, 1) := by decide +kernel
theorem dX6_cell_105 : decode cX6_cell 105 = .ok (.bipush (-2), 2) := by decide +kernel
theorem dX6_cell_107 : decode cX6_cell 107 = .ok (.invokevirtual 172, 3) := by decide +kernel
theorem dX6_cell_110 : decode cX6_cell 110 = .ok (.ireturn, 1) := by decide +kernel
theorem dX6_blows_0 : decode cX6_blows 0 = .ok (.iload_n 1, 1) := by decide +kernel
theorem dX6_blows_1 : decode cX6_blows 1 = .ok (.iconst 0, 1) := by decide +kernel
theorem dX6_blows_2 : decode cX6_blows 2 = .ok (.bipush 6, 2) := by decide +kernel
theorem dX6_blows_4 : decode cX6_blows 4 = .ok (.invokestatic 82, 3) := by decide +kernel
theorem dX6_blows_7 : decode cX6_blows 7 = .ok (.ifCond .ne 8, 3) := by decide +kernel
theorem dX6_blows_10 : decode cX6_blows 10 = .ok (.bipush (-2), 2) := by decide +kernel
theorem dX6_blows_12 : decode cX6_blows 12 = .ok (.goto 43, 3) := by decide +kernel
theorem dX6_blows_15 : decode cX6_blows 15 = .ok (.iload_n 2, 1) := by decide +kernel
theorem dX6_blows_16 : decode cX6_blows 16 = .ok (.ifCond .lt 7, 3) := by decide +kernel
theorem dX6_blows_19 : decode cX6_blows 19 = .ok (.iload_n 3, 1) := by decide +kernel
theorem dX6_blows_20 : decode cX6_blows 20 = .ok (.ifCond .ge 8, 3) := by decide +kernel
theorem dX6_blows_23 : decode cX6_blows 23 = .ok (.bipush (-4), 2) := by decide +kernel
theorem dX6_blows_25 : decode cX6_blows 25 = .ok (.goto 30, 3) := by decide +kernel
theorem dX6_blows_28 : decode cX6_blows 28 = .ok (.iload_n 2, 1) := by decide +kernel
theorem dX6_blows_29 : decode cX6_blows 29 = .ok (.bipush 9, 2) := by decide +kernel
theorem dX6_blows_31 : decode cX6_blows 31 = .ok (.if_icmp .gt 18, 3) := by decide +kernel
theorem dX6_blows_34 : decode cX6_blows 34 = .ok (.iload_n 3, 1) := by decide +kernel
theorem dX6_blows_35 : decode cX6_blows 35 = .ok (.bipush 9, 2) := by decide +kernel
theorem dX6_blows_37 : decode cX6_blows 37 = .ok (.if_icmp .gt 12, 3) := by decide +kernel
theorem dX6_blows_40 : decode cX6_blows 40 = .ok (.aload_n 0, 1) := by decide +kernel
theorem dX6_blows_41 : decode cX6_blows 41 = .ok (.getfield 79, 3) := by decide +kernel
theorem dX6_blows_44 : decode cX6_blows 44 = .ok (.bipush 6, 2) := by decide +kernel
theorem dX6_blows_46 : decode cX6_blows 46 = .ok (.if_icmp .ne 8, 3) := by decide +kernel
theorem dX6_blows_49 : decode cX6_blows 49 = .ok (.bipush (-6), 2) := by decide +kernel
theorem dX6_blows_51 : decode cX6_blows 51 = .ok (.goto 4, 3) := by decide +kernel
theorem dX6_blows_54 : decode cX6_blows 54 = .ok (.iconst 0, 1) := by decide +kernel
theorem dX6_blows_55 : decode cX6_blows 55 = .ok (.istore 4, 2) := by decide +kernel
theorem dX6_blows_57 : decode cX6_blows 57 = .ok (.iload 4, 2) := by decide +kernel
theorem dX6_blows_59 : decode cX6_blows 59 = .ok (.ifCond .eq 10, 3) := by decide +kernel
theorem dX6_blows_62 : decode cX6_blows 62 = .ok (.aload_n 0, 1) := by decide +kernel
theorem dX6_blows_63 : decode cX6_blows 63 = .ok (.iload 4, 2) := by decide +kernel
theorem dX6_blows_65 : decode cX6_blows 65 = .ok (.invokevirtual 172, 3) := by decide +kernel
theorem dX6_blows_68 : decode cX6_blows 68 = .ok (.ireturn, 1) := by decide +kernel
theorem dX6_blows_69 : decode cX6_blows 69 = .ok (.aload_n 0, 1) := by decide +kernel
theorem dX6_blows_70 : decode cX6_blows 70 = .ok (.iload_n 1, 1) := by decide +kernel
theorem dX6_blows_71 : decode cX6_blows 71 = .ok (.iload_n 2, 1) := by decide +kernel
theorem dX6_blows_72 : decode cX6_blows 72 = .ok (.iload_n 3, 1) := by decide +kernel
theorem dX6_blows_73 : decode cX6_blows 73 = .ok (.invokevirtual 194, 3) := by decide +kernel
theorem dX6_blows_76 : decode cX6_blows 76 = .ok (.aload_n 0, 1) := by decide +kernel
theorem dX6_blows_77 : decode cX6_blows 77 = .ok (.iconst 0, 1) := by decide +kernel
theorem dX6_blows_78 : decode cX6_blows 78 = .ok (.putfield 242, 3) := by decide +kernel
theorem dX6_blows_81 : decode cX6_blows 81 = .ok (.aload_n 0, 1) := by decide +kernel
theorem dX6_blows_82 : decode cX6_blows 82 = .ok (.getfield 79, 3) := by decide +kernel
theorem dX6_blows_85 : decode cX6_blows 85 = .ok (.iconst 1, 1) := by decide +kernel
theorem dX6_blows_86 : decode cX6_blows 86 = .ok (.isub, 1) := by decide +kernel
theorem dX6_blows_87 : decode cX6_blows 87 = .ok (.ireturn, 1) := by decide +kernel
theorem dX6_comes_0 : decode cX6_comes 0 = .ok (.iload_n 1, 1) := by decide +kernel
theorem dX6_comes_1 : decode cX6_comes 1 = .ok (.iconst 0, 1) := by decide +kernel
theorem dX6_comes_2 : decode cX6_comes 2 = .ok (.bipush 7, 2) := by decide +kernel
theorem dX6_comes_4 : decode cX6_comes 4 = .ok (.invokestatic 82, 3) := by decide +kernel
theorem dX6_comes_7 : decode cX6_comes 7 = .ok (.ifCond .ne 8, 3) := by decide +kernel
theorem dX6_comes_10 : decode cX6_comes 10 = .ok (.bipush (-2), 2) := by decide +kernel
theorem dX6_comes_12 : decode cX6_comes 12 = .ok (.goto 10, 3) := by decide +kernel
theorem dX6_comes_15 : decode cX6_comes 15 = .ok (.iload_n 2, 1) := by decide +kernel
theorem dX6_comes_16 : decode cX6_comes 16 = .ok (.iconst 0, 1) := by decide +kernel
theorem dX6_comes_17 : decode cX6_comes 17 = .ok (.bipush 9, 2) := by decide +kernel
theorem dX6_comes_19 : decode cX6_comes 19 = .ok (.invokestatic 165, 3) := by decide +kernel
theorem dX6_comes_22 : decode cX6_comes 22 = .ok (.istore 4, 2) := by decide +kernel
theorem dX6_comes_24 : decode cX6_comes 24 = .ok (.iload 4, 2) := by decide +kernel
theorem dX6_comes_26 : decode cX6_comes 26 = .ok (.ifCond .ne 30, 3) := by decide +kernel
theorem dX6_comes_29 : decode cX6_comes 29 = .ok (.aload_n 0, 1) := by decide +kernel
theorem dX6_comes_30 : decode cX6_comes 30 = .ok (.getfield 89, 3) := by decide +kernel
theorem dX6_comes_33 : decode cX6_comes 33 = .ok (.iconst 5, 1) := by decide +kernel
theorem dX6_comes_34 : decode cX6_comes 34 = .ok (.if_icmp .ne 8, 3) := by decide +kernel
theorem dX6_comes_37 : decode cX6_comes 37 = .ok (.bipush (-6), 2) := by decide +kernel
theorem dX6_comes_39 : decode cX6_comes 39 = .ok (.goto 15, 3) := by decide +kernel
theorem dX6_comes_42 : decode cX6_comes 42 = .ok (.iload_n 3, 1) := by decide +kernel
theorem dX6_comes_43 : decode cX6_comes 43 = .ok (.invokestatic 198, 3) := by decide +kernel
theorem dX6_comes_46 : decode cX6_comes 46 = .ok (.ifCond .ne 7, 3) := by decide +kernel
theorem dX6_comes_49 : decode cX6_comes 49 = .ok (.iconst (-1), 1) := by decide +kernel
theorem dX6_comes_50 : decode cX6_comes 50 = .ok (.goto 4, 3) := by decide +kernel
theorem dX6_comes_53 : decode cX6_comes 53 = .ok (.iconst 0, 1) := by decide +kernel
theorem dX6_comes_54 : decode cX6_comes 54 = .ok (.istore 4, 2) := by decide +kernel
theorem dX6_comes_56 : decode cX6_comes 56 = .ok (.iload 4, 2) := by decide +kernel
theorem dX6_comes_58 : decode cX6_comes 58 = .ok (.ifCond .eq 10, 3) := by decide +kernel
theorem dX6_comes_61 : decode cX6_comes 61 = .ok (.aload_n 0, 1) := by decide +kernel
theorem dX6_comes_62 : decode cX6_comes 62 = .ok (.iload 4, 2) := by decide +kernel
theorem dX6_comes_64 : decode cX6_comes 64 = .ok (.invokevirtual 172, 3) := by decide +kernel
theorem dX6_comes_67 : decode cX6_comes 67 = .ok (.ireturn, 1) := by decide +kernel
theorem dX6_comes_68 : decode cX6_comes 68 = .ok (.aload_n 0, 1) := by decide +kernel
theorem dX6_comes_69 : decode cX6_comes 69 = .ok (.iload_n 1, 1) := by decide +kernel
theorem dX6_comes_70 : decode cX6_comes 70 = .ok (.iload_n 2, 1) := by decide +kernel
theorem dX6_comes_71 : decode cX6_comes 71 = .ok (.iload_n 3, 1) := by decide +kernel
theorem dX6_comes_72 : decode cX6_comes 72 = .ok (.invokevirtual 201, 3) := by decide +kernel
theorem dX6_comes_75 : decode cX6_comes 75 = .ok (.aload_n 0, 1) := by decide +kernel
theorem dX6_comes_76 : decode cX6_comes 76 = .ok (.iconst 0, 1) := by decide +kernel
theorem dX6_comes_77 : decode cX6_comes 77 = .ok (.putfield 242, 3) := by decide +kernel
theorem dX6_comes_80 : decode cX6_comes 80 = .ok (.aload_n 0, 1) := by decide +kernel
theorem dX6_comes_81 : decode cX6_comes 81 = .ok (.getfield 89, 3) := by decide +kernel
theorem dX6_comes_84 : decode cX6_comes 84 = .ok (.iconst 1, 1) := by decide +kernel
theorem dX6_comes_85 : decode cX6_comes 85 = .ok (.isub, 1) := by decide +kernel
theorem dX6_comes_86 : decode cX6_comes 86 = .ok (.ireturn, 1) := by decide +kernel
theorem dX6_lies_0 : decode cX6_lies 0 = .ok (.iload_n 1, 1) := by decide +kernel
theorem dX6_lies_1 : decode cX6_lies 1 = .ok (.iconst 0, 1) := by decide +kernel
theorem dX6_lies_2 : decode cX6_lies 2 = .ok (.bipush 9, 2) := by decide +kernel
theorem dX6_lies_4 : decode cX6_lies 4 = .ok (.invokestatic 165, 3) := by decide +kernel
theorem dX6_lies_7 : decode cX6_lies 7 = .ok (.istore_n 3, 1) := by decide +kernel
theorem dX6_lies_8 : decode cX6_lies 8 = .ok (.iload_n 3, 1) := by decide +kernel
theorem dX6_lies_9 : decode cX6_lies 9 = .ok (.ifCond .ne 30, 3) := by decide +kernel
theorem dX6_lies_12 : decode cX6_lies 12 = .ok (.aload_n 0, 1) := by decide +kernel
theorem dX6_lies_13 : decode cX6_lies 13 = .ok (.getfield 86, 3) := by decide +kernel
theorem dX6_lies_16 : decode cX6_lies 16 = .ok (.bipush 8, 2) := by decide +kernel
theorem dX6_lies_18 : decode cX6_lies 18 = .ok (.if_icmp .ne 8, 3) := by decide +kernel
theorem dX6_lies_21 : decode cX6_lies 21 = .ok (.bipush (-6), 2) := by decide +kernel
theorem dX6_lies_23 : decode cX6_lies 23 = .ok (.goto 15, 3) := by decide +kernel
theorem dX6_lies_26 : decode cX6_lies 26 = .ok (.iload_n 2, 1) := by decide +kernel
theorem dX6_lies_27 : decode cX6_lies 27 = .ok (.invokestatic 198, 3) := by decide +kernel
theorem dX6_lies_30 : decode cX6_lies 30 = .ok (.ifCond .ne 7, 3) := by decide +kernel
theorem dX6_lies_33 : decode cX6_lies 33 = .ok (.iconst (-1), 1) := by decide +kernel
theorem dX6_lies_34 : decode cX6_lies 34 = .ok (.goto 4, 3) := by decide +kernel
theorem dX6_lies_37 : decode cX6_lies 37 = .ok (.iconst 0, 1) := by decide +kernel
theorem dX6_lies_38 : decode cX6_lies 38 = .ok (.istore_n 3, 1) := by decide +kernel
theorem dX6_lies_39 : decode cX6_lies 39 = .ok (.iload_n 3, 1) := by decide +kernel
theorem dX6_lies_40 : decode cX6_lies 40 = .ok (.ifCond .eq 9, 3) := by decide +kernel
theorem dX6_lies_43 : decode cX6_lies 43 = .ok (.aload_n 0, 1) := by decide +kernel
theorem dX6_lies_44 : decode cX6_lies 44 = .ok (.iload_n 3, 1) := by decide +kernel
theorem dX6_lies_45 : decode cX6_lies 45 = .ok (.invokevirtual 172, 3) := by decide +kernel
theorem dX6_lies_48 : decode cX6_lies 48 = .ok (.ireturn, 1) := by decide +kernel
theorem dX6_lies_49 : decode cX6_lies 49 = .ok (.aload_n 0, 1) := by decide +kernel
theorem dX6_lies_50 : decode cX6_lies 50 = .ok (.iload_n 1, 1) := by decide +kernel
theorem dX6_lies_51 : decode cX6_lies 51 = .ok (.iload_n 2, 1) := by decide +kernel
theorem dX6_lies_52 : decode cX6_lies 52 = .ok (.invokevirtual 204, 3) := by decide +kernel
theorem dX6_lies_55 : decode cX6_lies 55 = .ok (.aload_n 0, 1) := by decide +kernel
theorem dX6_lies_56 : decode cX6_lies 56 = .ok (.iconst 0, 1) := by decide +kernel
theorem dX6_lies_57 : decode cX6_lies 57 = .ok (.putfield 242, 3) := by decide +kernel
theorem dX6_lies_60 : decode cX6_lies 60 = .ok (.aload_n 0, 1) := by decide +kernel
theorem dX6_lies_61 : decode cX6_lies 61 = .ok (.getfield 86, 3) := by decide +kernel
theorem dX6_lies_64 : decode cX6_lies 64 = .ok (.iconst 1, 1) := by decide +kernel
theorem dX6_lies_65 : decode cX6_lies 65 = .ok (.isub, 1) := by decide +kernel
theorem dX6_lies_66 : decode cX6_lies 66 = .ok (.ireturn, 1) := by decide +kernel
theorem dX6_thick_0 : decode cX6_thick 0 = .ok (.iload_n 1, 1) := by decide +kernel
theorem dX6_thick_1 : decode cX6_thick 1 = .ok (.iconst 1, 1) := by decide +kernel
theorem dX6_thick_2 : decode cX6_thick 2 = .ok (.bipush 9, 2) := by decide +kernel
theorem dX6_thick_4 : decode cX6_thick 4 = .ok (.invokestatic 165, 3) := by decide +kernel
theorem dX6_thick_7 : decode cX6_thick 7 = .ok (.istore_n 2, 1) := by decide +kernel
theorem dX6_thick_8 : decode cX6_thick 8 = .ok (.iload_n 2, 1) := by decide +kernel
theorem dX6_thick_9 : decode cX6_thick 9 = .ok (.ifCond .eq 9, 3) := by decide +kernel
theorem dX6_thick_12 : decode cX6_thick 12 = .ok (.aload_n 0, 1) := by decide +kernel
theorem dX6_thick_13 : decode cX6_thick 13 = .ok (.iload_n 2, 1) := by decide +kernel
theorem dX6_thick_14 : decode cX6_thick 14 = .ok (.invokevirtual 172, 3) := by decide +kernel
theorem dX6_thick_17 : decode cX6_thick 17 = .ok (.ireturn, 1) := by decide +kernel
theorem dX6_thick_18 : decode cX6_thick 18 = .ok (.aload_n 0, 1) := by decide +kernel
theorem dX6_thick_19 : decode cX6_thick 19 = .ok (.invokevirtual 274, 3) := by decide +kernel
theorem dX6_thick_22 : decode cX6_thick 22 = .ok (.aload_n 0, 1) := by decide +kernel
theorem dX6_thick_23 : decode cX6_thick 23 = .ok (.getfield 74, 3) := by decide +kernel
theorem dX6_thick_26 : decode cX6_thick 26 = .ok (.istore_n 3, 1) := by decide +kernel
theorem dX6_thick_27 : decode cX6_thick 27 = .ok (.aload_n 0, 1) := by decide +kernel
theorem dX6_thick_28 : decode cX6_thick 28 = .ok (.iload_n 1, 1) := by decide +kernel
theorem dX6_thick_29 : decode cX6_thick 29 = .ok (.putfield 74, 3) := by decide +kernel
theorem dX6_thick_32 : decode cX6_thick 32 = .ok (.iload_n 3, 1) := by decide +kernel
theorem dX6_thick_33 : decode cX6_thick 33 = .ok (.ireturn, 1) := by decide +kernel
theorem dX6_owns_0 : decode cX6_owns 0 = .ok (.aload_n 0, 1) := by decide +kernel
theorem dX6_owns_1 : decode cX6_owns 1 = .ok (.iload_n 1, 1) := by decide +kernel
theorem dX6_owns_2 : decode cX6_owns 2 = .ok (.invokevirtual 207, 3) := by decide +kernel
theorem dX6_owns_5 : decode cX6_owns 5 = .ok (.ifCond .eq 17, 3) := by decide +kernel
theorem dX6_owns_8 : decode cX6_owns 8 = .ok (.iload_n 2, 1) := by decide +kernel
theorem dX6_owns_9 : decode cX6_owns 9 = .ok (.iconst (-1), 1) := by decide +kernel
theorem dX6_owns_10 : decode cX6_owns 10 = .ok (.aload_n 0, 1) := by decide +kernel
theorem dX6_owns_11 : decode cX6_owns 11 = .ok (.getfield 89, 3) := by decide +kernel
theorem dX6_owns_14 : decode cX6_owns 14 = .ok (.iconst 1, 1) := by decide +kernel
theorem dX6_owns_15 : decode cX6_owns 15 = .ok (.isub, 1) := by decide +kernel
theorem dX6_owns_16 : decode cX6_owns 16 = .ok (.invokestatic 82, 3) := by decide +kernel
theorem dX6_owns_19 : decode cX6_owns 19 = .ok (.ifCond .ne 9, 3) := by decide +kernel
theorem dX6_owns_22 : decode cX6_owns 22 = .ok (.aload_n 0, 1) := by decide +kernel
theorem dX6_owns_23 : decode cX6_owns 23 = .ok (.iconst (-1), 1) := by decide +kernel
theorem dX6_owns_24 : decode cX6_owns 24 = .ok (.invokevirtual 172, 3) := by decide +kernel
theorem dX6_owns_27 : decode cX6_owns 27 = .ok (.ireturn, 1) := by decide +kernel
theorem dX6_owns_28 : decode cX6_owns 28 = .ok (.aload_n 0, 1) := by decide +kernel
theorem dX6_owns_29 : decode cX6_owns 29 = .ok (.invokevirtual 274, 3) := by decide +kernel
theorem dX6_owns_32 : decode cX6_owns 32 = .ok (.aload_n 0, 1) := by decide +kernel
theorem dX6_owns_33 : decode cX6_owns 33 = .ok (.getfield 28, 3) := by decide +kernel
theorem dX6_owns_36 : decode cX6_owns 36 = .ok (.iload_n 1, 1) := by decide +kernel
theorem dX6_owns_37 : decode cX6_owns 37 = .ok (.iaload, 1) := by decide +kernel
theorem dX6_owns_38 : decode cX6_owns 38 = .ok (.istore_n 3, 1) := by decide +kernel
theorem dX6_owns_39 : decode cX6_owns 39 = .ok (.aload_n 0, 1) := by decide +kernel
theorem dX6_owns_40 : decode cX6_owns 40 = .ok (.getfield 28, 3) := by decide +kernel
theorem dX6_owns_43 : decode cX6_owns 43 = .ok (.iload_n 1, 1) := by decide +kernel
theorem dX6_owns_44 : decode cX6_owns 44 = .ok (.iload_n 2, 1) := by decide +kernel
theorem dX6_owns_45 : decode cX6_owns 45 = .ok (.ifCond .ge 8, 3) := by decide +kernel
theorem dX6_owns_48 : decode cX6_owns 48 = .ok (.bipush (-9), 2) := by decide +kernel
theorem dX6_owns_50 : decode cX6_owns 50 = .ok (.goto 4, 3) := by decide +kernel
theorem dX6_owns_53 : decode cX6_owns 53 = .ok (.iload_n 2, 1) := by decide +kernel
theorem dX6_owns_54 : decode cX6_owns 54 = .ok (.iastore, 1) := by decide +kernel
theorem dX6_owns_55 : decode cX6_owns 55 = .ok (.iload_n 3, 1) := by decide +kernel
theorem dX6_owns_56 : decode cX6_owns 56 = .ok (.ireturn, 1) := by decide +kernel
theorem dX6_stands_0 : decode cX6_stands 0 = .ok (.aload_n 0, 1) := by decide +kernel
theorem dX6_stands_1 : decode cX6_stands 1 = .ok (.iload_n 1, 1) := by decide +kernel
theorem dX6_stands_2 : decode cX6_stands 2 = .ok (.invokevirtual 92, 3) := by decide +kernel
theorem dX6_stands_5 : decode cX6_stands 5 = .ok (.ifCond .eq 10, 3) := by decide +kernel
theorem dX6_stands_8 : decode cX6_stands 8 = .ok (.iload_n 2, 1) := by decide +kernel
theorem dX6_stands_9 : decode cX6_stands 9 = .ok (.invokestatic 198, 3) := by decide +kernel
theorem dX6_stands_12 : decode cX6_stands 12 = .ok (.ifCond .ne 9, 3) := by decide +kernel
theorem dX6_stands_15 : decode cX6_stands 15 = .ok (.aload_n 0, 1) := by decide +kernel
theorem dX6_stands_16 : decode cX6_stands 16 = .ok (.iconst (-1), 1) := by decide +kernel
theorem dX6_stands_17 : decode cX6_stands 17 = .ok (.invokevirtual 172, 3) := by decide +kernel
theorem dX6_stands_20 : decode cX6_stands 20 = .ok (.ireturn, 1) := by decide +kernel
theorem dX6_stands_21 : decode cX6_stands 21 = .ok (.aload_n 0, 1) := by decide +kernel
theorem dX6_stands_22 : decode cX6_stands 22 = .ok (.invokevirtual 274, 3) := by decide +kernel
theorem dX6_stands_25 : decode cX6_stands 25 = .ok (.aload_n 0, 1) := by decide +kernel
theorem dX6_stands_26 : decode cX6_stands 26 = .ok (.getfield 40, 3) := by decide +kernel
theorem dX6_stands_29 : decode cX6_stands 29 = .ok (.iload_n 1, 1) := by decide +kernel
theorem dX6_stands_30 : decode cX6_stands 30 = .ok (.iaload, 1) := by decide +kernel
theorem dX6_stands_31 : decode cX6_stands 31 = .ok (.istore_n 3, 1) := by decide +kernel
theorem dX6_stands_32 : decode cX6_stands 32 = .ok (.aload_n 0, 1) := by decide +kernel
theorem dX6_stands_33 : decode cX6_stands 33 = .ok (.getfield 40, 3) := by decide +kernel
theorem dX6_stands_36 : decode cX6_stands 36 = .ok (.iload_n 1, 1) := by decide +kernel
theorem dX6_stands_37 : decode cX6_stands 37 = .ok (.iload_n 2, 1) := by decide +kernel
theorem dX6_stands_38 : decode cX6_stands 38 = .ok (.iastore, 1) := by decide +kernel
theorem dX6_stands_39 : decode cX6_stands 39 = .ok (.iload_n 3, 1) := by decide +kernel
theorem dX6_stands_40 : decode cX6_stands 40 = .ok (.ireturn, 1) := by decide +kernel
theorem dX6_carries_0 : decode cX6_carries 0 = .ok (.aload_n 0, 1) := by decide +kernel
theorem dX6_carries_1 : decode cX6_carries 1 = .ok (.iload_n 1, 1) := by decide +kernel
theorem dX6_carries_2 : decode cX6_carries 2 = .ok (.invokevirtual 207, 3) := by decide +kernel
theorem dX6_carries_5 : decode cX6_carries 5 = .ok (.ifCond .eq 10, 3) := by decide +kernel
theorem dX6_carries_8 : decode cX6_carries 8 = .ok (.iload_n 2, 1) := by decide +kernel
theorem dX6_carries_9 : decode cX6_carries 9 = .ok (.invokestatic 198, 3) := by decide +kernel
theorem dX6_carries_12 : decode cX6_carries 12 = .ok (.ifCond .ne 9, 3) := by decide +kernel
theorem dX6_carries_15 : decode cX6_carries 15 = .ok (.aload_n 0, 1) := by decide +kernel
theorem dX6_carries_16 : decode cX6_carries 16 = .ok (.iconst (-1), 1) := by decide +kernel
theorem dX6_carries_17 : decode cX6_carries 17 = .ok (.invokevirtual 172, 3) := by decide +kernel
theorem dX6_carries_20 : decode cX6_carries 20 = .ok (.ireturn, 1) := by decide +kernel
theorem dX6_carries_21 : decode cX6_carries 21 = .ok (.aload_n 0, 1) := by decide +kernel
theorem dX6_carries_22 : decode cX6_carries 22 = .ok (.invokevirtual 274, 3) := by decide +kernel
theorem dX6_carries_25 : decode cX6_carries 25 = .ok (.aload_n 0, 1) := by decide +kernel
theorem dX6_carries_26 : decode cX6_carries 26 = .ok (.getfield 25, 3) := by decide +kernel
theorem dX6_carries_29 : decode cX6_carries 29 = .ok (.iload_n 1, 1) := by decide +kernel
theorem dX6_carries_30 : decode cX6_carries 30 = .ok (.iaload, 1) := by decide +kernel
theorem dX6_carries_31 : decode cX6_carries 31 = .ok (.istore_n 3, 1) := by decide +kernel
theorem dX6_carries_32 : decode cX6_carries 32 = .ok (.aload_n 0, 1) := by decide +kernel
theorem dX6_carries_33 : decode cX6_carries 33 = .ok (.getfield 25, 3) := by decide +kernel
theorem dX6_carries_36 : decode cX6_carries 36 = .ok (.iload_n 1, 1) := by decide +kernel
theorem dX6_carries_37 : decode cX6_carries 37 = .ok (.iload_n 2, 1) := by decide +kernel
theorem dX6_carries_38 : decode cX6_carries 38 = .ok (.iastore, 1) := by decide +kernel
theorem dX6_carries_39 : decode cX6_carries 39 = .ok (.iload_n 3, 1) := by decide +kernel
theorem dX6_carries_40 : decode cX6_carries 40 = .ok (.ireturn, 1) := by decide +kernel
theorem dX6_hours_0 : decode cX6_hours 0 = .ok (.iload_n 1, 1) := by decide +kernel
theorem dX6_hours_1 : decode cX6_hours 1 = .ok (.iconst 1, 1) := by decide +kernel
theorem dX6_hours_2 : decode cX6_hours 2 = .ok (.bipush 60, 2) := by decide +kernel
theorem dX6_hours_4 : decode cX6_hours 4 = .ok (.invokestatic 165, 3) := by decide +kernel
theorem dX6_hours_7 : decode cX6_hours 7 = .ok (.istore_n 2, 1) := by decide +kernel
theorem dX6_hours_8 : decode cX6_hours 8 = .ok (.iload_n 2, 1) := by decide +kernel
theorem dX6_hours_9 : decode cX6_hours 9 = .ok (.ifCond .ne 18, 3) := by decide +kernel
theorem dX6_hours_12 : decode cX6_hours 12 = .ok (.aload_n 0, 1) := by decide +kernel
theorem dX6_hours_13 : decode cX6_hours 13 = .ok (.getfield 114, 3) := by decide +kernel
theorem dX6_hours_16 : decode cX6_hours 16 = .ok (.iload_n 1, 1) := by decide +kernel
theorem dX6_hours_17 : decode cX6_hours 17 = .ok (.iadd, 1) := by decide +kernel
theorem dX6_hours_18 : decode cX6_hours 18 = .ok (.sipush 999, 3) := by decide +kernel
theorem dX6_hours_21 : decode cX6_hours 21 = .ok (.if_icmp .le 6, 3) := by decide +kernel
theorem dX6_hours_24 : decode cX6_hours 24 = .ok (.bipush (-6), 2) := by decide +kernel
theorem dX6_hours_26 : decode cX6_hours 26 = .ok (.istore_n 2, 1) := by decide +kernel
theorem dX6_hours_27 : decode cX6_hours 27 = .ok (.iload_n 2, 1) := by decide +kernel
theorem dX6_hours_28 : decode cX6_hours 28 = .ok (.ifCond .eq 9, 3) := by decide +kernel
theorem dX6_hours_31 : decode cX6_hours 31 = .ok (.aload_n 0, 1) := by decide +kernel
theorem dX6_hours_32 : decode cX6_hours 32 = .ok (.iload_n 2, 1) := by decide +kernel
theorem dX6_hours_33 : decode cX6_hours 33 = .ok (.invokevirtual 172, 3) := by decide +kernel
theorem dX6_hours_36 : decode cX6_hours 36 = .ok (.ireturn, 1) := by decide +kernel
theorem dX6_hours_37 : decode cX6_hours 37 = .ok (.aload_n 0, 1) := by decide +kernel
theorem dX6_hours_38 : decode cX6_hours 38 = .ok (.invokevirtual 274, 3) := by decide +kernel
theorem dX6_hours_41 : decode cX6_hours 41 = .ok (.aload_n 0, 1) := by decide +kernel
theorem dX6_hours_42 : decode cX6_hours 42 = .ok (.iload_n 1, 1) := by decide +kernel
theorem dX6_hours_43 : decode cX6_hours 43 = .ok (.invokevirtual 210, 3) := by decide +kernel
theorem dX6_hours_46 : decode cX6_hours 46 = .ok (.aload_n 0, 1) := by decide +kernel
theorem dX6_hours_47 : decode cX6_hours 47 = .ok (.invokevirtual 277, 3) := by decide +kernel
theorem dX6_hours_50 : decode cX6_hours 50 = .ok (.ireturn, 1) := by decide +kernel
theorem dX6_fogThen_0 : decode cX6_fogThen 0 = .ok (.iload_n 1, 1) := by decide +kernel
theorem dX6_fogThen_1 : decode cX6_fogThen 1 = .ok (.invokestatic 198, 3) := by decide +kernel
theorem dX6_fogThen_4 : decode cX6_fogThen 4 = .ok (.ifCond .ne 7, 3) := by decide +kernel
theorem dX6_fogThen_7 : decode cX6_fogThen 7 = .ok (.iconst (-1), 1) := by decide +kernel
theorem dX6_fogThen_8 : decode cX6_fogThen 8 = .ok (.goto 10, 3) := by decide +kernel
theorem dX6_fogThen_11 : decode cX6_fogThen 11 = .ok (.iload_n 2, 1) := by decide +kernel
theorem dX6_fogThen_12 : decode cX6_fogThen 12 = .ok (.iconst 0, 1) := by decide +kernel
theorem dX6_fogThen_13 : decode cX6_fogThen 13 = .ok (.bipush 60, 2) := by decide +kernel
theorem dX6_fogThen_15 : decode cX6_fogThen 15 = .ok (.invokestatic 165, 3) := by decide +kernel
theorem dX6_fogThen_18 : decode cX6_fogThen 18 = .ok (.istore_n 3, 1) := by decide +kernel
theorem dX6_fogThen_19 : decode cX6_fogThen 19 = .ok (.iload_n 3, 1) := by decide +kernel
theorem dX6_fogThen_20 : decode cX6_fogThen 20 = .ok (.ifCond .eq 9, 3) := by decide +kernel
theorem dX6_fogThen_23 : decode cX6_fogThen 23 = .ok (.aload_n 0, 1) := by decide +kernel
theorem dX6_fogThen_24 : decode cX6_fogThen 24 = .ok (.iload_n 3, 1) := by decide +kernel
theorem dX6_fogThen_25 : decode cX6_fogThen 25 = .ok (.invokevirtual 172, 3) := by decide +kernel
theorem dX6_fogThen_28 : decode cX6_fogThen 28 = .ok (.ireturn, 1) := by decide +kernel
theorem dX6_fogThen_29 : decode cX6_fogThen 29 = .ok (.aload_n 0, 1) := by decide +kernel
theorem dX6_fogThen_30 : decode cX6_fogThen 30 = .ok (.invokevirtual 280, 3) := by decide +kernel
theorem dX6_fogThen_33 : decode cX6_fogThen 33 = .ok (.aload_n 0, 1) := by decide +kernel
theorem dX6_fogThen_34 : decode cX6_fogThen 34 = .ok (.iload_n 2, 1) := by decide +kernel
theorem dX6_fogThen_35 : decode cX6_fogThen 35 = .ok (.invokevirtual 210, 3) := by decide +kernel
theorem dX6_fogThen_38 : decode cX6_fogThen 38 = .ok (.aload_n 0, 1) := by decide +kernel
theorem dX6_fogThen_39 : decode cX6_fogThen 39 = .ok (.iload_n 1, 1) := by decide +kernel
theorem dX6_fogThen_40 : decode cX6_fogThen 40 = .ok (.invokevirtual 124, 3) := by decide +kernel
theorem dX6_fogThen_43 : decode cX6_fogThen 43 = .ok (.istore 4, 2) := by decide +kernel
theorem dX6_fogThen_45 : decode cX6_fogThen 45 = .ok (.aload_n 0, 1) := by decide +kernel
theorem dX6_fogThen_46 : decode cX6_fogThen 46 = .ok (.invokevirtual 283, 3) := by decide +kernel
theorem dX6_fogThen_49 : decode cX6_fogThen 49 = .ok (.iload 4, 2) := by decide +kernel
theorem dX6_fogThen_51 : decode cX6_fogThen 51 = .ok (.ireturn, 1) := by decide +kernel
theorem dX6_dropped_0 : decode cX6_dropped 0 = .ok (.iconst 0, 1) := by decide +kernel
theorem dX6_dropped_1 : decode cX6_dropped 1 = .ok (.istore_n 1, 1) := by decide +kernel
theorem dX6_dropped_2 : decode cX6_dropped 2 = .ok (.iconst 0, 1) := by decide +kernel
theorem dX6_dropped_3 : decode cX6_dropped 3 = .ok (.istore_n 2, 1) := by decide +kernel
theorem dX6_dropped_4 : decode cX6_dropped 4 = .ok (.iload_n 2, 1) := by decide +kernel
theorem dX6_dropped_5 : decode cX6_dropped 5 = .ok (.aload_n 0, 1) := by decide +kernel
theorem dX6_dropped_6 : decode cX6_dropped 6 = .ok (.getfield 86, 3) := by decide +kernel
theorem dX6_dropped_9 : decode cX6_dropped 9 = .ok (.if_icmp .ge 28, 3) := by decide +kernel
theorem dX6_dropped_12 : decode cX6_dropped 12 = .ok (.iload_n 1, 1) := by decide +kernel
theorem dX6_dropped_13 : decode cX6_dropped 13 = .ok (.aload_n 0, 1) := by decide +kernel
theorem dX6_dropped_14 : decode cX6_dropped 14 = .ok (.getfield 28, 3) := by decide +kernel
theorem dX6_dropped_17 : decode cX6_dropped 17 = .ok (.iload_n 2, 1) := by decide +kernel
theorem dX6_dropped_18 : decode cX6_dropped 18 = .ok (.iaload, 1) := by decide +kernel
theorem dX6_dropped_19 : decode cX6_dropped 19 = .ok (.ifCond .ge 9, 3) := by decide +kernel
theorem dX6_dropped_22 : decode cX6_dropped 22 = .ok (.iconst 1, 1) := by decide +kernel
theorem dX6_dropped_23 : decode cX6_dropped 23 = .ok (.iload_n 2, 1) := by decide +kernel
theorem dX6_dropped_24 : decode cX6_dropped 24 = .ok (.ishl, 1) := by decide +kernel
theorem dX6_dropped_25 : decode cX6_dropped 25 = .ok (.goto 4, 3) := by decide +kernel
theorem dX6_dropped_28 : decode cX6_dropped 28 = .ok (.iconst 0, 1) := by decide +kernel
theorem dX6_dropped_29 : decode cX6_dropped 29 = .ok (.ior, 1) := by decide +kernel
theorem dX6_dropped_30 : decode cX6_dropped 30 = .ok (.istore_n 1, 1) := by decide +kernel
theorem dX6_dropped_31 : decode cX6_dropped 31 = .ok (.iinc 2 1, 3) := by decide +kernel
theorem dX6_dropped_34 : decode cX6_dropped 34 = .ok (.goto (-30), 3) := by decide +kernel
theorem dX6_dropped_37 : decode cX6_dropped 37 = .ok (.iload_n 1, 1) := by decide +kernel
theorem dX6_dropped_38 : decode cX6_dropped 38 = .ok (.ireturn, 1) := by decide +kernel
theorem dX6_then_0 : decode cX6_then 0 = .ok (.iload_n 1, 1) := by decide +kernel
theorem dX6_then_1 : decode cX6_then 1 = .ok (.iconst 0, 1) := by decide +kernel
theorem dX6_then_2 : decode cX6_then 2 = .ok (.bipush 60, 2) := by decide +kernel
theorem dX6_then_4 : decode cX6_then 4 = .ok (.invokestatic 165, 3) := by decide +kernel
theorem dX6_then_7 : decode cX6_then 7 = .ok (.istore_n 3, 1) := by decide +kernel
theorem dX6_then_8 : decode cX6_then 8 = .ok (.iload_n 3, 1) := by decide +kernel
theorem dX6_then_9 : decode cX6_then 9 = .ok (.ifCond .ne 15, 3) := by decide +kernel
theorem dX6_then_12 : decode cX6_then 12 = .ok (.iload_n 2, 1) := by decide +kernel
theorem dX6_then_13 : decode cX6_then 13 = .ok (.iconst 0, 1) := by decide +kernel
theorem dX6_then_14 : decode cX6_then 14 = .ok (.iconst 2, 1) := by decide +kernel
theorem dX6_then_15 : decode cX6_then 15 = .ok (.invokestatic 82, 3) := by decide +kernel
theorem dX6_then_18 : decode cX6_then 18 = .ok (.ifCond .ne 6, 3) := by decide +kernel
theorem dX6_then_21 : decode cX6_then 21 = .ok (.bipush (-2), 2) := by decide +kernel
theorem dX6_then_23 : decode cX6_then 23 = .ok (.istore_n 3, 1) := by decide +kernel
theorem dX6_then_24 : decode cX6_then 24 = .ok (.iload_n 3, 1) := by decide +kernel
theorem dX6_then_25 : decode cX6_then 25 = .ok (.ifCond .eq 9, 3) := by decide +kernel
theorem dX6_then_28 : decode cX6_then 28 = .ok (.aload_n 0, 1) := by decide +kernel
theorem dX6_then_29 : decode cX6_then 29 = .ok (.iload_n 3, 1) := by decide +kernel
theorem dX6_then_30 : decode cX6_then 30 = .ok (.invokevirtual 172, 3) := by decide +kernel
theorem dX6_then_33 : decode cX6_then 33 = .ok (.ireturn, 1) := by decide +kernel
theorem dX6_then_34 : decode cX6_then 34 = .ok (.aload_n 0, 1) := by decide +kernel
theorem dX6_then_35 : decode cX6_then 35 = .ok (.invokevirtual 280, 3) := by decide +kernel
theorem dX6_then_38 : decode cX6_then 38 = .ok (.aload_n 0, 1) := by decide +kernel
theorem dX6_then_39 : decode cX6_then 39 = .ok (.iload_n 1, 1) := by decide +kernel
theorem dX6_then_40 : decode cX6_then 40 = .ok (.invokevirtual 210, 3) := by decide +kernel
theorem dX6_then_43 : decode cX6_then 43 = .ok (.iload_n 2, 1) := by decide +kernel
theorem dX6_then_44 : decode cX6_then 44 = .ok (.ifCond .ne 10, 3) := by decide +kernel
theorem dX6_then_47 : decode cX6_then 47 = .ok (.aload_n 0, 1) := by decide +kernel
theorem dX6_then_48 : decode cX6_then 48 = .ok (.invokevirtual 286, 3) := by decide +kernel
theorem dX6_then_51 : decode cX6_then 51 = .ok (.goto 19, 3) := by decide +kernel
theorem dX6_then_54 : decode cX6_then 54 = .ok (.iload_n 2, 1) := by decide +kernel
theorem dX6_then_55 : decode cX6_then 55 = .ok (.iconst 1, 1) := by decide +kernel
theorem dX6_then_56 : decode cX6_then 56 = .ok (.if_icmp .ne 10, 3) := by decide +kernel
theorem dX6_then_59 : decode cX6_then 59 = .ok (.aload_n 0, 1) := by decide +kernel
theorem dX6_then_60 : decode cX6_then 60 = .ok (.invokevirtual 277, 3) := by decide +kernel
theorem dX6_then_63 : decode cX6_then 63 = .ok (.goto 7, 3) := by decide +kernel
theorem dX6_then_66 : decode cX6_then 66 = .ok (.aload_n 0, 1) := by decide +kernel
theorem dX6_then_67 : decode cX6_then 67 = .ok (.invokevirtual 289, 3) := by decide +kernel
theorem dX6_then_70 : decode cX6_then 70 = .ok (.istore 4, 2) := by decide +kernel
theorem dX6_then_72 : decode cX6_then 72 = .ok (.aload_n 0, 1) := by decide +kernel
theorem dX6_then_73 : decode cX6_then 73 = .ok (.invokevirtual 283, 3) := by decide +kernel
theorem dX6_then_76 : decode cX6_then 76 = .ok (.iload 4, 2) := by decide +kernel
theorem dX6_then_78 : decode cX6_then 78 = .ok (.ireturn, 1) := by decide +kernel
theorem dX6_ownerThen_0 : decode cX6_ownerThen 0 = .ok (.aload_n 0, 1) := by decide +kernel
theorem dX6_ownerThen_1 : decode cX6_ownerThen 1 = .ok (.iload_n 1, 1) := by decide +kernel
theorem dX6_ownerThen_2 : decode cX6_ownerThen 2 = .ok (.invokevirtual 207, 3) := by decide +kernel
theorem dX6_ownerThen_5 : decode cX6_ownerThen 5 = .ok (.ifCond .ne 7, 3) := by decide +kernel
theorem dX6_ownerThen_8 : decode cX6_ownerThen 8 = .ok (.iconst (-1), 1) := by decide +kernel
theorem dX6_ownerThen_9 : decode cX6_ownerThen 9 = .ok (.goto 10, 3) := by decide +kernel
theorem dX6_ownerThen_12 : decode cX6_ownerThen 12 = .ok (.iload_n 2, 1) := by decide +kernel
theorem dX6_ownerThen_13 : decode cX6_ownerThen 13 = .ok (.iconst 0, 1) := by decide +kernel
theorem dX6_ownerThen_14 : decode cX6_ownerThen 14 = .ok (.bipush 60, 2) := by decide +kernel
theorem dX6_ownerThen_16 : decode cX6_ownerThen 16 = .ok (.invokestatic 165, 3) := by decide +kernel
theorem dX6_ownerThen_19 : decode cX6_ownerThen 19 = .ok (.istore_n 3, 1) := by decide +kernel
theorem dX6_ownerThen_20 : decode cX6_ownerThen 20 = .ok (.iload_n 3, 1) := by decide +kernel
theorem dX6_ownerThen_21 : decode cX6_ownerThen 21 = .ok (.ifCond .eq 9, 3) := by decide +kernel
theorem dX6_ownerThen_24 : decode cX6_ownerThen 24 = .ok (.aload_n 0, 1) := by decide +kernel
theorem dX6_ownerThen_25 : decode cX6_ownerThen 25 = .ok (.iload_n 3, 1) := by decide +kernel
theorem dX6_ownerThen_26 : decode cX6_ownerThen 26 = .ok (.invokevirtual 172, 3) := by decide +kernel
theorem dX6_ownerThen_29 : decode cX6_ownerThen 29 = .ok (.ireturn, 1) := by decide +kernel
theorem dX6_ownerThen_30 : decode cX6_ownerThen 30 = .ok (.aload_n 0, 1) := by decide +kernel
theorem dX6_ownerThen_31 : decode cX6_ownerThen 31 = .ok (.invokevirtual 280, 3) := by decide +kernel
theorem dX6_ownerThen_34 : decode cX6_ownerThen 34 = .ok (.aload_n 0, 1) := by decide +kernel
theorem dX6_ownerThen_35 : decode cX6_ownerThen 35 = .ok (.iload_n 2, 1) := by decide +kernel
theorem dX6_ownerThen_36 : decode cX6_ownerThen 36 = .ok (.invokevirtual 210, 3) := by decide +kernel
theorem dX6_ownerThen_39 : decode cX6_ownerThen 39 = .ok (.aload_n 0, 1) := by decide +kernel
theorem dX6_ownerThen_40 : decode cX6_ownerThen 40 = .ok (.getfield 28, 3) := by decide +kernel
theorem dX6_ownerThen_43 : decode cX6_ownerThen 43 = .ok (.iload_n 1, 1) := by decide +kernel
theorem dX6_ownerThen_44 : decode cX6_ownerThen 44 = .ok (.iaload, 1) := by decide +kernel
theorem dX6_ownerThen_45 : decode cX6_ownerThen 45 = .ok (.istore 4, 2) := by decide +kernel
theorem dX6_ownerThen_47 : decode cX6_ownerThen 47 = .ok (.aload_n 0, 1) := by decide +kernel
theorem dX6_ownerThen_48 : decode cX6_ownerThen 48 = .ok (.invokevirtual 283, 3) := by decide +kernel
theorem dX6_ownerThen_51 : decode cX6_ownerThen 51 = .ok (.iload 4, 2) := by decide +kernel
theorem dX6_ownerThen_53 : decode cX6_ownerThen 53 = .ok (.ireturn, 1) := by decide +kernel
theorem dX6_personThen_0 : decode cX6_personThen 0 = .ok (.aload_n 0, 1) := by decide +kernel
theorem dX6_personThen_1 : decode cX6_personThen 1 = .ok (.iload_n 1, 1) := by decide +kernel
theorem dX6_personThen_2 : decode cX6_personThen 2 = .ok (.invokevirtual 92, 3) := by decide +kernel
theorem dX6_personThen_5 : decode cX6_personThen 5 = .ok (.ifCond .ne 7, 3) := by decide +kernel
theorem dX6_personThen_8 : decode cX6_personThen 8 = .ok (.iconst (-1), 1) := by decide +kernel
theorem dX6_personThen_9 : decode cX6_personThen 9 = .ok (.goto 10, 3) := by decide +kernel
theorem dX6_personThen_12 : decode cX6_personThen 12 = .ok (.iload_n 2, 1) := by decide +kernel
theorem dX6_personThen_13 : decode cX6_personThen 13 = .ok (.iconst 0, 1) := by decide +kernel
theorem dX6_personThen_14 : decode cX6_personThen 14 = .ok (.bipush 60, 2) := by decide +kernel
theorem dX6_personThen_16 : decode cX6_personThen 16 = .ok (.invokestatic 165, 3) := by decide +kernel
theorem dX6_personThen_19 : decode cX6_personThen 19 = .ok (.istore 4, 2) := by decide +kernel
theorem dX6_personThen_21 : decode cX6_personThen 21 = .ok (.iload 4, 2) := by decide +kernel
theorem dX6_personThen_23 : decode cX6_personThen 23 = .ok (.ifCond .ne 16, 3) := by decide +kernel
theorem dX6_personThen_26 : decode cX6_personThen 26 = .ok (.iload_n 3, 1) := by decide +kernel
theorem dX6_personThen_27 : decode cX6_personThen 27 = .ok (.iconst 0, 1) := by decide +kernel
theorem dX6_personThen_28 : decode cX6_personThen 28 = .ok (.iconst 1, 1) := by decide +kernel
theorem dX6_personThen_29 : decode cX6_personThen 29 = .ok (.invokestatic 82, 3) := by decide +kernel
theorem dX6_personThen_32 : decode cX6_personThen 32 = .ok (.ifCond .ne 7, 3) := by decide +kernel
theorem dX6_personThen_35 : decode cX6_personThen 35 = .ok (.bipush (-2), 2) := by decide +kernel
theorem dX6_personThen_37 : decode cX6_personThen 37 = .ok (.istore 4, 2) := by decide +kernel
theorem dX6_personThen_39 : decode cX6_personThen 39 = .ok (.iload 4, 2) := by decide +kernel
theorem dX6_personThen_41 : decode cX6_personThen 41 = .ok (.ifCond .eq 10, 3) := by decide +kernel
theorem dX6_personThen_44 : decode cX6_personThen 44 = .ok (.aload_n 0, 1) := by decide +kernel
theorem dX6_personThen_45 : decode cX6_personThen 45 = .ok (.iload 4, 2) := by decide +kernel
theorem dX6_personThen_47 : decode cX6_personThen 47 = .ok (.invokevirtual 172, 3) := by decide +kernel
theorem dX6_personThen_50 : decode cX6_personThen 50 = .ok (.ireturn, 1) := by decide +kernel
theorem dX6_personThen_51 : decode cX6_personThen 51 = .ok (.aload_n 0, 1) := by decide +kernel
theorem dX6_personThen_52 : decode cX6_personThen 52 = .ok (.invokevirtual 280, 3) := by decide +kernel
theorem dX6_personThen_55 : decode cX6_personThen 55 = .ok (.aload_n 0, 1) := by decide +kernel
theorem dX6_personThen_56 : decode cX6_personThen 56 = .ok (.iload_n 2, 1) := by decide +kernel
theorem dX6_personThen_57 : decode cX6_personThen 57 = .ok (.invokevirtual 210, 3) := by decide +kernel
theorem dX6_personThen_60 : decode cX6_personThen 60 = .ok (.iload_n 3, 1) := by decide +kernel
theorem dX6_personThen_61 : decode cX6_personThen 61 = .ok (.ifCond .ne 12, 3) := by decide +kernel
theorem dX6_personThen_64 : decode cX6_personThen 64 = .ok (.aload_n 0, 1) := by decide +kernel
theorem dX6_personThen_65 : decode cX6_personThen 65 = .ok (.getfield 40, 3) := by decide +kernel
theorem dX6_personThen_68 : decode cX6_personThen 68 = .ok (.iload_n 1, 1) := by decide +kernel
theorem dX6_personThen_69 : decode cX6_personThen 69 = .ok (.iaload, 1) := by decide +kernel
theorem dX6_personThen_70 : decode cX6_personThen 70 = .ok (.goto 8, 3) := by decide +kernel
theorem dX6_personThen_73 : decode cX6_personThen 73 = .ok (.aload_n 0, 1) := by decide +kernel
theorem dX6_personThen_74 : decode cX6_personThen 74 = .ok (.iload_n 1, 1) := by decide +kernel
theorem dX6_personThen_75 : decode cX6_personThen 75 = .ok (.invokevirtual 264, 3) := by decide +kernel
theorem dX6_personThen_78 : decode cX6_personThen 78 = .ok (.istore 5, 2) := by decide +kernel
theorem dX6_personThen_80 : decode cX6_personThen 80 = .ok (.aload_n 0, 1) := by decide +kernel
theorem dX6_personThen_81 : decode cX6_personThen 81 = .ok (.invokevirtual 283, 3) := by decide +kernel
theorem dX6_personThen_84 : decode cX6_personThen 84 = .ok (.iload 5, 2) := by decide +kernel
theorem dX6_personThen_86 : decode cX6_personThen 86 = .ok (.ireturn, 1) := by decide +kernel
theorem dX6_when_0 : decode cX6_when 0 = .ok (.aload_n 0, 1) := by decide +kernel
theorem dX6_when_1 : decode cX6_when 1 = .ok (.iload_n 1, 1) := by decide +kernel
theorem dX6_when_2 : decode cX6_when 2 = .ok (.invokevirtual 92, 3) := by decide +kernel
theorem dX6_when_5 : decode cX6_when 5 = .ok (.ifCond .eq 11, 3) := by decide +kernel
theorem dX6_when_8 : decode cX6_when 8 = .ok (.aload_n 0, 1) := by decide +kernel
theorem dX6_when_9 : decode cX6_when 9 = .ok (.iload_n 2, 1) := by decide +kernel
theorem dX6_when_10 : decode cX6_when 10 = .ok (.invokevirtual 207, 3) := by decide +kernel
theorem dX6_when_13 : decode cX6_when 13 = .ok (.ifCond .ne 9, 3) := by decide +kernel
theorem dX6_when_16 : decode cX6_when 16 = .ok (.aload_n 0, 1) := by decide +kernel
theorem dX6_when_17 : decode cX6_when 17 = .ok (.iconst (-1), 1) := by decide +kernel
theorem dX6_when_18 : decode cX6_when 18 = .ok (.invokevirtual 172, 3) := by decide +kernel
theorem dX6_when_21 : decode cX6_when 21 = .ok (.ireturn, 1) := by decide +kernel
theorem dX6_when_22 : decode cX6_when 22 = .ok (.bipush (-9), 2) := by decide +kernel
theorem dX6_when_24 : decode cX6_when 24 = .ok (.istore_n 3, 1) := by decide +kernel
theorem dX6_when_25 : decode cX6_when 25 = .ok (.aload_n 0, 1) := by decide +kernel
theorem dX6_when_26 : decode cX6_when 26 = .ok (.invokevirtual 280, 3) := by decide +kernel
theorem dX6_when_29 : decode cX6_when 29 = .ok (.iconst 0, 1) := by decide +kernel
theorem dX6_when_30 : decode cX6_when 30 = .ok (.istore 4, 2) := by decide +kernel
theorem dX6_when_32 : decode cX6_when 32 = .ok (.iload 4, 2) := by decide +kernel
theorem dX6_when_34 : decode cX6_when 34 = .ok (.bipush 60, 2) := by decide +kernel
theorem dX6_when_36 : decode cX6_when 36 = .ok (.if_icmp .gt 35, 3) := by decide +kernel
theorem dX6_when_39 : decode cX6_when 39 = .ok (.iload_n 3, 1) := by decide +kernel
theorem dX6_when_40 : decode cX6_when 40 = .ok (.ifCond .ge 31, 3) := by decide +kernel
theorem dX6_when_43 : decode cX6_when 43 = .ok (.aload_n 0, 1) := by decide +kernel
theorem dX6_when_44 : decode cX6_when 44 = .ok (.getfield 28, 3) := by decide +kernel
theorem dX6_when_47 : decode cX6_when 47 = .ok (.iload_n 2, 1) := by decide +kernel
theorem dX6_when_48 : decode cX6_when 48 = .ok (.iaload, 1) := by decide +kernel
theorem dX6_when_49 : decode cX6_when 49 = .ok (.iload_n 1, 1) := by decide +kernel
theorem dX6_when_50 : decode cX6_when 50 = .ok (.if_icmp .ne 8, 3) := by decide +kernel
theorem dX6_when_53 : decode cX6_when 53 = .ok (.iload 4, 2) := by decide +kernel
theorem dX6_when_55 : decode cX6_when 55 = .ok (.goto 5, 3) := by decide +kernel
theorem dX6_when_58 : decode cX6_when 58 = .ok (.bipush (-9), 2) := by decide +kernel
theorem dX6_when_60 : decode cX6_when 60 = .ok (.istore_n 3, 1) := by decide +kernel
theorem dX6_when_61 : decode cX6_when 61 = .ok (.aload_n 0, 1) := by decide +kernel
theorem dX6_when_62 : decode cX6_when 62 = .ok (.invokevirtual 162, 3) := by decide +kernel
theorem dX6_when_65 : decode cX6_when 65 = .ok (.iinc 4 1, 3) := by decide +kernel
theorem dX6_when_68 : decode cX6_when 68 = .ok (.goto (-36), 3) := by decide +kernel
theorem dX6_when_71 : decode cX6_when 71 = .ok (.aload_n 0, 1) := by decide +kernel
theorem dX6_when_72 : decode cX6_when 72 = .ok (.invokevirtual 283, 3) := by decide +kernel
theorem dX6_when_75 : decode cX6_when 75 = .ok (.iload_n 3, 1) := by decide +kernel
theorem dX6_when_76 : decode cX6_when 76 = .ok (.ireturn, 1) := by decide +kernel
theorem dX6_first_0 : decode cX6_first 0 = .ok (.aload_n 0, 1) := by decide +kernel
theorem dX6_first_1 : decode cX6_first 1 = .ok (.invokevirtual 289, 3) := by decide +kernel
theorem dX6_first_4 : decode cX6_first 4 = .ok (.istore_n 1, 1) := by decide +kernel
theorem dX6_first_5 : decode cX6_first 5 = .ok (.iconst 0, 1) := by decide +kernel
theorem dX6_first_6 : decode cX6_first 6 = .ok (.istore_n 2, 1) := by decide +kernel
theorem dX6_first_7 : decode cX6_first 7 = .ok (.aload_n 0, 1) := by decide +kernel
theorem dX6_first_8 : decode cX6_first 8 = .ok (.invokevirtual 280, 3) := by decide +kernel
theorem dX6_first_11 : decode cX6_first 11 = .ok (.iconst 0, 1) := by decide +kernel
theorem dX6_first_12 : decode cX6_first 12 = .ok (.istore_n 3, 1) := by decide +kernel
theorem dX6_first_13 : decode cX6_first 13 = .ok (.iload_n 3, 1) := by decide +kernel
theorem dX6_first_14 : decode cX6_first 14 = .ok (.bipush 60, 2) := by decide +kernel
theorem dX6_first_16 : decode cX6_first 16 = .ok (.if_icmp .ge 26, 3) := by decide +kernel
theorem dX6_first_19 : decode cX6_first 19 = .ok (.iload_n 2, 1) := by decide +kernel
theorem dX6_first_20 : decode cX6_first 20 = .ok (.ifCond .ne 22, 3) := by decide +kernel
theorem dX6_first_23 : decode cX6_first 23 = .ok (.aload_n 0, 1) := by decide +kernel
theorem dX6_first_24 : decode cX6_first 24 = .ok (.invokevirtual 162, 3) := by decide +kernel
theorem dX6_first_27 : decode cX6_first 27 = .ok (.iload_n 1, 1) := by decide +kernel
theorem dX6_first_28 : decode cX6_first 28 = .ok (.aload_n 0, 1) := by decide +kernel
theorem dX6_first_29 : decode cX6_first 29 = .ok (.invokevirtual 289, 3) := by decide +kernel
theorem dX6_first_32 : decode cX6_first 32 = .ok (.iconst (-1), 1) := by decide +kernel
theorem dX6_first_33 : decode cX6_first 33 = .ok (.ixor, 1) := by decide +kernel
theorem dX6_first_34 : decode cX6_first 34 = .ok (.iand, 1) := by decide +kernel
theorem dX6_first_35 : decode cX6_first 35 = .ok (.istore_n 2, 1) := by decide +kernel
theorem dX6_first_36 : decode cX6_first 36 = .ok (.iinc 3 1, 3) := by decide +kernel
theorem dX6_first_39 : decode cX6_first 39 = .ok (.goto (-26), 3) := by decide +kernel
theorem dX6_first_42 : decode cX6_first 42 = .ok (.aload_n 0, 1) := by decide +kernel
theorem dX6_first_43 : decode cX6_first 43 = .ok (.invokevirtual 283, 3) := by decide +kernel
theorem dX6_first_46 : decode cX6_first 46 = .ok (.iconst 0, 1) := by decide +kernel
theorem dX6_first_47 : decode cX6_first 47 = .ok (.istore_n 3, 1) := by decide +kernel
theorem dX6_first_48 : decode cX6_first 48 = .ok (.iload_n 3, 1) := by decide +kernel
theorem dX6_first_49 : decode cX6_first 49 = .ok (.aload_n 0, 1) := by decide +kernel
theorem dX6_first_50 : decode cX6_first 50 = .ok (.getfield 86, 3) := by decide +kernel
theorem dX6_first_53 : decode cX6_first 53 = .ok (.if_icmp .ge 19, 3) := by decide +kernel
theorem dX6_first_56 : decode cX6_first 56 = .ok (.iload_n 2, 1) := by decide +kernel
theorem dX6_first_57 : decode cX6_first 57 = .ok (.iload_n 3, 1) := by decide +kernel
theorem dX6_first_58 : decode cX6_first 58 = .ok (.invokestatic 292, 3) := by decide +kernel
theorem dX6_first_61 : decode cX6_first 61 = .ok (.ifCond .eq 5, 3) := by decide +kernel
theorem dX6_first_64 : decode cX6_first 64 = .ok (.iload_n 3, 1) := by decide +kernel
theorem dX6_first_65 : decode cX6_first 65 = .ok (.ireturn, 1) := by decide +kernel
theorem dX6_first_66 : decode cX6_first 66 = .ok (.iinc 3 1, 3) := by decide +kernel
theorem dX6_first_69 : decode cX6_first 69 = .ok (.goto (-21), 3) := by decide +kernel
theorem dX6_first_72 : decode cX6_first 72 = .ok (.bipush (-9), 2) := by decide +kernel
theorem dX6_first_74 : decode cX6_first 74 = .ok (.ireturn, 1) := by decide +kernel
theorem dX6_clears_0 : decode cX6_clears 0 = .ok (.iload_n 1, 1) := by decide +kernel
theorem dX6_clears_1 : decode cX6_clears 1 = .ok (.invokestatic 198, 3) := by decide +kernel
theorem dX6_clears_4 : decode cX6_clears 4 = .ok (.ifCond .ne 9, 3) := by decide +kernel
theorem dX6_clears_7 : decode cX6_clears 7 = .ok (.aload_n 0, 1) := by decide +kernel
theorem dX6_clears_8 : decode cX6_clears 8 = .ok (.iconst (-1), 1) := by decide +kernel
theorem dX6_clears_9 : decode cX6_clears 9 = .ok (.invokevirtual 172, 3) := by decide +kernel
theorem dX6_clears_12 : decode cX6_clears 12 = .ok (.ireturn, 1) := by decide +kernel
theorem dX6_clears_13 : decode cX6_clears 13 = .ok (.bipush (-9), 2) := by decide +kernel
theorem dX6_clears_15 : decode cX6_clears 15 = .ok (.istore_n 2, 1) := by decide +kernel
theorem dX6_clears_16 : decode cX6_clears 16 = .ok (.aload_n 0, 1) := by decide +kernel
theorem dX6_clears_17 : decode cX6_clears 17 = .ok (.invokevirtual 280, 3) := by decide +kernel
theorem dX6_clears_20 : decode cX6_clears 20 = .ok (.iconst 0, 1) := by decide +kernel
theorem dX6_clears_21 : decode cX6_clears 21 = .ok (.istore_n 3, 1) := by decide +kernel
theorem dX6_clears_22 : decode cX6_clears 22 = .ok (.iload_n 3, 1) := by decide +kernel
theorem dX6_clears_23 : decode cX6_clears 23 = .ok (.bipush 60, 2) := by decide +kernel
theorem dX6_clears_25 : decode cX6_clears 25 = .ok (.if_icmp .gt 32, 3) := by decide +kernel
theorem dX6_clears_28 : decode cX6_clears 28 = .ok (.iload_n 2, 1) := by decide +kernel
theorem dX6_clears_29 : decode cX6_clears 29 = .ok (.ifCond .ge 28, 3) := by decide +kernel
theorem dX6_clears_32 : decode cX6_clears 32 = .ok (.aload_n 0, 1) := by decide +kernel
theorem dX6_clears_33 : decode cX6_clears 33 = .ok (.iload_n 1, 1) := by decide +kernel
theorem dX6_clears_34 : decode cX6_clears 34 = .ok (.invokevirtual 127, 3) := by decide +kernel
theorem dX6_clears_37 : decode cX6_clears 37 = .ok (.ifCond .eq 8, 3) := by decide +kernel
theorem dX6_clears_40 : decode cX6_clears 40 = .ok (.bipush (-9), 2) := by decide +kernel
theorem dX6_clears_42 : decode cX6_clears 42 = .ok (.goto 4, 3) := by decide +kernel
theorem dX6_clears_45 : decode cX6_clears 45 = .ok (.iload_n 3, 1) := by decide +kernel
theorem dX6_clears_46 : decode cX6_clears 46 = .ok (.istore_n 2, 1) := by decide +kernel
theorem dX6_clears_47 : decode cX6_clears 47 = .ok (.aload_n 0, 1) := by decide +kernel
theorem dX6_clears_48 : decode cX6_clears 48 = .ok (.invokevirtual 162, 3) := by decide +kernel
theorem dX6_clears_51 : decode cX6_clears 51 = .ok (.iinc 3 1, 3) := by decide +kernel
theorem dX6_clears_54 : decode cX6_clears 54 = .ok (.goto (-32), 3) := by decide +kernel
theorem dX6_clears_57 : decode cX6_clears 57 = .ok (.aload_n 0, 1) := by decide +kernel
theorem dX6_clears_58 : decode cX6_clears 58 = .ok (.invokevirtual 283, 3) := by decide +kernel
theorem dX6_clears_61 : decode cX6_clears 61 = .ok (.iload_n 2, 1) := by decide +kernel
theorem dX6_clears_62 : decode cX6_clears 62 = .ok (.ireturn, 1) := by decide +kernel
theorem dX6_stand_0 : decode cX6_stand 0 = .ok (.aload_n 0, 1) := by decide +kernel
theorem dX6_stand_1 : decode cX6_stand 1 = .ok (.iload_n 1, 1) := by decide +kernel
theorem dX6_stand_2 : decode cX6_stand 2 = .ok (.invokevirtual 92, 3) := by decide +kernel
theorem dX6_stand_5 : decode cX6_stand 5 = .ok (.ifCond .ne 7, 3) := by decide +kernel
theorem dX6_stand_8 : decode cX6_stand 8 = .ok (.iconst (-1), 1) := by decide +kernel
theorem dX6_stand_9 : decode cX6_stand 9 = .ok (.goto 10, 3) := by decide +kernel
theorem dX6_stand_12 : decode cX6_stand 12 = .ok (.iload_n 2, 1) := by decide +kernel
theorem dX6_stand_13 : decode cX6_stand 13 = .ok (.iconst 0, 1) := by decide +kernel
theorem dX6_stand_14 : decode cX6_stand 14 = .ok (.bipush 30, 2) := by decide +kernel
theorem dX6_stand_16 : decode cX6_stand 16 = .ok (.invokestatic 165, 3) := by decide +kernel
theorem dX6_stand_19 : decode cX6_stand 19 = .ok (.istore 4, 2) := by decide +kernel
theorem dX6_stand_21 : decode cX6_stand 21 = .ok (.iload 4, 2) := by decide +kernel
theorem dX6_stand_23 : decode cX6_stand 23 = .ok (.ifCond .ne 16, 3) := by decide +kernel
theorem dX6_stand_26 : decode cX6_stand 26 = .ok (.iload_n 3, 1) := by decide +kernel
theorem dX6_stand_27 : decode cX6_stand 27 = .ok (.iconst 0, 1) := by decide +kernel
theorem dX6_stand_28 : decode cX6_stand 28 = .ok (.iconst 1, 1) := by decide +kernel
theorem dX6_stand_29 : decode cX6_stand 29 = .ok (.invokestatic 82, 3) := by decide +kernel
theorem dX6_stand_32 : decode cX6_stand 32 = .ok (.ifCond .ne 7, 3) := by decide +kernel
theorem dX6_stand_35 : decode cX6_stand 35 = .ok (.bipush (-2), 2) := by decide +kernel
theorem dX6_stand_37 : decode cX6_stand 37 = .ok (.istore 4, 2) := by decide +kernel
theorem dX6_stand_39 : decode cX6_stand 39 = .ok (.iload 4, 2) := by decide +kernel
theorem dX6_stand_41 : decode cX6_stand 41 = .ok (.ifCond .eq 10, 3) := by decide +kernel
theorem dX6_stand_44 : decode cX6_stand 44 = .ok (.aload_n 0, 1) := by decide +kernel
theorem dX6_stand_45 : decode cX6_stand 45 = .ok (.iload 4, 2) := by decide +kernel
theorem dX6_stand_47 : decode cX6_stand 47 = .ok (.invokevirtual 172, 3) := by decide +kernel
theorem dX6_stand_50 : decode cX6_stand 50 = .ok (.ireturn, 1) := by decide +kernel
theorem dX6_stand_51 : decode cX6_stand 51 = .ok (.bipush (-9), 2) := by decide +kernel
theorem dX6_stand_53 : decode cX6_stand 53 = .ok (.istore 5, 2) := by decide +kernel
theorem dX6_stand_55 : decode cX6_stand 55 = .ok (.bipush (-9), 2) := by decide +kernel
theorem dX6_stand_57 : decode cX6_stand 57 = .ok (.istore 6, 2) := by decide +kernel
theorem dX6_stand_59 : decode cX6_stand 59 = .ok (.iconst 0, 1) := by decide +kernel
theorem dX6_stand_60 : decode cX6_stand 60 = .ok (.istore 7, 2) := by decide +kernel
theorem dX6_stand_62 : decode cX6_stand 62 = .ok (.iload 7, 2) := by decide +kernel
theorem dX6_stand_64 : decode cX6_stand 64 = .ok (.bipush 24, 2) := by decide +kernel
theorem dX6_stand_66 : decode cX6_stand 66 = .ok (.if_icmp .ge 55, 3) := by decide +kernel
theorem dX6_stand_69 : decode cX6_stand 69 = .ok (.aload_n 0, 1) := by decide +kernel
theorem dX6_stand_70 : decode cX6_stand 70 = .ok (.invokevirtual 280, 3) := by decide +kernel
theorem dX6_stand_73 : decode cX6_stand 73 = .ok (.aload_n 0, 1) := by decide +kernel
theorem dX6_stand_74 : decode cX6_stand 74 = .ok (.getfield 40, 3) := by decide +kernel
theorem dX6_stand_77 : decode cX6_stand 77 = .ok (.iload_n 1, 1) := by decide +kernel
theorem dX6_stand_78 : decode cX6_stand 78 = .ok (.iload 7, 2) := by decide +kernel
theorem dX6_stand_80 : decode cX6_stand 80 = .ok (.iastore, 1) := by decide +kernel
theorem dX6_stand_81 : decode cX6_stand 81 = .ok (.aload_n 0, 1) := by decide +kernel
theorem dX6_stand_82 : decode cX6_stand 82 = .ok (.iload_n 2, 1) := by decide +kernel
theorem dX6_stand_83 : decode cX6_stand 83 = .ok (.invokevirtual 210, 3) := by decide +kernel
theorem dX6_stand_86 : decode cX6_stand 86 = .ok (.aload_n 0, 1) := by decide +kernel
theorem dX6_stand_87 : decode cX6_stand 87 = .ok (.iload_n 1, 1) := by decide +kernel
theorem dX6_stand_88 : decode cX6_stand 88 = .ok (.invokevirtual 264, 3) := by decide +kernel
theorem dX6_stand_91 : decode cX6_stand 91 = .ok (.istore 8, 2) := by decide +kernel
theorem dX6_stand_93 : decode cX6_stand 93 = .ok (.aload_n 0, 1) := by decide +kernel
theorem dX6_stand_94 : decode cX6_stand 94 = .ok (.invokevirtual 283, 3) := by decide +kernel
theorem dX6_stand_97 : decode cX6_stand 97 = .ok (.iload 8, 2) := by decide +kernel
theorem dX6_stand_99 : decode cX6_stand 99 = .ok (.iload 6, 2) := by decide +kernel
theorem dX6_stand_101 : decode cX6_stand 101 = .ok (.if_icmp .gt 6, 3) := by decide +kernel
theorem dX6_stand_104 : decode cX6_stand 104 = .ok (.goto 11, 3) := by decide +kernel
theorem dX6_stand_107 : decode cX6_stand 107 = .ok (.iload 7, 2) := by decide +kernel
theorem dX6_stand_109 : decode cX6_stand 109 = .ok (.istore 5, 2) := by decide +kernel
theorem dX6_stand_111 : decode cX6_stand 111 = .ok (.iload 8, 2) := by decide +kernel
theorem dX6_stand_113 : decode cX6_stand 113 = .ok (.istore 6, 2) := by decide +kernel
theorem dX6_stand_115 : decode cX6_stand 115 = .ok (.iinc 7 1, 3) := by decide +kernel
theorem dX6_stand_118 : decode cX6_stand 118 = .ok (.goto (-56), 3) := by decide +kernel
theorem dX6_stand_121 : decode cX6_stand 121 = .ok (.iload_n 3, 1) := by decide +kernel
theorem dX6_stand_122 : decode cX6_stand 122 = .ok (.ifCond .ne 8, 3) := by decide +kernel
theorem dX6_stand_125 : decode cX6_stand 125 = .ok (.iload 5, 2) := by decide +kernel
theorem dX6_stand_127 : decode cX6_stand 127 = .ok (.goto 5, 3) := by decide +kernel
theorem dX6_stand_130 : decode cX6_stand 130 = .ok (.iload 6, 2) := by decide +kernel
theorem dX6_stand_132 : decode cX6_stand 132 = .ok (.ireturn, 1) := by decide +kernel
theorem dX6_kettle_0 : decode cX6_kettle 0 = .ok (.aload_n 0, 1) := by decide +kernel
theorem dX6_kettle_1 : decode cX6_kettle 1 = .ok (.iload_n 1, 1) := by decide +kernel
theorem dX6_kettle_2 : decode cX6_kettle 2 = .ok (.invokevirtual 92, 3) := by decide +kernel
theorem dX6_kettle_5 : decode cX6_kettle 5 = .ok (.ifCond .eq 11, 3) := by decide +kernel
theorem dX6_kettle_8 : decode cX6_kettle 8 = .ok (.aload_n 0, 1) := by decide +kernel
theorem dX6_kettle_9 : decode cX6_kettle 9 = .ok (.iload_n 2, 1) := by decide +kernel
theorem dX6_kettle_10 : decode cX6_kettle 10 = .ok (.invokevirtual 207, 3) := by decide +kernel
theorem dX6_kettle_13 : decode cX6_kettle 13 = .ok (.ifCond .ne 7, 3) := by decide +kernel
theorem dX6_kettle_16 : decode cX6_kettle 16 = .ok (.iconst (-1), 1) := by decide +kernel
theorem dX6_kettle_17 : decode cX6_kettle 17 = .ok (.goto 10, 3) := by decide +kernel
theorem dX6_kettle_20 : decode cX6_kettle 20 = .ok (.iload_n 3, 1) := by decide +kernel
theorem dX6_kettle_21 : decode cX6_kettle 21 = .ok (.iconst 0, 1) := by decide +kernel
theorem dX6_kettle_22 : decode cX6_kettle 22 = .ok (.bipush 30, 2) := by decide +kernel
theorem dX6_kettle_24 : decode cX6_kettle 24 = .ok (.invokestatic 165, 3) := by decide +kernel
theorem dX6_kettle_27 : decode cX6_kettle 27 = .ok (.istore 4, 2) := by decide +kernel
theorem dX6_kettle_29 : decode cX6_kettle 29 = .ok (.iload 4, 2) := by decide +kernel
theorem dX6_kettle_31 : decode cX6_kettle 31 = .ok (.ifCond .eq 10, 3) := by decide +kernel
theorem dX6_kettle_34 : decode cX6_kettle 34 = .ok (.aload_n 0, 1) := by decide +kernel
theorem dX6_kettle_35 : decode cX6_kettle 35 = .ok (.iload 4, 2) := by decide +kernel
theorem dX6_kettle_37 : decode cX6_kettle 37 = .ok (.invokevirtual 172, 3) := by decide +kernel
theorem dX6_kettle_40 : decode cX6_kettle 40 = .ok (.ireturn, 1) := by decide +kernel
theorem dX6_kettle_41 : decode cX6_kettle 41 = .ok (.bipush (-9), 2) := by decide +kernel
theorem dX6_kettle_43 : decode cX6_kettle 43 = .ok (.istore 5, 2) := by decide +kernel
theorem dX6_kettle_45 : decode cX6_kettle 45 = .ok (.iconst 0, 1) := by decide +kernel
theorem dX6_kettle_46 : decode cX6_kettle 46 = .ok (.istore 6, 2) := by decide +kernel
theorem dX6_kettle_48 : decode cX6_kettle 48 = .ok (.iload 6, 2) := by decide +kernel
theorem dX6_kettle_50 : decode cX6_kettle 50 = .ok (.bipush 24, 2) := by decide +kernel
theorem dX6_kettle_52 : decode cX6_kettle 52 = .ok (.if_icmp .ge 52, 3) := by decide +kernel
theorem dX6_kettle_55 : decode cX6_kettle 55 = .ok (.iload 5, 2) := by decide +kernel
theorem dX6_kettle_57 : decode cX6_kettle 57 = .ok (.ifCond .ge 47, 3) := by decide +kernel
theorem dX6_kettle_60 : decode cX6_kettle 60 = .ok (.aload_n 0, 1) := by decide +kernel
theorem dX6_kettle_61 : decode cX6_kettle 61 = .ok (.invokevirtual 280, 3) := by decide +kernel
theorem dX6_kettle_64 : decode cX6_kettle 64 = .ok (.aload_n 0, 1) := by decide +kernel
theorem dX6_kettle_65 : decode cX6_kettle 65 = .ok (.iload 6, 2) := by decide +kernel
theorem dX6_kettle_67 : decode cX6_kettle 67 = .ok (.putfield 49, 3) := by decide +kernel
theorem dX6_kettle_70 : decode cX6_kettle 70 = .ok (.aload_n 0, 1) := by decide +kernel
theorem dX6_kettle_71 : decode cX6_kettle 71 = .ok (.iload_n 3, 1) := by decide +kernel
theorem dX6_kettle_72 : decode cX6_kettle 72 = .ok (.invokevirtual 210, 3) := by decide +kernel
theorem dX6_kettle_75 : decode cX6_kettle 75 = .ok (.aload_n 0, 1) := by decide +kernel
theorem dX6_kettle_76 : decode cX6_kettle 76 = .ok (.getfield 28, 3) := by decide +kernel
theorem dX6_kettle_79 : decode cX6_kettle 79 = .ok (.iload_n 2, 1) := by decide +kernel
theorem dX6_kettle_80 : decode cX6_kettle 80 = .ok (.iaload, 1) := by decide +kernel
theorem dX6_kettle_81 : decode cX6_kettle 81 = .ok (.iload_n 1, 1) := by decide +kernel
theorem dX6_kettle_82 : decode cX6_kettle 82 = .ok (.if_icmp .ne 8, 3) := by decide +kernel
theorem dX6_kettle_85 : decode cX6_kettle 85 = .ok (.iload 6, 2) := by decide +kernel
theorem dX6_kettle_87 : decode cX6_kettle 87 = .ok (.goto 5, 3) := by decide +kernel
theorem dX6_kettle_90 : decode cX6_kettle 90 = .ok (.bipush (-9), 2) := by decide +kernel
theorem dX6_kettle_92 : decode cX6_kettle 92 = .ok (.istore 5, 2) := by decide +kernel
theorem dX6_kettle_94 : decode cX6_kettle 94 = .ok (.aload_n 0, 1) := by decide +kernel
theorem dX6_kettle_95 : decode cX6_kettle 95 = .ok (.invokevirtual 283, 3) := by decide +kernel
theorem dX6_kettle_98 : decode cX6_kettle 98 = .ok (.iinc 6 1, 3) := by decide +kernel
theorem dX6_kettle_101 : decode cX6_kettle 101 = .ok (.goto (-53), 3) := by decide +kernel
theorem dX6_kettle_104 : decode cX6_kettle 104 = .ok (.iload 5, 2) := by decide +kernel
theorem dX6_kettle_106 : decode cX6_kettle 106 = .ok (.ireturn, 1) := by decide +kernel
theorem dX6_blowsOff_0 : decode cX6_blowsOff 0 = .ok (.aload_n 0, 1) := by decide +kernel
theorem dX6_blowsOff_1 : decode cX6_blowsOff 1 = .ok (.dup, 1) := by decide +kernel
theorem dX6_blowsOff_2 : decode cX6_blowsOff 2 = .ok (.getfield 79, 3) := by decide +kernel
theorem dX6_blowsOff_5 : decode cX6_blowsOff 5 = .ok (.iconst 1, 1) := by decide +kernel
theorem dX6_blowsOff_6 : decode cX6_blowsOff 6 = .ok (.isub, 1) := by decide +kernel
theorem dX6_blowsOff_7 : decode cX6_blowsOff 7 = .ok (.putfield 79, 3) := by decide +kernel
theorem dX6_blowsOff_10 : decode cX6_blowsOff 10 = .ok (.iload_n 1, 1) := by decide +kernel
theorem dX6_blowsOff_11 : decode cX6_blowsOff 11 = .ok (.istore_n 2, 1) := by decide +kernel
theorem dX6_blowsOff_12 : decode cX6_blowsOff 12 = .ok (.iload_n 2, 1) := by decide +kernel
theorem dX6_blowsOff_13 : decode cX6_blowsOff 13 = .ok (.aload_n 0, 1) := by decide +kernel
theorem dX6_blowsOff_14 : decode cX6_blowsOff 14 = .ok (.getfield 79, 3) := by decide +kernel
theorem dX6_blowsOff_17 : decode cX6_blowsOff 17 = .ok (.if_icmp .ge 51, 3) := by decide +kernel
theorem dX6_blowsOff_20 : decode cX6_blowsOff 20 = .ok (.aload_n 0, 1) := by decide +kernel
theorem dX6_blowsOff_21 : decode cX6_blowsOff 21 = .ok (.getfield 13, 3) := by decide +kernel
theorem dX6_blowsOff_24 : decode cX6_blowsOff 24 = .ok (.iload_n 2, 1) := by decide +kernel
theorem dX6_blowsOff_25 : decode cX6_blowsOff 25 = .ok (.aload_n 0, 1) := by decide +kernel
theorem dX6_blowsOff_26 : decode cX6_blowsOff 26 = .ok (.getfield 13, 3) := by decide +kernel
theorem dX6_blowsOff_29 : decode cX6_blowsOff 29 = .ok (.iload_n 2, 1) := by decide +kernel
theorem dX6_blowsOff_30 : decode cX6_blowsOff 30 = .ok (.iconst 1, 1) := by decide +kernel
theorem dX6_blowsOff_31 : decode cX6_blowsOff 31 = .ok (.iadd, 1) := by decide +kernel
theorem dX6_blowsOff_32 : decode cX6_blowsOff 32 = .ok (.iaload, 1) := by decide +kernel
theorem dX6_blowsOff_33 : decode cX6_blowsOff 33 = .ok (.iastore, 1) := by decide +kernel
theorem dX6_blowsOff_34 : decode cX6_blowsOff 34 = .ok (.aload_n 0, 1) := by decide +kernel
theorem dX6_blowsOff_35 : decode cX6_blowsOff 35 = .ok (.getfield 16, 3) := by decide +kernel
theorem dX6_blowsOff_38 : decode cX6_blowsOff 38 = .ok (.iload_n 2, 1) := by decide +kernel
theorem dX6_blowsOff_39 : decode cX6_blowsOff 39 = .ok (.aload_n 0, 1) := by decide +kernel
theorem dX6_blowsOff_40 : decode cX6_blowsOff 40 = .ok (.getfield 16, 3) := by decide +kernel
theorem dX6_blowsOff_43 : decode cX6_blowsOff 43 = .ok (.iload_n 2, 1) := by decide +kernel
theorem dX6_blowsOff_44 : decode cX6_blowsOff 44 = .ok (.iconst 1, 1) := by decide +kernel
theorem dX6_blowsOff_45 : decode cX6_blowsOff 45 = .ok (.iadd, 1) := by decide +kernel
theorem dX6_blowsOff_46 : decode cX6_blowsOff 46 = .ok (.iaload, 1) := by decide +kernel
theorem dX6_blowsOff_47 : decode cX6_blowsOff 47 = .ok (.iastore, 1) := by decide +kernel
theorem dX6_blowsOff_48 : decode cX6_blowsOff 48 = .ok (.aload_n 0, 1) := by decide +kernel
theorem dX6_blowsOff_49 : decode cX6_blowsOff 49 = .ok (.getfield 19, 3) := by decide +kernel
theorem dX6_blowsOff_52 : decode cX6_blowsOff 52 = .ok (.iload_n 2, 1) := by decide +kernel
theorem dX6_blowsOff_53 : decode cX6_blowsOff 53 = .ok (.aload_n 0, 1) := by decide +kernel
theorem dX6_blowsOff_54 : decode cX6_blowsOff 54 = .ok (.getfield 19, 3) := by decide +kernel
theorem dX6_blowsOff_57 : decode cX6_blowsOff 57 = .ok (.iload_n 2, 1) := by decide +kernel
theorem dX6_blowsOff_58 : decode cX6_blowsOff 58 = .ok (.iconst 1, 1) := by decide +kernel
theorem dX6_blowsOff_59 : decode cX6_blowsOff 59 = .ok (.iadd, 1) := by decide +kernel
theorem dX6_blowsOff_60 : decode cX6_blowsOff 60 = .ok (.iaload, 1) := by decide +kernel
theorem dX6_blowsOff_61 : decode cX6_blowsOff 61 = .ok (.iastore, 1) := by decide +kernel
theorem dX6_blowsOff_62 : decode cX6_blowsOff 62 = .ok (.iinc 2 1, 3) := by decide +kernel
theorem dX6_blowsOff_65 : decode cX6_blowsOff 65 = .ok (.goto (-53), 3) := by decide +kernel
theorem dX6_blowsOff_68 : decode cX6_blowsOff 68 = .ok (.return_, 1) := by decide +kernel
theorem dX6_without_0 : decode cX6_without 0 = .ok (.iload_n 1, 1) := by decide +kernel
theorem dX6_without_1 : decode cX6_without 1 = .ok (.iconst 0, 1) := by decide +kernel
theorem dX6_without_2 : decode cX6_without 2 = .ok (.bipush 60, 2) := by decide +kernel
theorem dX6_without_4 : decode cX6_without 4 = .ok (.invokestatic 165, 3) := by decide +kernel
theorem dX6_without_7 : decode cX6_without 7 = .ok (.istore_n 3, 1) := by decide +kernel
theorem dX6_without_8 : decode cX6_without 8 = .ok (.iload_n 3, 1) := by decide +kernel
theorem dX6_without_9 : decode cX6_without 9 = .ok (.ifCond .ne 15, 3) := by decide +kernel
theorem dX6_without_12 : decode cX6_without 12 = .ok (.iload_n 2, 1) := by decide +kernel
theorem dX6_without_13 : decode cX6_without 13 = .ok (.iconst 0, 1) := by decide +kernel
theorem dX6_without_14 : decode cX6_without 14 = .ok (.iconst 1, 1) := by decide +kernel
theorem dX6_without_15 : decode cX6_without 15 = .ok (.invokestatic 82, 3) := by decide +kernel
theorem dX6_without_18 : decode cX6_without 18 = .ok (.ifCond .ne 6, 3) := by decide +kernel
theorem dX6_without_21 : decode cX6_without 21 = .ok (.bipush (-2), 2) := by decide +kernel
theorem dX6_without_23 : decode cX6_without 23 = .ok (.istore_n 3, 1) := by decide +kernel
theorem dX6_without_24 : decode cX6_without 24 = .ok (.iload_n 3, 1) := by decide +kernel
theorem dX6_without_25 : decode cX6_without 25 = .ok (.ifCond .eq 9, 3) := by decide +kernel
theorem dX6_without_28 : decode cX6_without 28 = .ok (.aload_n 0, 1) := by decide +kernel
theorem dX6_without_29 : decode cX6_without 29 = .ok (.iload_n 3, 1) := by decide +kernel
theorem dX6_without_30 : decode cX6_without 30 = .ok (.invokevirtual 172, 3) := by decide +kernel
theorem dX6_without_33 : decode cX6_without 33 = .ok (.ireturn, 1) := by decide +kernel
theorem dX6_without_34 : decode cX6_without 34 = .ok (.bipush (-9), 2) := by decide +kernel
theorem dX6_without_36 : decode cX6_without 36 = .ok (.istore 4, 2) := by decide +kernel
theorem dX6_without_38 : decode cX6_without 38 = .ok (.bipush (-9), 2) := by decide +kernel
theorem dX6_without_40 : decode cX6_without 40 = .ok (.istore 5, 2) := by decide +kernel
theorem dX6_without_42 : decode cX6_without 42 = .ok (.iconst 0, 1) := by decide +kernel
theorem dX6_without_43 : decode cX6_without 43 = .ok (.istore 6, 2) := by decide +kernel
theorem dX6_without_45 : decode cX6_without 45 = .ok (.iload 6, 2) := by decide +kernel
theorem dX6_without_47 : decode cX6_without 47 = .ok (.aload_n 0, 1) := by decide +kernel
theorem dX6_without_48 : decode cX6_without 48 = .ok (.getfield 79, 3) := by decide +kernel
theorem dX6_without_51 : decode cX6_without 51 = .ok (.if_icmp .ge 60, 3) := by decide +kernel
theorem dX6_without_54 : decode cX6_without 54 = .ok (.aload_n 0, 1) := by decide +kernel
theorem dX6_without_55 : decode cX6_without 55 = .ok (.invokevirtual 280, 3) := by decide +kernel
theorem dX6_without_58 : decode cX6_without 58 = .ok (.aload_n 0, 1) := by decide +kernel
theorem dX6_without_59 : decode cX6_without 59 = .ok (.iload 6, 2) := by decide +kernel
theorem dX6_without_61 : decode cX6_without 61 = .ok (.invokevirtual 295, 3) := by decide +kernel
theorem dX6_without_64 : decode cX6_without 64 = .ok (.aload_n 0, 1) := by decide +kernel
theorem dX6_without_65 : decode cX6_without 65 = .ok (.iload_n 1, 1) := by decide +kernel
theorem dX6_without_66 : decode cX6_without 66 = .ok (.invokevirtual 210, 3) := by decide +kernel
theorem dX6_without_69 : decode cX6_without 69 = .ok (.aload_n 0, 1) := by decide +kernel
theorem dX6_without_70 : decode cX6_without 70 = .ok (.invokevirtual 286, 3) := by decide +kernel
theorem dX6_without_73 : decode cX6_without 73 = .ok (.invokestatic 298, 3) := by decide +kernel
theorem dX6_without_76 : decode cX6_without 76 = .ok (.istore 7, 2) := by decide +kernel
theorem dX6_without_78 : decode cX6_without 78 = .ok (.aload_n 0, 1) := by decide +kernel
theorem dX6_without_79 : decode cX6_without 79 = .ok (.invokevirtual 283, 3) := by decide +kernel
theorem dX6_without_82 : decode cX6_without 82 = .ok (.iload 4, 2) := by decide +kernel
theorem dX6_without_84 : decode cX6_without 84 = .ok (.ifCond .lt 13, 3) := by decide +kernel
theorem dX6_without_87 : decode cX6_without 87 = .ok (.iload 7, 2) := by decide +kernel
theorem dX6_without_89 : decode cX6_without 89 = .ok (.iload 5, 2) := by decide +kernel
theorem dX6_without_91 : decode cX6_without 91 = .ok (.if_icmp .lt 6, 3) := by decide +kernel
theorem dX6_without_94 : decode cX6_without 94 = .ok (.goto 11, 3) := by decide +kernel
theorem dX6_without_97 : decode cX6_without 97 = .ok (.iload 6, 2) := by decide +kernel
theorem dX6_without_99 : decode cX6_without 99 = .ok (.istore 4, 2) := by decide +kernel
theorem dX6_without_101 : decode cX6_without 101 = .ok (.iload 7, 2) := by decide +kernel
theorem dX6_without_103 : decode cX6_without 103 = .ok (.istore 5, 2) := by decide +kernel
theorem dX6_without_105 : decode cX6_without 105 = .ok (.iinc 6 1, 3) := by decide +kernel
theorem dX6_without_108 : decode cX6_without 108 = .ok (.goto (-63), 3) := by decide +kernel
theorem dX6_without_111 : decode cX6_without 111 = .ok (.iload_n 2, 1) := by decide +kernel
theorem dX6_without_112 : decode cX6_without 112 = .ok (.ifCond .ne 8, 3) := by decide +kernel
theorem dX6_without_115 : decode cX6_without 115 = .ok (.iload 4, 2) := by decide +kernel
theorem dX6_without_117 : decode cX6_without 117 = .ok (.goto 5, 3) := by decide +kernel
theorem dX6_without_120 : decode cX6_without 120 = .ok (.iload 5, 2) := by decide +kernel
theorem dX6_without_122 : decode cX6_without 122 = .ok (.ireturn, 1) := by decide +kernel
theorem dX6_changes_0 : decode cX6_changes 0 = .ok (.aload_n 0, 1) := by decide +kernel
theorem dX6_changes_1 : decode cX6_changes 1 = .ok (.iload_n 1, 1) := by decide +kernel
theorem dX6_changes_2 : decode cX6_changes 2 = .ok (.iaload, 1) := by decide +kernel
theorem dX6_changes_3 : decode cX6_changes 3 = .ok (.istore_n 3, 1) := by decide +kernel
theorem dX6_changes_4 : decode cX6_changes 4 = .ok (.aload_n 0, 1) := by decide +kernel
theorem dX6_changes_5 : decode cX6_changes 5 = .ok (.iload_n 1, 1) := by decide +kernel
theorem dX6_changes_6 : decode cX6_changes 6 = .ok (.aload_n 0, 1) := by decide +kernel
theorem dX6_changes_7 : decode cX6_changes 7 = .ok (.iload_n 2, 1) := by decide +kernel
theorem dX6_changes_8 : decode cX6_changes 8 = .ok (.iaload, 1) := by decide +kernel
theorem dX6_changes_9 : decode cX6_changes 9 = .ok (.iastore, 1) := by decide +kernel
