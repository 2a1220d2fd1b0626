theorem dX4_become_112 : decode cX4_become 112 = .ok (.getfield 37, 3) := by decide +kernel
theorem dX4_become_115 : decode cX4_become 115 = .ok (.iconst 0, 1) := by decide +kernel
theorem dX4_become_116 : decode cX4_become 116 = .ok (.iconst 5, 1) := by decide +kernel
theorem dX4_become_117 : decode cX4_become 117 = .ok (.invokestatic 58, 3) := by decide +kernel
theorem dX4_become_120 : decode cX4_become 120 = .ok (.aload_n 1, 1) := by decide +kernel
theorem dX4_become_121 : decode cX4_become 121 = .ok (.getfield 40, 3) := by decide +kernel
theorem dX4_become_124 : decode cX4_become 124 = .ok (.iconst 0, 1) := by decide +kernel
theorem dX4_become_125 : decode cX4_become 125 = .ok (.aload_n 0, 1) := by decide +kernel
theorem dX4_become_126 : decode cX4_become 126 = .ok (.getfield 40, 3) := by decide +kernel
theorem dX4_become_129 : decode cX4_become 129 = .ok (.iconst 0, 1) := by decide +kernel
theorem dX4_become_130 : decode cX4_become 130 = .ok (.iconst 5, 1) := by decide +kernel
theorem dX4_become_131 : decode cX4_become 131 = .ok (.invokestatic 58, 3) := by decide +kernel
theorem dX4_become_134 : decode cX4_become 134 = .ok (.aload_n 1, 1) := by decide +kernel
theorem dX4_become_135 : decode cX4_become 135 = .ok (.getfield 43, 3) := by decide +kernel
theorem dX4_become_138 : decode cX4_become 138 = .ok (.iconst 0, 1) := by decide +kernel
theorem dX4_become_139 : decode cX4_become 139 = .ok (.aload_n 0, 1) := by decide +kernel
theorem dX4_become_140 : decode cX4_become 140 = .ok (.getfield 43, 3) := by decide +kernel
theorem dX4_become_143 : decode cX4_become 143 = .ok (.iconst 0, 1) := by decide +kernel
theorem dX4_become_144 : decode cX4_become 144 = .ok (.iconst 5, 1) := by decide +kernel
theorem dX4_become_145 : decode cX4_become 145 = .ok (.invokestatic 58, 3) := by decide +kernel
theorem dX4_become_148 : decode cX4_become 148 = .ok (.aload_n 1, 1) := by decide +kernel
theorem dX4_become_149 : decode cX4_become 149 = .ok (.getfield 46, 3) := by decide +kernel
theorem dX4_become_152 : decode cX4_become 152 = .ok (.iconst 0, 1) := by decide +kernel
theorem dX4_become_153 : decode cX4_become 153 = .ok (.aload_n 0, 1) := by decide +kernel
theorem dX4_become_154 : decode cX4_become 154 = .ok (.getfield 46, 3) := by decide +kernel
theorem dX4_become_157 : decode cX4_become 157 = .ok (.iconst 0, 1) := by decide +kernel
theorem dX4_become_158 : decode cX4_become 158 = .ok (.iconst 5, 1) := by decide +kernel
theorem dX4_become_159 : decode cX4_become 159 = .ok (.invokestatic 58, 3) := by decide +kernel
theorem dX4_become_162 : decode cX4_become 162 = .ok (.aload_n 0, 1) := by decide +kernel
theorem dX4_become_163 : decode cX4_become 163 = .ok (.aload_n 1, 1) := by decide +kernel
theorem dX4_become_164 : decode cX4_become 164 = .ok (.getfield 49, 3) := by decide +kernel
theorem dX4_become_167 : decode cX4_become 167 = .ok (.putfield 49, 3) := by decide +kernel
theorem dX4_become_170 : decode cX4_become 170 = .ok (.aload_n 0, 1) := by decide +kernel
theorem dX4_become_171 : decode cX4_become 171 = .ok (.aload_n 1, 1) := by decide +kernel
theorem dX4_become_172 : decode cX4_become 172 = .ok (.getfield 52, 3) := by decide +kernel
theorem dX4_become_175 : decode cX4_become 175 = .ok (.putfield 52, 3) := by decide +kernel
theorem dX4_become_178 : decode cX4_become 178 = .ok (.aload_n 0, 1) := by decide +kernel
theorem dX4_become_179 : decode cX4_become 179 = .ok (.aload_n 1, 1) := by decide +kernel
theorem dX4_become_180 : decode cX4_become 180 = .ok (.getfield 55, 3) := by decide +kernel
theorem dX4_become_183 : decode cX4_become 183 = .ok (.putfield 55, 3) := by decide +kernel
theorem dX4_become_186 : decode cX4_become 186 = .ok (.return_, 1) := by decide +kernel
theorem dX4_hasFront_0 : decode cX4_hasFront 0 = .ok (.iload_n 1, 1) := by decide +kernel
theorem dX4_hasFront_1 : decode cX4_hasFront 1 = .ok (.ifCond .lt 15, 3) := by decide +kernel
theorem dX4_hasFront_4 : decode cX4_hasFront 4 = .ok (.iload_n 1, 1) := by decide +kernel
theorem dX4_hasFront_5 : decode cX4_hasFront 5 = .ok (.aload_n 0, 1) := by decide +kernel
theorem dX4_hasFront_6 : decode cX4_hasFront 6 = .ok (.getfield 21, 3) := by decide +kernel
theorem dX4_hasFront_9 : decode cX4_hasFront 9 = .ok (.if_icmp .ge 7, 3) := by decide +kernel
theorem dX4_hasFront_12 : decode cX4_hasFront 12 = .ok (.iconst 1, 1) := by decide +kernel
theorem dX4_hasFront_13 : decode cX4_hasFront 13 = .ok (.goto 4, 3) := by decide +kernel
theorem dX4_hasFront_16 : decode cX4_hasFront 16 = .ok (.iconst 0, 1) := by decide +kernel
theorem dX4_hasFront_17 : decode cX4_hasFront 17 = .ok (.ireturn, 1) := by decide +kernel
theorem dX4_hasThing_0 : decode cX4_hasThing 0 = .ok (.iload_n 1, 1) := by decide +kernel
theorem dX4_hasThing_1 : decode cX4_hasThing 1 = .ok (.ifCond .lt 15, 3) := by decide +kernel
theorem dX4_hasThing_4 : decode cX4_hasThing 4 = .ok (.iload_n 1, 1) := by decide +kernel
theorem dX4_hasThing_5 : decode cX4_hasThing 5 = .ok (.aload_n 0, 1) := by decide +kernel
theorem dX4_hasThing_6 : decode cX4_hasThing 6 = .ok (.getfield 34, 3) := by decide +kernel
theorem dX4_hasThing_9 : decode cX4_hasThing 9 = .ok (.if_icmp .ge 7, 3) := by decide +kernel
theorem dX4_hasThing_12 : decode cX4_hasThing 12 = .ok (.iconst 1, 1) := by decide +kernel
theorem dX4_hasThing_13 : decode cX4_hasThing 13 = .ok (.goto 4, 3) := by decide +kernel
theorem dX4_hasThing_16 : decode cX4_hasThing 16 = .ok (.iconst 0, 1) := by decide +kernel
theorem dX4_hasThing_17 : decode cX4_hasThing 17 = .ok (.ireturn, 1) := by decide +kernel
theorem dX4_hasPerson_0 : decode cX4_hasPerson 0 = .ok (.iload_n 1, 1) := by decide +kernel
theorem dX4_hasPerson_1 : decode cX4_hasPerson 1 = .ok (.ifCond .lt 15, 3) := by decide +kernel
theorem dX4_hasPerson_4 : decode cX4_hasPerson 4 = .ok (.iload_n 1, 1) := by decide +kernel
theorem dX4_hasPerson_5 : decode cX4_hasPerson 5 = .ok (.aload_n 0, 1) := by decide +kernel
theorem dX4_hasPerson_6 : decode cX4_hasPerson 6 = .ok (.getfield 49, 3) := by decide +kernel
theorem dX4_hasPerson_9 : decode cX4_hasPerson 9 = .ok (.if_icmp .ge 7, 3) := by decide +kernel
theorem dX4_hasPerson_12 : decode cX4_hasPerson 12 = .ok (.iconst 1, 1) := by decide +kernel
theorem dX4_hasPerson_13 : decode cX4_hasPerson 13 = .ok (.goto 4, 3) := by decide +kernel
theorem dX4_hasPerson_16 : decode cX4_hasPerson 16 = .ok (.iconst 0, 1) := by decide +kernel
theorem dX4_hasPerson_17 : decode cX4_hasPerson 17 = .ok (.ireturn, 1) := by decide +kernel
theorem dX4_addFront_0 : decode cX4_addFront 0 = .ok (.iload_n 2, 1) := by decide +kernel
theorem dX4_addFront_1 : decode cX4_addFront 1 = .ok (.bipush 9, 2) := by decide +kernel
theorem dX4_addFront_3 : decode cX4_addFront 3 = .ok (.if_icmp .gt 18, 3) := by decide +kernel
theorem dX4_addFront_6 : decode cX4_addFront 6 = .ok (.iload_n 3, 1) := by decide +kernel
theorem dX4_addFront_7 : decode cX4_addFront 7 = .ok (.bipush 9, 2) := by decide +kernel
theorem dX4_addFront_9 : decode cX4_addFront 9 = .ok (.if_icmp .gt 12, 3) := by decide +kernel
theorem dX4_addFront_12 : decode cX4_addFront 12 = .ok (.aload_n 0, 1) := by decide +kernel
theorem dX4_addFront_13 : decode cX4_addFront 13 = .ok (.getfield 21, 3) := by decide +kernel
theorem dX4_addFront_16 : decode cX4_addFront 16 = .ok (.bipush 6, 2) := by decide +kernel
theorem dX4_addFront_18 : decode cX4_addFront 18 = .ok (.if_icmp .lt 5, 3) := by decide +kernel
theorem dX4_addFront_21 : decode cX4_addFront 21 = .ok (.iconst 0, 1) := by decide +kernel
theorem dX4_addFront_22 : decode cX4_addFront 22 = .ok (.ireturn, 1) := by decide +kernel
theorem dX4_addFront_23 : decode cX4_addFront 23 = .ok (.aload_n 0, 1) := by decide +kernel
theorem dX4_addFront_24 : decode cX4_addFront 24 = .ok (.getfield 9, 3) := by decide +kernel
theorem dX4_addFront_27 : decode cX4_addFront 27 = .ok (.aload_n 0, 1) := by decide +kernel
theorem dX4_addFront_28 : decode cX4_addFront 28 = .ok (.getfield 21, 3) := by decide +kernel
theorem dX4_addFront_31 : decode cX4_addFront 31 = .ok (.iload_n 1, 1) := by decide +kernel
theorem dX4_addFront_32 : decode cX4_addFront 32 = .ok (.iastore, 1) := by decide +kernel
theorem dX4_addFront_33 : decode cX4_addFront 33 = .ok (.aload_n 0, 1) := by decide +kernel
theorem dX4_addFront_34 : decode cX4_addFront 34 = .ok (.getfield 15, 3) := by decide +kernel
theorem dX4_addFront_37 : decode cX4_addFront 37 = .ok (.aload_n 0, 1) := by decide +kernel
theorem dX4_addFront_38 : decode cX4_addFront 38 = .ok (.getfield 21, 3) := by decide +kernel
theorem dX4_addFront_41 : decode cX4_addFront 41 = .ok (.iload_n 2, 1) := by decide +kernel
theorem dX4_addFront_42 : decode cX4_addFront 42 = .ok (.iastore, 1) := by decide +kernel
theorem dX4_addFront_43 : decode cX4_addFront 43 = .ok (.aload_n 0, 1) := by decide +kernel
theorem dX4_addFront_44 : decode cX4_addFront 44 = .ok (.getfield 18, 3) := by decide +kernel
theorem dX4_addFront_47 : decode cX4_addFront 47 = .ok (.aload_n 0, 1) := by decide +kernel
theorem dX4_addFront_48 : decode cX4_addFront 48 = .ok (.getfield 21, 3) := by decide +kernel
theorem dX4_addFront_51 : decode cX4_addFront 51 = .ok (.iload_n 3, 1) := by decide +kernel
theorem dX4_addFront_52 : decode cX4_addFront 52 = .ok (.iastore, 1) := by decide +kernel
theorem dX4_addFront_53 : decode cX4_addFront 53 = .ok (.aload_n 0, 1) := by decide +kernel
theorem dX4_addFront_54 : decode cX4_addFront 54 = .ok (.dup, 1) := by decide +kernel
theorem dX4_addFront_55 : decode cX4_addFront 55 = .ok (.getfield 21, 3) := by decide +kernel
theorem dX4_addFront_58 : decode cX4_addFront 58 = .ok (.iconst 1, 1) := by decide +kernel
theorem dX4_addFront_59 : decode cX4_addFront 59 = .ok (.iadd, 1) := by decide +kernel
theorem dX4_addFront_60 : decode cX4_addFront 60 = .ok (.putfield 21, 3) := by decide +kernel
theorem dX4_addFront_63 : decode cX4_addFront 63 = .ok (.iconst 1, 1) := by decide +kernel
theorem dX4_addFront_64 : decode cX4_addFront 64 = .ok (.ireturn, 1) := by decide +kernel
theorem dX4_addPerson_0 : decode cX4_addPerson 0 = .ok (.iload_n 3, 1) := by decide +kernel
theorem dX4_addPerson_1 : decode cX4_addPerson 1 = .ok (.invokestatic 64, 3) := by decide +kernel
theorem dX4_addPerson_4 : decode cX4_addPerson 4 = .ok (.ifCond .eq 11, 3) := by decide +kernel
theorem dX4_addPerson_7 : decode cX4_addPerson 7 = .ok (.aload_n 0, 1) := by decide +kernel
theorem dX4_addPerson_8 : decode cX4_addPerson 8 = .ok (.getfield 49, 3) := by decide +kernel
theorem dX4_addPerson_11 : decode cX4_addPerson 11 = .ok (.iconst 5, 1) := by decide +kernel
theorem dX4_addPerson_12 : decode cX4_addPerson 12 = .ok (.if_icmp .lt 5, 3) := by decide +kernel
theorem dX4_addPerson_15 : decode cX4_addPerson 15 = .ok (.iconst 0, 1) := by decide +kernel
theorem dX4_addPerson_16 : decode cX4_addPerson 16 = .ok (.ireturn, 1) := by decide +kernel
theorem dX4_addPerson_17 : decode cX4_addPerson 17 = .ok (.aload_n 0, 1) := by decide +kernel
theorem dX4_addPerson_18 : decode cX4_addPerson 18 = .ok (.getfield 37, 3) := by decide +kernel
theorem dX4_addPerson_21 : decode cX4_addPerson 21 = .ok (.aload_n 0, 1) := by decide +kernel
theorem dX4_addPerson_22 : decode cX4_addPerson 22 = .ok (.getfield 49, 3) := by decide +kernel
theorem dX4_addPerson_25 : decode cX4_addPerson 25 = .ok (.iload_n 1, 1) := by decide +kernel
theorem dX4_addPerson_26 : decode cX4_addPerson 26 = .ok (.iastore, 1) := by decide +kernel
theorem dX4_addPerson_27 : decode cX4_addPerson 27 = .ok (.aload_n 0, 1) := by decide +kernel
theorem dX4_addPerson_28 : decode cX4_addPerson 28 = .ok (.getfield 40, 3) := by decide +kernel
theorem dX4_addPerson_31 : decode cX4_addPerson 31 = .ok (.aload_n 0, 1) := by decide +kernel
theorem dX4_addPerson_32 : decode cX4_addPerson 32 = .ok (.getfield 49, 3) := by decide +kernel
theorem dX4_addPerson_35 : decode cX4_addPerson 35 = .ok (.iload_n 2, 1) := by decide +kernel
theorem dX4_addPerson_36 : decode cX4_addPerson 36 = .ok (.iastore, 1) := by decide +kernel
theorem dX4_addPerson_37 : decode cX4_addPerson 37 = .ok (.aload_n 0, 1) := by decide +kernel
theorem dX4_addPerson_38 : decode cX4_addPerson 38 = .ok (.getfield 43, 3) := by decide +kernel
theorem dX4_addPerson_41 : decode cX4_addPerson 41 = .ok (.aload_n 0, 1) := by decide +kernel
theorem dX4_addPerson_42 : decode cX4_addPerson 42 = .ok (.getfield 49, 3) := by decide +kernel
theorem dX4_addPerson_45 : decode cX4_addPerson 45 = .ok (.iload_n 3, 1) := by decide +kernel
theorem dX4_addPerson_46 : decode cX4_addPerson 46 = .ok (.iastore, 1) := by decide +kernel
theorem dX4_addPerson_47 : decode cX4_addPerson 47 = .ok (.aload_n 0, 1) := by decide +kernel
theorem dX4_addPerson_48 : decode cX4_addPerson 48 = .ok (.getfield 46, 3) := by decide +kernel
theorem dX4_addPerson_51 : decode cX4_addPerson 51 = .ok (.aload_n 0, 1) := by decide +kernel
theorem dX4_addPerson_52 : decode cX4_addPerson 52 = .ok (.getfield 49, 3) := by decide +kernel
theorem dX4_addPerson_55 : decode cX4_addPerson 55 = .ok (.iload_n 3, 1) := by decide +kernel
theorem dX4_addPerson_56 : decode cX4_addPerson 56 = .ok (.iastore, 1) := by decide +kernel
theorem dX4_addPerson_57 : decode cX4_addPerson 57 = .ok (.aload_n 0, 1) := by decide +kernel
theorem dX4_addPerson_58 : decode cX4_addPerson 58 = .ok (.dup, 1) := by decide +kernel
theorem dX4_addPerson_59 : decode cX4_addPerson 59 = .ok (.getfield 49, 3) := by decide +kernel
theorem dX4_addPerson_62 : decode cX4_addPerson 62 = .ok (.iconst 1, 1) := by decide +kernel
theorem dX4_addPerson_63 : decode cX4_addPerson 63 = .ok (.iadd, 1) := by decide +kernel
theorem dX4_addPerson_64 : decode cX4_addPerson 64 = .ok (.putfield 49, 3) := by decide +kernel
theorem dX4_addPerson_67 : decode cX4_addPerson 67 = .ok (.iconst 1, 1) := by decide +kernel
theorem dX4_addPerson_68 : decode cX4_addPerson 68 = .ok (.ireturn, 1) := by decide +kernel
theorem dX4_addThing_0 : decode cX4_addThing 0 = .ok (.iload_n 2, 1) := by decide +kernel
theorem dX4_addThing_1 : decode cX4_addThing 1 = .ok (.invokestatic 64, 3) := by decide +kernel
theorem dX4_addThing_4 : decode cX4_addThing 4 = .ok (.ifCond .eq 12, 3) := by decide +kernel
theorem dX4_addThing_7 : decode cX4_addThing 7 = .ok (.aload_n 0, 1) := by decide +kernel
theorem dX4_addThing_8 : decode cX4_addThing 8 = .ok (.getfield 34, 3) := by decide +kernel
theorem dX4_addThing_11 : decode cX4_addThing 11 = .ok (.bipush 8, 2) := by decide +kernel
theorem dX4_addThing_13 : decode cX4_addThing 13 = .ok (.if_icmp .lt 5, 3) := by decide +kernel
theorem dX4_addThing_16 : decode cX4_addThing 16 = .ok (.iconst 0, 1) := by decide +kernel
theorem dX4_addThing_17 : decode cX4_addThing 17 = .ok (.ireturn, 1) := by decide +kernel
theorem dX4_addThing_18 : decode cX4_addThing 18 = .ok (.aload_n 0, 1) := by decide +kernel
theorem dX4_addThing_19 : decode cX4_addThing 19 = .ok (.getfield 25, 3) := by decide +kernel
theorem dX4_addThing_22 : decode cX4_addThing 22 = .ok (.aload_n 0, 1) := by decide +kernel
theorem dX4_addThing_23 : decode cX4_addThing 23 = .ok (.getfield 34, 3) := by decide +kernel
theorem dX4_addThing_26 : decode cX4_addThing 26 = .ok (.iload_n 1, 1) := by decide +kernel
theorem dX4_addThing_27 : decode cX4_addThing 27 = .ok (.iastore, 1) := by decide +kernel
theorem dX4_addThing_28 : decode cX4_addThing 28 = .ok (.aload_n 0, 1) := by decide +kernel
theorem dX4_addThing_29 : decode cX4_addThing 29 = .ok (.getfield 28, 3) := by decide +kernel
theorem dX4_addThing_32 : decode cX4_addThing 32 = .ok (.aload_n 0, 1) := by decide +kernel
theorem dX4_addThing_33 : decode cX4_addThing 33 = .ok (.getfield 34, 3) := by decide +kernel
theorem dX4_addThing_36 : decode cX4_addThing 36 = .ok (.iload_n 2, 1) := by decide +kernel
theorem dX4_addThing_37 : decode cX4_addThing 37 = .ok (.iastore, 1) := by decide +kernel
theorem dX4_addThing_38 : decode cX4_addThing 38 = .ok (.aload_n 0, 1) := by decide +kernel
theorem dX4_addThing_39 : decode cX4_addThing 39 = .ok (.getfield 31, 3) := by decide +kernel
theorem dX4_addThing_42 : decode cX4_addThing 42 = .ok (.aload_n 0, 1) := by decide +kernel
theorem dX4_addThing_43 : decode cX4_addThing 43 = .ok (.getfield 34, 3) := by decide +kernel
theorem dX4_addThing_46 : decode cX4_addThing 46 = .ok (.iconst (-1), 1) := by decide +kernel
theorem dX4_addThing_47 : decode cX4_addThing 47 = .ok (.iastore, 1) := by decide +kernel
theorem dX4_addThing_48 : decode cX4_addThing 48 = .ok (.aload_n 0, 1) := by decide +kernel
theorem dX4_addThing_49 : decode cX4_addThing 49 = .ok (.dup, 1) := by decide +kernel
theorem dX4_addThing_50 : decode cX4_addThing 50 = .ok (.getfield 34, 3) := by decide +kernel
theorem dX4_addThing_53 : decode cX4_addThing 53 = .ok (.iconst 1, 1) := by decide +kernel
theorem dX4_addThing_54 : decode cX4_addThing 54 = .ok (.iadd, 1) := by decide +kernel
theorem dX4_addThing_55 : decode cX4_addThing 55 = .ok (.putfield 34, 3) := by decide +kernel
theorem dX4_addThing_58 : decode cX4_addThing 58 = .ok (.iconst 1, 1) := by decide +kernel
theorem dX4_addThing_59 : decode cX4_addThing 59 = .ok (.ireturn, 1) := by decide +kernel
theorem dX4_setOwner_0 : decode cX4_setOwner 0 = .ok (.aload_n 0, 1) := by decide +kernel
theorem dX4_setOwner_1 : decode cX4_setOwner 1 = .ok (.iload_n 1, 1) := by decide +kernel
theorem dX4_setOwner_2 : decode cX4_setOwner 2 = .ok (.invokevirtual 68, 3) := by decide +kernel
theorem dX4_setOwner_5 : decode cX4_setOwner 5 = .ok (.ifCond .eq 16, 3) := by decide +kernel
theorem dX4_setOwner_8 : decode cX4_setOwner 8 = .ok (.iload_n 2, 1) := by decide +kernel
theorem dX4_setOwner_9 : decode cX4_setOwner 9 = .ok (.iconst (-1), 1) := by decide +kernel
theorem dX4_setOwner_10 : decode cX4_setOwner 10 = .ok (.if_icmp .eq 13, 3) := by decide +kernel
theorem dX4_setOwner_13 : decode cX4_setOwner 13 = .ok (.aload_n 0, 1) := by decide +kernel
theorem dX4_setOwner_14 : decode cX4_setOwner 14 = .ok (.iload_n 2, 1) := by decide +kernel
theorem dX4_setOwner_15 : decode cX4_setOwner 15 = .ok (.invokevirtual 71, 3) := by decide +kernel
theorem dX4_setOwner_18 : decode cX4_setOwner 18 = .ok (.ifCond .ne 5, 3) := by decide +kernel
theorem dX4_setOwner_21 : decode cX4_setOwner 21 = .ok (.iconst 0, 1) := by decide +kernel
theorem dX4_setOwner_22 : decode cX4_setOwner 22 = .ok (.ireturn, 1) := by decide +kernel
theorem dX4_setOwner_23 : decode cX4_setOwner 23 = .ok (.aload_n 0, 1) := by decide +kernel
theorem dX4_setOwner_24 : decode cX4_setOwner 24 = .ok (.getfield 31, 3) := by decide +kernel
theorem dX4_setOwner_27 : decode cX4_setOwner 27 = .ok (.iload_n 1, 1) := by decide +kernel
theorem dX4_setOwner_28 : decode cX4_setOwner 28 = .ok (.iload_n 2, 1) := by decide +kernel
theorem dX4_setOwner_29 : decode cX4_setOwner 29 = .ok (.iastore, 1) := by decide +kernel
theorem dX4_setOwner_30 : decode cX4_setOwner 30 = .ok (.iconst 1, 1) := by decide +kernel
theorem dX4_setOwner_31 : decode cX4_setOwner 31 = .ok (.ireturn, 1) := by decide +kernel
theorem dX4_setPlace_0 : decode cX4_setPlace 0 = .ok (.aload_n 0, 1) := by decide +kernel
theorem dX4_setPlace_1 : decode cX4_setPlace 1 = .ok (.iload_n 1, 1) := by decide +kernel
theorem dX4_setPlace_2 : decode cX4_setPlace 2 = .ok (.invokevirtual 71, 3) := by decide +kernel
theorem dX4_setPlace_5 : decode cX4_setPlace 5 = .ok (.ifCond .eq 10, 3) := by decide +kernel
theorem dX4_setPlace_8 : decode cX4_setPlace 8 = .ok (.iload_n 2, 1) := by decide +kernel
theorem dX4_setPlace_9 : decode cX4_setPlace 9 = .ok (.invokestatic 64, 3) := by decide +kernel
theorem dX4_setPlace_12 : decode cX4_setPlace 12 = .ok (.ifCond .ne 5, 3) := by decide +kernel
theorem dX4_setPlace_15 : decode cX4_setPlace 15 = .ok (.iconst 0, 1) := by decide +kernel
theorem dX4_setPlace_16 : decode cX4_setPlace 16 = .ok (.ireturn, 1) := by decide +kernel
theorem dX4_setPlace_17 : decode cX4_setPlace 17 = .ok (.aload_n 0, 1) := by decide +kernel
theorem dX4_setPlace_18 : decode cX4_setPlace 18 = .ok (.getfield 46, 3) := by decide +kernel
theorem dX4_setPlace_21 : decode cX4_setPlace 21 = .ok (.iload_n 1, 1) := by decide +kernel
theorem dX4_setPlace_22 : decode cX4_setPlace 22 = .ok (.iload_n 2, 1) := by decide +kernel
theorem dX4_setPlace_23 : decode cX4_setPlace 23 = .ok (.iastore, 1) := by decide +kernel
theorem dX4_setPlace_24 : decode cX4_setPlace 24 = .ok (.iconst 1, 1) := by decide +kernel
theorem dX4_setPlace_25 : decode cX4_setPlace 25 = .ok (.ireturn, 1) := by decide +kernel
theorem dX4_goHome_0 : decode cX4_goHome 0 = .ok (.aload_n 0, 1) := by decide +kernel
theorem dX4_goHome_1 : decode cX4_goHome 1 = .ok (.iload_n 1, 1) := by decide +kernel
theorem dX4_goHome_2 : decode cX4_goHome 2 = .ok (.invokevirtual 71, 3) := by decide +kernel
theorem dX4_goHome_5 : decode cX4_goHome 5 = .ok (.ifCond .eq 15, 3) := by decide +kernel
theorem dX4_goHome_8 : decode cX4_goHome 8 = .ok (.aload_n 0, 1) := by decide +kernel
theorem dX4_goHome_9 : decode cX4_goHome 9 = .ok (.getfield 46, 3) := by decide +kernel
theorem dX4_goHome_12 : decode cX4_goHome 12 = .ok (.iload_n 1, 1) := by decide +kernel
theorem dX4_goHome_13 : decode cX4_goHome 13 = .ok (.aload_n 0, 1) := by decide +kernel
theorem dX4_goHome_14 : decode cX4_goHome 14 = .ok (.getfield 43, 3) := by decide +kernel
theorem dX4_goHome_17 : decode cX4_goHome 17 = .ok (.iload_n 1, 1) := by decide +kernel
theorem dX4_goHome_18 : decode cX4_goHome 18 = .ok (.iaload, 1) := by decide +kernel
theorem dX4_goHome_19 : decode cX4_goHome 19 = .ok (.iastore, 1) := by decide +kernel
theorem dX4_goHome_20 : decode cX4_goHome 20 = .ok (.return_, 1) := by decide +kernel
theorem dX4_dropFront_0 : decode cX4_dropFront 0 = .ok (.aload_n 0, 1) := by decide +kernel
theorem dX4_dropFront_1 : decode cX4_dropFront 1 = .ok (.iload_n 1, 1) := by decide +kernel
theorem dX4_dropFront_2 : decode cX4_dropFront 2 = .ok (.invokevirtual 74, 3) := by decide +kernel
theorem dX4_dropFront_5 : decode cX4_dropFront 5 = .ok (.ifCond .ne 4, 3) := by decide +kernel
theorem dX4_dropFront_8 : decode cX4_dropFront 8 = .ok (.return_, 1) := by decide +kernel
theorem dX4_dropFront_9 : decode cX4_dropFront 9 = .ok (.iload_n 1, 1) := by decide +kernel
theorem dX4_dropFront_10 : decode cX4_dropFront 10 = .ok (.iconst 1, 1) := by decide +kernel
theorem dX4_dropFront_11 : decode cX4_dropFront 11 = .ok (.iadd, 1) := by decide +kernel
theorem dX4_dropFront_12 : decode cX4_dropFront 12 = .ok (.istore_n 2, 1) := by decide +kernel
theorem dX4_dropFront_13 : decode cX4_dropFront 13 = .ok (.iload_n 2, 1) := by decide +kernel
theorem dX4_dropFront_14 : decode cX4_dropFront 14 = .ok (.aload_n 0, 1) := by decide +kernel
theorem dX4_dropFront_15 : decode cX4_dropFront 15 = .ok (.getfield 21, 3) := by decide +kernel
theorem dX4_dropFront_18 : decode cX4_dropFront 18 = .ok (.if_icmp .ge 51, 3) := by decide +kernel
theorem dX4_dropFront_21 : decode cX4_dropFront 21 = .ok (.aload_n 0, 1) := by decide +kernel
theorem dX4_dropFront_22 : decode cX4_dropFront 22 = .ok (.getfield 9, 3) := by decide +kernel
theorem dX4_dropFront_25 : decode cX4_dropFront 25 = .ok (.iload_n 2, 1) := by decide +kernel
theorem dX4_dropFront_26 : decode cX4_dropFront 26 = .ok (.iconst 1, 1) := by decide +kernel
theorem dX4_dropFront_27 : decode cX4_dropFront 27 = .ok (.isub, 1) := by decide +kernel
theorem dX4_dropFront_28 : decode cX4_dropFront 28 = .ok (.aload_n 0, 1) := by decide +kernel
theorem dX4_dropFront_29 : decode cX4_dropFront 29 = .ok (.getfield 9, 3) := by decide +kernel
theorem dX4_dropFront_32 : decode cX4_dropFront 32 = .ok (.iload_n 2, 1) := by decide +kernel
theorem dX4_dropFront_33 : decode cX4_dropFront 33 = .ok (.iaload, 1) := by decide +kernel
theorem dX4_dropFront_34 : decode cX4_dropFront 34 = .ok (.iastore, 1) := by decide +kernel
theorem dX4_dropFront_35 : decode cX4_dropFront 35 = .ok (.aload_n 0, 1) := by decide +kernel
theorem dX4_dropFront_36 : decode cX4_dropFront 36 = .ok (.getfield 15, 3) := by decide +kernel
theorem dX4_dropFront_39 : decode cX4_dropFront 39 = .ok (.iload_n 2, 1) := by decide +kernel
theorem dX4_dropFront_40 : decode cX4_dropFront 40 = .ok (.iconst 1, 1) := by decide +kernel
theorem dX4_dropFront_41 : decode cX4_dropFront 41 = .ok (.isub, 1) := by decide +kernel
theorem dX4_dropFront_42 : decode cX4_dropFront 42 = .ok (.aload_n 0, 1) := by decide +kernel
theorem dX4_dropFront_43 : decode cX4_dropFront 43 = .ok (.getfield 15, 3) := by decide +kernel
theorem dX4_dropFront_46 : decode cX4_dropFront 46 = .ok (.iload_n 2, 1) := by decide +kernel
theorem dX4_dropFront_47 : decode cX4_dropFront 47 = .ok (.iaload, 1) := by decide +kernel
theorem dX4_dropFront_48 : decode cX4_dropFront 48 = .ok (.iastore, 1) := by decide +kernel
theorem dX4_dropFront_49 : decode cX4_dropFront 49 = .ok (.aload_n 0, 1) := by decide +kernel
theorem dX4_dropFront_50 : decode cX4_dropFront 50 = .ok (.getfield 18, 3) := by decide +kernel
theorem dX4_dropFront_53 : decode cX4_dropFront 53 = .ok (.iload_n 2, 1) := by decide +kernel
theorem dX4_dropFront_54 : decode cX4_dropFront 54 = .ok (.iconst 1, 1) := by decide +kernel
theorem dX4_dropFront_55 : decode cX4_dropFront 55 = .ok (.isub, 1) := by decide +kernel
theorem dX4_dropFront_56 : decode cX4_dropFront 56 = .ok (.aload_n 0, 1) := by decide +kernel
theorem dX4_dropFront_57 : decode cX4_dropFront 57 = .ok (.getfield 18, 3) := by decide +kernel
theorem dX4_dropFront_60 : decode cX4_dropFront 60 = .ok (.iload_n 2, 1) := by decide +kernel
theorem dX4_dropFront_61 : decode cX4_dropFront 61 = .ok (.iaload, 1) := by decide +kernel
theorem dX4_dropFront_62 : decode cX4_dropFront 62 = .ok (.iastore, 1) := by decide +kernel
theorem dX4_dropFront_63 : decode cX4_dropFront 63 = .ok (.iinc 2 1, 3) := by decide +kernel
theorem dX4_dropFront_66 : decode cX4_dropFront 66 = .ok (.goto (-53), 3) := by decide +kernel
theorem dX4_dropFront_69 : decode cX4_dropFront 69 = .ok (.aload_n 0, 1) := by decide +kernel
theorem dX4_dropFront_70 : decode cX4_dropFront 70 = .ok (.dup, 1) := by decide +kernel
theorem dX4_dropFront_71 : decode cX4_dropFront 71 = .ok (.getfield 21, 3) := by decide +kernel
theorem dX4_dropFront_74 : decode cX4_dropFront 74 = .ok (.iconst 1, 1) := by decide +kernel
theorem dX4_dropFront_75 : decode cX4_dropFront 75 = .ok (.isub, 1) := by decide +kernel
theorem dX4_dropFront_76 : decode cX4_dropFront 76 = .ok (.putfield 21, 3) := by decide +kernel
theorem dX4_dropFront_79 : decode cX4_dropFront 79 = .ok (.return_, 1) := by decide +kernel
theorem dX4_change_0 : decode cX4_change 0 = .ok (.aload_n 0, 1) := by decide +kernel
theorem dX4_change_1 : decode cX4_change 1 = .ok (.iload_n 1, 1) := by decide +kernel
theorem dX4_change_2 : decode cX4_change 2 = .ok (.invokevirtual 71, 3) := by decide +kernel
theorem dX4_change_5 : decode cX4_change 5 = .ok (.ifCond .eq 11, 3) := by decide +kernel
theorem dX4_change_8 : decode cX4_change 8 = .ok (.aload_n 0, 1) := by decide +kernel
theorem dX4_change_9 : decode cX4_change 9 = .ok (.iload_n 2, 1) := by decide +kernel
theorem dX4_change_10 : decode cX4_change 10 = .ok (.invokevirtual 71, 3) := by decide +kernel
theorem dX4_change_13 : decode cX4_change 13 = .ok (.ifCond .ne 4, 3) := by decide +kernel
theorem dX4_change_16 : decode cX4_change 16 = .ok (.return_, 1) := by decide +kernel
theorem dX4_change_17 : decode cX4_change 17 = .ok (.aload_n 0, 1) := by decide +kernel
theorem dX4_change_18 : decode cX4_change 18 = .ok (.getfield 37, 3) := by decide +kernel
theorem dX4_change_21 : decode cX4_change 21 = .ok (.iload_n 1, 1) := by decide +kernel
theorem dX4_change_22 : decode cX4_change 22 = .ok (.iaload, 1) := by decide +kernel
theorem dX4_change_23 : decode cX4_change 23 = .ok (.istore_n 3, 1) := by decide +kernel
theorem dX4_change_24 : decode cX4_change 24 = .ok (.aload_n 0, 1) := by decide +kernel
theorem dX4_change_25 : decode cX4_change 25 = .ok (.getfield 40, 3) := by decide +kernel
theorem dX4_change_28 : decode cX4_change 28 = .ok (.iload_n 1, 1) := by decide +kernel
theorem dX4_change_29 : decode cX4_change 29 = .ok (.iaload, 1) := by decide +kernel
theorem dX4_change_30 : decode cX4_change 30 = .ok (.istore 4, 2) := by decide +kernel
theorem dX4_change_32 : decode cX4_change 32 = .ok (.aload_n 0, 1) := by decide +kernel
theorem dX4_change_33 : decode cX4_change 33 = .ok (.getfield 37, 3) := by decide +kernel
theorem dX4_change_36 : decode cX4_change 36 = .ok (.iload_n 1, 1) := by decide +kernel
theorem dX4_change_37 : decode cX4_change 37 = .ok (.aload_n 0, 1) := by decide +kernel
theorem dX4_change_38 : decode cX4_change 38 = .ok (.getfield 37, 3) := by decide +kernel
theorem dX4_change_41 : decode cX4_change 41 = .ok (.iload_n 2, 1) := by decide +kernel
theorem dX4_change_42 : decode cX4_change 42 = .ok (.iaload, 1) := by decide +kernel
theorem dX4_change_43 : decode cX4_change 43 = .ok (.iastore, 1) := by decide +kernel
theorem dX4_change_44 : decode cX4_change 44 = .ok (.aload_n 0, 1) := by decide +kernel
theorem dX4_change_45 : decode cX4_change 45 = .ok (.getfield 40, 3) := by decide +kernel
theorem dX4_change_48 : decode cX4_change 48 = .ok (.iload_n 1, 1) := by decide +kernel
theorem dX4_change_49 : decode cX4_change 49 = .ok (.aload_n 0, 1) := by decide +kernel
theorem dX4_change_50 : decode cX4_change 50 = .ok (.getfield 40, 3) := by decide +kernel
theorem dX4_change_53 : decode cX4_change 53 = .ok (.iload_n 2, 1) := by decide +kernel
theorem dX4_change_54 : decode cX4_change 54 = .ok (.iaload, 1) := by decide +kernel
theorem dX4_change_55 : decode cX4_change 55 = .ok (.iastore, 1) := by decide +kernel
theorem dX4_change_56 : decode cX4_change 56 = .ok (.aload_n 0, 1) := by decide +kernel
theorem dX4_change_57 : decode cX4_change 57 = .ok (.getfield 37, 3) := by decide +kernel
theorem dX4_change_60 : decode cX4_change 60 = .ok (.iload_n 2, 1) := by decide +kernel
theorem dX4_change_61 : decode cX4_change 61 = .ok (.iload_n 3, 1) := by decide +kernel
theorem dX4_change_62 : decode cX4_change 62 = .ok (.iastore, 1) := by decide +kernel
theorem dX4_change_63 : decode cX4_change 63 = .ok (.aload_n 0, 1) := by decide +kernel
theorem dX4_change_64 : decode cX4_change 64 = .ok (.getfield 40, 3) := by decide +kernel
theorem dX4_change_67 : decode cX4_change 67 = .ok (.iload_n 2, 1) := by decide +kernel
theorem dX4_change_68 : decode cX4_change 68 = .ok (.iload 4, 2) := by decide +kernel
theorem dX4_change_70 : decode cX4_change 70 = .ok (.iastore, 1) := by decide +kernel
theorem dX4_change_71 : decode cX4_change 71 = .ok (.return_, 1) := by decide +kernel
theorem dX4_worthsOf_0 : decode cX4_worthsOf 0 = .ok (.iconst 0, 1) := by decide +kernel
theorem dX4_worthsOf_1 : decode cX4_worthsOf 1 = .ok (.istore_n 2, 1) := by decide +kernel
theorem dX4_worthsOf_2 : decode cX4_worthsOf 2 = .ok (.iconst 0, 1) := by decide +kernel
theorem dX4_worthsOf_3 : decode cX4_worthsOf 3 = .ok (.istore_n 3, 1) := by decide +kernel
theorem dX4_worthsOf_4 : decode cX4_worthsOf 4 = .ok (.iload_n 3, 1) := by decide +kernel
theorem dX4_worthsOf_5 : decode cX4_worthsOf 5 = .ok (.aload_n 0, 1) := by decide +kernel
theorem dX4_worthsOf_6 : decode cX4_worthsOf 6 = .ok (.getfield 34, 3) := by decide +kernel
theorem dX4_worthsOf_9 : decode cX4_worthsOf 9 = .ok (.if_icmp .ge 28, 3) := by decide +kernel
theorem dX4_worthsOf_12 : decode cX4_worthsOf 12 = .ok (.aload_n 0, 1) := by decide +kernel
theorem dX4_worthsOf_13 : decode cX4_worthsOf 13 = .ok (.getfield 31, 3) := by decide +kernel
theorem dX4_worthsOf_16 : decode cX4_worthsOf 16 = .ok (.iload_n 3, 1) := by decide +kernel
theorem dX4_worthsOf_17 : decode cX4_worthsOf 17 = .ok (.iaload, 1) := by decide +kernel
theorem dX4_worthsOf_18 : decode cX4_worthsOf 18 = .ok (.iload_n 1, 1) := by decide +kernel
theorem dX4_worthsOf_19 : decode cX4_worthsOf 19 = .ok (.if_icmp .ne 12, 3) := by decide +kernel
theorem dX4_worthsOf_22 : decode cX4_worthsOf 22 = .ok (.iload_n 2, 1) := by decide +kernel
theorem dX4_worthsOf_23 : decode cX4_worthsOf 23 = .ok (.aload_n 0, 1) := by decide +kernel
theorem dX4_worthsOf_24 : decode cX4_worthsOf 24 = .ok (.getfield 25, 3) := by decide +kernel
theorem dX4_worthsOf_27 : decode cX4_worthsOf 27 = .ok (.iload_n 3, 1) := by decide +kernel
theorem dX4_worthsOf_28 : decode cX4_worthsOf 28 = .ok (.iaload, 1) := by decide +kernel
theorem dX4_worthsOf_29 : decode cX4_worthsOf 29 = .ok (.iadd, 1) := by decide +kernel
theorem dX4_worthsOf_30 : decode cX4_worthsOf 30 = .ok (.istore_n 2, 1) := by decide +kernel
theorem dX4_worthsOf_31 : decode cX4_worthsOf 31 = .ok (.iinc 3 1, 3) := by decide +kernel
theorem dX4_worthsOf_34 : decode cX4_worthsOf 34 = .ok (.goto (-30), 3) := by decide +kernel
theorem dX4_worthsOf_37 : decode cX4_worthsOf 37 = .ok (.iload_n 2, 1) := by decide +kernel
theorem dX4_worthsOf_38 : decode cX4_worthsOf 38 = .ok (.ireturn, 1) := by decide +kernel
theorem dX4_ownedWorths_0 : decode cX4_ownedWorths 0 = .ok (.iconst 0, 1) := by decide +kernel
theorem dX4_ownedWorths_1 : decode cX4_ownedWorths 1 = .ok (.istore_n 1, 1) := by decide +kernel
theorem dX4_ownedWorths_2 : decode cX4_ownedWorths 2 = .ok (.iconst 0, 1) := by decide +kernel
theorem dX4_ownedWorths_3 : decode cX4_ownedWorths 3 = .ok (.istore_n 2, 1) := by decide +kernel
theorem dX4_ownedWorths_4 : decode cX4_ownedWorths 4 = .ok (.iload_n 2, 1) := by decide +kernel
theorem dX4_ownedWorths_5 : decode cX4_ownedWorths 5 = .ok (.aload_n 0, 1) := by decide +kernel
theorem dX4_ownedWorths_6 : decode cX4_ownedWorths 6 = .ok (.getfield 34, 3) := by decide +kernel
theorem dX4_ownedWorths_9 : decode cX4_ownedWorths 9 = .ok (.if_icmp .ge 28, 3) := by decide +kernel
theorem dX4_ownedWorths_12 : decode cX4_ownedWorths 12 = .ok (.aload_n 0, 1) := by decide +kernel
theorem dX4_ownedWorths_13 : decode cX4_ownedWorths 13 = .ok (.getfield 31, 3) := by decide +kernel
theorem dX4_ownedWorths_16 : decode cX4_ownedWorths 16 = .ok (.iload_n 2, 1) := by decide +kernel
theorem dX4_ownedWorths_17 : decode cX4_ownedWorths 17 = .ok (.iaload, 1) := by decide +kernel
theorem dX4_ownedWorths_18 : decode cX4_ownedWorths 18 = .ok (.iconst (-1), 1) := by decide +kernel
theorem dX4_ownedWorths_19 : decode cX4_ownedWorths 19 = .ok (.if_icmp .eq 12, 3) := by decide +kernel
theorem dX4_ownedWorths_22 : decode cX4_ownedWorths 22 = .ok (.iload_n 1, 1) := by decide +kernel
theorem dX4_ownedWorths_23 : decode cX4_ownedWorths 23 = .ok (.aload_n 0, 1) := by decide +kernel
theorem dX4_ownedWorths_24 : decode cX4_ownedWorths 24 = .ok (.getfield 25, 3) := by decide +kernel
theorem dX4_ownedWorths_27 : decode cX4_ownedWorths 27 = .ok (.iload_n 2, 1) := by decide +kernel
theorem dX4_ownedWorths_28 : decode cX4_ownedWorths 28 = .ok (.iaload, 1) := by decide +kernel
theorem dX4_ownedWorths_29 : decode cX4_ownedWorths 29 = .ok (.iadd, 1) := by decide +kernel
theorem dX4_ownedWorths_30 : decode cX4_ownedWorths 30 = .ok (.istore_n 1, 1) := by decide +kernel
theorem dX4_ownedWorths_31 : decode cX4_ownedWorths 31 = .ok (.iinc 2 1, 3) := by decide +kernel
theorem dX4_ownedWorths_34 : decode cX4_ownedWorths 34 = .ok (.goto (-30), 3) := by decide +kernel
theorem dX4_ownedWorths_37 : decode cX4_ownedWorths 37 = .ok (.iload_n 1, 1) := by decide +kernel
theorem dX4_ownedWorths_38 : decode cX4_ownedWorths 38 = .ok (.ireturn, 1) := by decide +kernel
theorem dX4_nobodysThings_0 : decode cX4_nobodysThings 0 = .ok (.iconst 0, 1) := by decide +kernel
theorem dX4_nobodysThings_1 : decode cX4_nobodysThings 1 = .ok (.istore_n 1, 1) := by decide +kernel
theorem dX4_nobodysThings_2 : decode cX4_nobodysThings 2 = .ok (.iconst 0, 1) := by decide +kernel
theorem dX4_nobodysThings_3 : decode cX4_nobodysThings 3 = .ok (.istore_n 2, 1) := by decide +kernel
theorem dX4_nobodysThings_4 : decode cX4_nobodysThings 4 = .ok (.iload_n 2, 1) := by decide +kernel
theorem dX4_nobodysThings_5 : decode cX4_nobodysThings 5 = .ok (.aload_n 0, 1) := by decide +kernel
theorem dX4_nobodysThings_6 : decode cX4_nobodysThings 6 = .ok (.getfield 34, 3) := by decide +kernel
theorem dX4_nobodysThings_9 : decode cX4_nobodysThings 9 = .ok (.if_icmp .ge 25, 3) := by decide +kernel
theorem dX4_nobodysThings_12 : decode cX4_nobodysThings 12 = .ok (.aload_n 0, 1) := by decide +kernel
theorem dX4_nobodysThings_13 : decode cX4_nobodysThings 13 = .ok (.getfield 31, 3) := by decide +kernel
theorem dX4_nobodysThings_16 : decode cX4_nobodysThings 16 = .ok (.iload_n 2, 1) := by decide +kernel
theorem dX4_nobodysThings_17 : decode cX4_nobodysThings 17 = .ok (.iaload, 1) := by decide +kernel
theorem dX4_nobodysThings_18 : decode cX4_nobodysThings 18 = .ok (.iconst (-1), 1) := by decide +kernel
theorem dX4_nobodysThings_19 : decode cX4_nobodysThings 19 = .ok (.if_icmp .ne 9, 3) := by decide +kernel
theorem dX4_nobodysThings_22 : decode cX4_nobodysThings 22 = .ok (.iload_n 1, 1) := by decide +kernel
theorem dX4_nobodysThings_23 : decode cX4_nobodysThings 23 = .ok (.iconst 1, 1) := by decide +kernel
theorem dX4_nobodysThings_24 : decode cX4_nobodysThings 24 = .ok (.iload_n 2, 1) := by decide +kernel
theorem dX4_nobodysThings_25 : decode cX4_nobodysThings 25 = .ok (.ishl, 1) := by decide +kernel
theorem dX4_nobodysThings_26 : decode cX4_nobodysThings 26 = .ok (.ior, 1) := by decide +kernel
theorem dX4_nobodysThings_27 : decode cX4_nobodysThings 27 = .ok (.istore_n 1, 1) := by decide +kernel
theorem dX4_nobodysThings_28 : decode cX4_nobodysThings 28 = .ok (.iinc 2 1, 3) := by decide +kernel
theorem dX4_nobodysThings_31 : decode cX4_nobodysThings 31 = .ok (.goto (-27), 3) := by decide +kernel
theorem dX4_nobodysThings_34 : decode cX4_nobodysThings 34 = .ok (.iload_n 1, 1) := by decide +kernel
theorem dX4_nobodysThings_35 : decode cX4_nobodysThings 35 = .ok (.ireturn, 1) := by decide +kernel
theorem dX4_ownedThings_0 : decode cX4_ownedThings 0 = .ok (.aload_n 0, 1) := by decide +kernel
theorem dX4_ownedThings_1 : decode cX4_ownedThings 1 = .ok (.getfield 34, 3) := by decide +kernel
theorem dX4_ownedThings_4 : decode cX4_ownedThings 4 = .ok (.aload_n 0, 1) := by decide +kernel
theorem dX4_ownedThings_5 : decode cX4_ownedThings 5 = .ok (.invokevirtual 77, 3) := by decide +kernel
theorem dX4_ownedThings_8 : decode cX4_ownedThings 8 = .ok (.invokestatic 81, 3) := by decide +kernel
theorem dX4_ownedThings_11 : decode cX4_ownedThings 11 = .ok (.isub, 1) := by decide +kernel
theorem dX4_ownedThings_12 : decode cX4_ownedThings 12 = .ok (.ireturn, 1) := by decide +kernel
theorem dX4_peopleOn_0 : decode cX4_peopleOn 0 = .ok (.iconst 0, 1) := by decide +kernel
theorem dX4_peopleOn_1 : decode cX4_peopleOn 1 = .ok (.istore_n 2, 1) := by decide +kernel
theorem dX4_peopleOn_2 : decode cX4_peopleOn 2 = .ok (.iconst 0, 1) := by decide +kernel
theorem dX4_peopleOn_3 : decode cX4_peopleOn 3 = .ok (.istore_n 3, 1) := by decide +kernel
theorem dX4_peopleOn_4 : decode cX4_peopleOn 4 = .ok (.iload_n 3, 1) := by decide +kernel
theorem dX4_peopleOn_5 : decode cX4_peopleOn 5 = .ok (.aload_n 0, 1) := by decide +kernel
theorem dX4_peopleOn_6 : decode cX4_peopleOn 6 = .ok (.getfield 49, 3) := by decide +kernel
theorem dX4_peopleOn_9 : decode cX4_peopleOn 9 = .ok (.if_icmp .ge 25, 3) := by decide +kernel
theorem dX4_peopleOn_12 : decode cX4_peopleOn 12 = .ok (.aload_n 0, 1) := by decide +kernel
theorem dX4_peopleOn_13 : decode cX4_peopleOn 13 = .ok (.getfield 46, 3) := by decide +kernel
theorem dX4_peopleOn_16 : decode cX4_peopleOn 16 = .ok (.iload_n 3, 1) := by decide +kernel
theorem dX4_peopleOn_17 : decode cX4_peopleOn 17 = .ok (.iaload, 1) := by decide +kernel
theorem dX4_peopleOn_18 : decode cX4_peopleOn 18 = .ok (.iload_n 1, 1) := by decide +kernel
theorem dX4_peopleOn_19 : decode cX4_peopleOn 19 = .ok (.if_icmp .ne 9, 3) := by decide +kernel
theorem dX4_peopleOn_22 : decode cX4_peopleOn 22 = .ok (.iload_n 2, 1) := by decide +kernel
theorem dX4_peopleOn_23 : decode cX4_peopleOn 23 = .ok (.iconst 1, 1) := by decide +kernel
theorem dX4_peopleOn_24 : decode cX4_peopleOn 24 = .ok (.iload_n 3, 1) := by decide +kernel
theorem dX4_peopleOn_25 : decode cX4_peopleOn 25 = .ok (.ishl, 1) := by decide +kernel
theorem dX4_peopleOn_26 : decode cX4_peopleOn 26 = .ok (.ior, 1) := by decide +kernel
theorem dX4_peopleOn_27 : decode cX4_peopleOn 27 = .ok (.istore_n 2, 1) := by decide +kernel
theorem dX4_peopleOn_28 : decode cX4_peopleOn 28 = .ok (.iinc 3 1, 3) := by decide +kernel
theorem dX4_peopleOn_31 : decode cX4_peopleOn 31 = .ok (.goto (-27), 3) := by decide +kernel
theorem dX4_peopleOn_34 : decode cX4_peopleOn 34 = .ok (.iload_n 2, 1) := by decide +kernel
theorem dX4_peopleOn_35 : decode cX4_peopleOn 35 = .ok (.ireturn, 1) := by decide +kernel
theorem dX4_thingsOn_0 : decode cX4_thingsOn 0 = .ok (.iconst 0, 1) := by decide +kernel
theorem dX4_thingsOn_1 : decode cX4_thingsOn 1 = .ok (.istore_n 2, 1) := by decide +kernel
theorem dX4_thingsOn_2 : decode cX4_thingsOn 2 = .ok (.iconst 0, 1) := by decide +kernel
theorem dX4_thingsOn_3 : decode cX4_thingsOn 3 = .ok (.istore_n 3, 1) := by decide +kernel
theorem dX4_thingsOn_4 : decode cX4_thingsOn 4 = .ok (.iload_n 3, 1) := by decide +kernel
theorem dX4_thingsOn_5 : decode cX4_thingsOn 5 = .ok (.aload_n 0, 1) := by decide +kernel
theorem dX4_thingsOn_6 : decode cX4_thingsOn 6 = .ok (.getfield 34, 3) := by decide +kernel
theorem dX4_thingsOn_9 : decode cX4_thingsOn 9 = .ok (.if_icmp .ge 25, 3) := by decide +kernel
theorem dX4_thingsOn_12 : decode cX4_thingsOn 12 = .ok (.aload_n 0, 1) := by decide +kernel
theorem dX4_thingsOn_13 : decode cX4_thingsOn 13 = .ok (.getfield 28, 3) := by decide +kernel
theorem dX4_thingsOn_16 : decode cX4_thingsOn 16 = .ok (.iload_n 3, 1) := by decide +kernel
theorem dX4_thingsOn_17 : decode cX4_thingsOn 17 = .ok (.iaload, 1) := by decide +kernel
theorem dX4_thingsOn_18 : decode cX4_thingsOn 18 = .ok (.iload_n 1, 1) := by decide +kernel
theorem dX4_thingsOn_19 : decode cX4_thingsOn 19 = .ok (.if_icmp .ne 9, 3) := by decide +kernel
theorem dX4_thingsOn_22 : decode cX4_thingsOn 22 = .ok (.iload_n 2, 1) := by decide +kernel
theorem dX4_thingsOn_23 : decode cX4_thingsOn 23 = .ok (.iconst 1, 1) := by decide +kernel
theorem dX4_thingsOn_24 : decode cX4_thingsOn 24 = .ok (.iload_n 3, 1) := by decide +kernel
theorem dX4_thingsOn_25 : decode cX4_thingsOn 25 = .ok (.ishl, 1) := by decide +kernel
theorem dX4_thingsOn_26 : decode cX4_thingsOn 26 = .ok (.ior, 1) := by decide +kernel
theorem dX4_thingsOn_27 : decode cX4_thingsOn 27 = .ok (.istore_n 2, 1) := by decide +kernel
theorem dX4_thingsOn_28 : decode cX4_thingsOn 28 = .ok (.iinc 3 1, 3) := by decide +kernel
theorem dX4_thingsOn_31 : decode cX4_thingsOn 31 = .ok (.goto (-27), 3) := by decide +kernel
theorem dX4_thingsOn_34 : decode cX4_thingsOn 34 = .ok (.iload_n 2, 1) := by decide +kernel
theorem dX4_thingsOn_35 : decode cX4_thingsOn 35 = .ok (.ireturn, 1) := by decide +kernel
theorem dX5_init_0 : decode cX5_init 0 = .ok (.aload_n 0, 1) := by decide +kernel
theorem dX5_init_1 : decode cX5_init 1 = .ok (.invokespecial 1, 3) := by decide +kernel
theorem dX5_init_4 : decode cX5_init 4 = .ok (.aload_n 0, 1) := by decide +kernel
theorem dX5_init_5 : decode cX5_init 5 = .ok (.new 7, 3) := by decide +kernel
theorem dX5_init_8 : decode cX5_init 8 = .ok (.dup, 1) := by decide +kernel
theorem dX5_init_9 : decode cX5_init 9 = .ok (.invokespecial 9, 3) := by decide +kernel
theorem dX5_init_12 : decode cX5_init 12 = .ok (.putfield 10, 3) := by decide +kernel
theorem dX5_init_15 : decode cX5_init 15 = .ok (.aload_n 0, 1) := by decide +kernel
theorem dX5_init_16 : decode cX5_init 16 = .ok (.new 7, 3) := by decide +kernel
theorem dX5_init_19 : decode cX5_init 19 = .ok (.dup, 1) := by decide +kernel
theorem dX5_init_20 : decode cX5_init 20 = .ok (.invokespecial 9, 3) := by decide +kernel
theorem dX5_init_23 : decode cX5_init 23 = .ok (.putfield 16, 3) := by decide +kernel
theorem dX5_init_26 : decode cX5_init 26 = .ok (.aload_n 0, 1) := by decide +kernel
theorem dX5_init_27 : decode cX5_init 27 = .ok (.iconst 0, 1) := by decide +kernel
theorem dX5_init_28 : decode cX5_init 28 = .ok (.putfield 19, 3) := by decide +kernel
theorem dX5_init_31 : decode cX5_init 31 = .ok (.aload_n 0, 1) := by decide +kernel
theorem dX5_init_32 : decode cX5_init 32 = .ok (.bipush 8, 2) := by decide +kernel
theorem dX5_init_34 : decode cX5_init 34 = .ok (.anewarray 7, 3) := by decide +kernel
theorem dX5_init_37 : decode cX5_init 37 = .ok (.putfield 23, 3) := by decide +kernel
theorem dX5_init_40 : decode cX5_init 40 = .ok (.aload_n 0, 1) := by decide +kernel
theorem dX5_init_41 : decode cX5_init 41 = .ok (.iconst 0, 1) := by decide +kernel
theorem dX5_init_42 : decode cX5_init 42 = .ok (.putfield 27, 3) := by decide +kernel
theorem dX5_init_45 : decode cX5_init 45 = .ok (.aload_n 0, 1) := by decide +kernel
theorem dX5_init_46 : decode cX5_init 46 = .ok (.bipush 96, 2) := by decide +kernel
theorem dX5_init_48 : decode cX5_init 48 = .ok (.newarray .int, 2) := by decide +kernel
theorem dX5_init_50 : decode cX5_init 50 = .ok (.putfield 31, 3) := by decide +kernel
theorem dX5_init_53 : decode cX5_init 53 = .ok (.aload_n 0, 1) := by decide +kernel
theorem dX5_init_54 : decode cX5_init 54 = .ok (.iconst 0, 1) := by decide +kernel
theorem dX5_init_55 : decode cX5_init 55 = .ok (.putfield 35, 3) := by decide +kernel
theorem dX5_init_58 : decode cX5_init 58 = .ok (.aload_n 0, 1) := by decide +kernel
theorem dX5_init_59 : decode cX5_init 59 = .ok (.bipush 12, 2) := by decide +kernel
theorem dX5_init_61 : decode cX5_init 61 = .ok (.newarray .int, 2) := by decide +kernel
theorem dX5_init_63 : decode cX5_init 63 = .ok (.putfield 38, 3) := by decide +kernel
theorem dX5_init_66 : decode cX5_init 66 = .ok (.aload_n 0, 1) := by decide +kernel
theorem dX5_init_67 : decode cX5_init 67 = .ok (.iconst 0, 1) := by decide +kernel
theorem dX5_init_68 : decode cX5_init 68 = .ok (.putfield 41, 3) := by decide +kernel
theorem dX5_init_71 : decode cX5_init 71 = .ok (.aload_n 0, 1) := by decide +kernel
theorem dX5_init_72 : decode cX5_init 72 = .ok (.bipush 7, 2) := by decide +kernel
theorem dX5_init_74 : decode cX5_init 74 = .ok (.newarray .int, 2) := by decide +kernel
theorem dX5_init_76 : decode cX5_init 76 = .ok (.putfield 44, 3) := by decide +kernel
theorem dX5_init_79 : decode cX5_init 79 = .ok (.aload_n 0, 1) := by decide +kernel
theorem dX5_init_80 : decode cX5_init 80 = .ok (.new 47, 3) := by decide +kernel
theorem dX5_init_83 : decode cX5_init 83 = .ok (.dup, 1) := by decide +kernel
theorem dX5_init_84 : decode cX5_init 84 = .ok (.invokespecial 49, 3) := by decide +kernel
theorem dX5_init_87 : decode cX5_init 87 = .ok (.putfield 50, 3) := by decide +kernel
theorem dX5_init_90 : decode cX5_init 90 = .ok (.aload_n 0, 1) := by decide +kernel
theorem dX5_init_91 : decode cX5_init 91 = .ok (.iconst 4, 1) := by decide +kernel
theorem dX5_init_92 : decode cX5_init 92 = .ok (.newarray .int, 2) := by decide +kernel
theorem dX5_init_94 : decode cX5_init 94 = .ok (.putfield 54, 3) := by decide +kernel
theorem dX5_init_97 : decode cX5_init 97 = .ok (.aload_n 0, 1) := by decide +kernel
theorem dX5_init_98 : decode cX5_init 98 = .ok (.iconst 4, 1) := by decide +kernel
theorem dX5_init_99 : decode cX5_init 99 = .ok (.newarray .int, 2) := by decide +kernel
theorem dX5_init_101 : decode cX5_init 101 = .ok (.putfield 57, 3) := by decide +kernel
theorem dX5_init_104 : decode cX5_init 104 = .ok (.iconst 0, 1) := by decide +kernel
theorem dX5_init_105 : decode cX5_init 105 = .ok (.istore_n 1, 1) := by decide +kernel
theorem dX5_init_106 : decode cX5_init 106 = .ok (.iload_n 1, 1) := by decide +kernel
theorem dX5_init_107 : decode cX5_init 107 = .ok (.bipush 8, 2) := by decide +kernel
theorem dX5_init_109 : decode cX5_init 109 = .ok (.if_icmp .ge 22, 3) := by decide +kernel
theorem dX5_init_112 : decode cX5_init 112 = .ok (.aload_n 0, 1) := by decide +kernel
theorem dX5_init_113 : decode cX5_init 113 = .ok (.getfield 23, 3) := by decide +kernel
theorem dX5_init_116 : decode cX5_init 116 = .ok (.iload_n 1, 1) := by decide +kernel
theorem dX5_init_117 : decode cX5_init 117 = .ok (.new 7, 3) := by decide +kernel
theorem dX5_init_120 : decode cX5_init 120 = .ok (.dup, 1) := by decide +kernel
theorem dX5_init_121 : decode cX5_init 121 = .ok (.invokespecial 9, 3) := by decide +kernel
theorem dX5_init_124 : decode cX5_init 124 = .ok (.aastore, 1) := by decide +kernel
theorem dX5_init_125 : decode cX5_init 125 = .ok (.iinc 1 1, 3) := by decide +kernel
theorem dX5_init_128 : decode cX5_init 128 = .ok (.goto (-22), 3) := by decide +kernel
theorem dX5_init_131 : decode cX5_init 131 = .ok (.return_, 1) := by decide +kernel
theorem dX5_feed_0 : decode cX5_feed 0 = .ok (.iload_n 1, 1) := by decide +kernel
theorem dX5_feed_1 : decode cX5_feed 1 = .ok (.ifCond .ge 10, 3) := by decide +kernel
theorem dX5_feed_4 : decode cX5_feed 4 = .ok (.aload_n 0, 1) := by decide +kernel
theorem dX5_feed_5 : decode cX5_feed 5 = .ok (.bipush (-4), 2) := by decide +kernel
theorem dX5_feed_7 : decode cX5_feed 7 = .ok (.invokevirtual 60, 3) := by decide +kernel
theorem dX5_feed_10 : decode cX5_feed 10 = .ok (.ireturn, 1) := by decide +kernel
theorem dX5_feed_11 : decode cX5_feed 11 = .ok (.iload_n 1, 1) := by decide +kernel
theorem dX5_feed_12 : decode cX5_feed 12 = .ok (.sipush 255, 3) := by decide +kernel
theorem dX5_feed_15 : decode cX5_feed 15 = .ok (.if_icmp .gt 12, 3) := by decide +kernel
theorem dX5_feed_18 : decode cX5_feed 18 = .ok (.aload_n 0, 1) := by decide +kernel
theorem dX5_feed_19 : decode cX5_feed 19 = .ok (.getfield 35, 3) := by decide +kernel
theorem dX5_feed_22 : decode cX5_feed 22 = .ok (.bipush 96, 2) := by decide +kernel
theorem dX5_feed_24 : decode cX5_feed 24 = .ok (.if_icmp .lt 10, 3) := by decide +kernel
theorem dX5_feed_27 : decode cX5_feed 27 = .ok (.aload_n 0, 1) := by decide +kernel
theorem dX5_feed_28 : decode cX5_feed 28 = .ok (.bipush (-6), 2) := by decide +kernel
theorem dX5_feed_30 : decode cX5_feed 30 = .ok (.invokevirtual 60, 3) := by decide +kernel
theorem dX5_feed_33 : decode cX5_feed 33 = .ok (.ireturn, 1) := by decide +kernel
theorem dX5_feed_34 : decode cX5_feed 34 = .ok (.aload_n 0, 1) := by decide +kernel
theorem dX5_feed_35 : decode cX5_feed 35 = .ok (.getfield 31, 3) := by decide +kernel
theorem dX5_feed_38 : decode cX5_feed 38 = .ok (.aload_n 0, 1) := by decide +kernel
theorem dX5_feed_39 : decode cX5_feed 39 = .ok (.getfield 35, 3) := by decide +kernel
theorem dX5_feed_42 : decode cX5_feed 42 = .ok (.iload_n 1, 1) := by decide +kernel
theorem dX5_feed_43 : decode cX5_feed 43 = .ok (.iastore, 1) := by decide +kernel
theorem dX5_feed_44 : decode cX5_feed 44 = .ok (.aload_n 0, 1) := by decide +kernel
theorem dX5_feed_45 : decode cX5_feed 45 = .ok (.dup, 1) := by decide +kernel
theorem dX5_feed_46 : decode cX5_feed 46 = .ok (.getfield 35, 3) := by decide +kernel
theorem dX5_feed_49 : decode cX5_feed 49 = .ok (.iconst 1, 1) := by decide +kernel
theorem dX5_feed_50 : decode cX5_feed 50 = .ok (.iadd, 1) := by decide +kernel
theorem dX5_feed_51 : decode cX5_feed 51 = .ok (.putfield 35, 3) := by decide +kernel
theorem dX5_feed_54 : decode cX5_feed 54 = .ok (.aload_n 0, 1) := by decide +kernel
theorem dX5_feed_55 : decode cX5_feed 55 = .ok (.getfield 35, 3) := by decide +kernel
theorem dX5_feed_58 : decode cX5_feed 58 = .ok (.ireturn, 1) := by decide +kernel
theorem dX5_coast_0 : decode cX5_coast 0 = .ok (.aload_n 0, 1) := by decide +kernel
theorem dX5_coast_1 : decode cX5_coast 1 = .ok (.getfield 35, 3) := by decide +kernel
theorem dX5_coast_4 : decode cX5_coast 4 = .ok (.istore_n 1, 1) := by decide +kernel
theorem dX5_coast_5 : decode cX5_coast 5 = .ok (.aload_n 0, 1) := by decide +kernel
theorem dX5_coast_6 : decode cX5_coast 6 = .ok (.iconst 0, 1) := by decide +kernel
theorem dX5_coast_7 : decode cX5_coast 7 = .ok (.putfield 35, 3) := by decide +kernel
theorem dX5_coast_10 : decode cX5_coast 10 = .ok (.aload_n 0, 1) := by decide +kernel
theorem dX5_coast_11 : decode cX5_coast 11 = .ok (.iload_n 1, 1) := by decide +kernel
theorem dX5_coast_12 : decode cX5_coast 12 = .ok (.invokevirtual 64, 3) := by decide +kernel
theorem dX5_coast_15 : decode cX5_coast 15 = .ok (.istore_n 2, 1) := by decide +kernel
theorem dX5_coast_16 : decode cX5_coast 16 = .ok (.iload_n 2, 1) := by decide +kernel
theorem dX5_coast_17 : decode cX5_coast 17 = .ok (.iconst (-1), 1) := by decide +kernel
theorem dX5_coast_18 : decode cX5_coast 18 = .ok (.if_icmp .eq 9, 3) := by decide +kernel
theorem dX5_coast_21 : decode cX5_coast 21 = .ok (.sipush (-1000), 3) := by decide +kernel
theorem dX5_coast_24 : decode cX5_coast 24 = .ok (.iload_n 2, 1) := by decide +kernel
theorem dX5_coast_25 : decode cX5_coast 25 = .ok (.isub, 1) := by decide +kernel
theorem dX5_coast_26 : decode cX5_coast 26 = .ok (.ireturn, 1) := by decide +kernel
theorem dX5_coast_27 : decode cX5_coast 27 = .ok (.aload_n 0, 1) := by decide +kernel
theorem dX5_coast_28 : decode cX5_coast 28 = .ok (.getfield 50, 3) := by decide +kernel
theorem dX5_coast_31 : decode cX5_coast 31 = .ok (.aload_n 0, 1) := by decide +kernel
theorem dX5_coast_32 : decode cX5_coast 32 = .ok (.getfield 10, 3) := by decide +kernel
theorem dX5_coast_35 : decode cX5_coast 35 = .ok (.invokevirtual 67, 3) := by decide +kernel
theorem dX5_coast_38 : decode cX5_coast 38 = .ok (.iconst 0, 1) := by decide +kernel
theorem dX5_coast_39 : decode cX5_coast 39 = .ok (.istore_n 3, 1) := by decide +kernel
theorem dX5_coast_40 : decode cX5_coast 40 = .ok (.iconst 0, 1) := by decide +kernel
theorem dX5_coast_41 : decode cX5_coast 41 = .ok (.istore 4, 2) := by decide +kernel
theorem dX5_coast_43 : decode cX5_coast 43 = .ok (.iload 4, 2) := by decide +kernel
theorem dX5_coast_45 : decode cX5_coast 45 = .ok (.iload_n 1, 1) := by decide +kernel
theorem dX5_coast_46 : decode cX5_coast 46 = .ok (.if_icmp .ge 41, 3) := by decide +kernel
theorem dX5_coast_49 : decode cX5_coast 49 = .ok (.aload_n 0, 1) := by decide +kernel
theorem dX5_coast_50 : decode cX5_coast 50 = .ok (.iload 4, 2) := by decide +kernel
theorem dX5_coast_52 : decode cX5_coast 52 = .ok (.invokevirtual 71, 3) := by decide +kernel
theorem dX5_coast_55 : decode cX5_coast 55 = .ok (.ifCond .ne 10, 3) := by decide +kernel
theorem dX5_coast_58 : decode cX5_coast 58 = .ok (.sipush (-2000), 3) := by decide +kernel
theorem dX5_coast_61 : decode cX5_coast 61 = .ok (.iload 4, 2) := by decide +kernel
theorem dX5_coast_63 : decode cX5_coast 63 = .ok (.isub, 1) := by decide +kernel
theorem dX5_coast_64 : decode cX5_coast 64 = .ok (.ireturn, 1) := by decide +kernel
theorem dX5_coast_65 : decode cX5_coast 65 = .ok (.iinc 3 1, 3) := by decide +kernel
theorem dX5_coast_68 : decode cX5_coast 68 = .ok (.iload 4, 2) := by decide +kernel
theorem dX5_coast_70 : decode cX5_coast 70 = .ok (.aload_n 0, 1) := by decide +kernel
theorem dX5_coast_71 : decode cX5_coast 71 = .ok (.iload 4, 2) := by decide +kernel
theorem dX5_coast_73 : decode cX5_coast 73 = .ok (.invokevirtual 75, 3) := by decide +kernel
theorem dX5_coast_76 : decode cX5_coast 76 = .ok (.invokestatic 78, 3) := by decide +kernel
theorem dX5_coast_79 : decode cX5_coast 79 = .ok (.iconst 2, 1) := by decide +kernel
theorem dX5_coast_80 : decode cX5_coast 80 = .ok (.iadd, 1) := by decide +kernel
theorem dX5_coast_81 : decode cX5_coast 81 = .ok (.iadd, 1) := by decide +kernel
theorem dX5_coast_82 : decode cX5_coast 82 = .ok (.istore 4, 2) := by decide +kernel
theorem dX5_coast_84 : decode cX5_coast 84 = .ok (.goto (-41), 3) := by decide +kernel
theorem dX5_coast_87 : decode cX5_coast 87 = .ok (.aload_n 0, 1) := by decide +kernel
theorem dX5_coast_88 : decode cX5_coast 88 = .ok (.getfield 10, 3) := by decide +kernel
theorem dX5_coast_91 : decode cX5_coast 91 = .ok (.aload_n 0, 1) := by decide +kernel
theorem dX5_coast_92 : decode cX5_coast 92 = .ok (.getfield 50, 3) := by decide +kernel
theorem dX5_coast_95 : decode cX5_coast 95 = .ok (.getfield 81, 3) := by decide +kernel
theorem dX5_coast_98 : decode cX5_coast 98 = .ok (.invokevirtual 84, 3) := by decide +kernel
theorem dX5_coast_101 : decode cX5_coast 101 = .ok (.aload_n 0, 1) := by decide +kernel
theorem dX5_coast_102 : decode cX5_coast 102 = .ok (.iconst 0, 1) := by decide +kernel
theorem dX5_coast_103 : decode cX5_coast 103 = .ok (.putfield 27, 3) := by decide +kernel
theorem dX5_coast_106 : decode cX5_coast 106 = .ok (.iload_n 3, 1) := by decide +kernel
theorem dX5_coast_107 : decode cX5_coast 107 = .ok (.ireturn, 1) := by decide +kernel
theorem dX5_wrongLetter_0 : decode cX5_wrongLetter 0 = .ok (.iload_n 1, 1) := by decide +kernel
theorem dX5_wrongLetter_1 : decode cX5_wrongLetter 1 = .ok (.ifCond .ne 5, 3) := by decide +kernel
theorem dX5_wrongLetter_4 : decode cX5_wrongLetter 4 = .ok (.iconst 0, 1) := by decide +kernel
theorem dX5_wrongLetter_5 : decode cX5_wrongLetter 5 = .ok (.ireturn, 1) := by decide +kernel
theorem dX5_wrongLetter_6 : decode cX5_wrongLetter 6 = .ok (.iconst 0, 1) := by decide +kernel
theorem dX5_wrongLetter_7 : decode cX5_wrongLetter 7 = .ok (.istore_n 2, 1) := by decide +kernel
theorem dX5_wrongLetter_8 : decode cX5_wrongLetter 8 = .ok (.iload_n 2, 1) := by decide +kernel
theorem dX5_wrongLetter_9 : decode cX5_wrongLetter 9 = .ok (.iload_n 1, 1) := by decide +kernel
theorem dX5_wrongLetter_10 : decode cX5_wrongLetter 10 = .ok (.if_icmp .ge 99, 3) := by decide +kernel
theorem dX5_wrongLetter_13 : decode cX5_wrongLetter 13 = .ok (.aload_n 0, 1) := by decide +kernel
theorem dX5_wrongLetter_14 : decode cX5_wrongLetter 14 = .ok (.iload_n 2, 1) := by decide +kernel
theorem dX5_wrongLetter_15 : decode cX5_wrongLetter 15 = .ok (.invokevirtual 75, 3) := by decide +kernel
theorem dX5_wrongLetter_18 : decode cX5_wrongLetter 18 = .ok (.invokestatic 78, 3) := by decide +kernel
theorem dX5_wrongLetter_21 : decode cX5_wrongLetter 21 = .ok (.istore_n 3, 1) := by decide +kernel
theorem dX5_wrongLetter_22 : decode cX5_wrongLetter 22 = .ok (.iload_n 3, 1) := by decide +kernel
theorem dX5_wrongLetter_23 : decode cX5_wrongLetter 23 = .ok (.ifCond .gt 5, 3) := by decide +kernel
theorem dX5_wrongLetter_26 : decode cX5_wrongLetter 26 = .ok (.iload_n 2, 1) := by decide +kernel
theorem dX5_wrongLetter_27 : decode cX5_wrongLetter 27 = .ok (.ireturn, 1) := by decide +kernel
theorem dX5_wrongLetter_28 : decode cX5_wrongLetter 28 = .ok (.iconst 1, 1) := by decide +kernel
theorem dX5_wrongLetter_29 : decode cX5_wrongLetter 29 = .ok (.istore 4, 2) := by decide +kernel
theorem dX5_wrongLetter_31 : decode cX5_wrongLetter 31 = .ok (.iload 4, 2) := by decide +kernel
theorem dX5_wrongLetter_33 : decode cX5_wrongLetter 33 = .ok (.iload_n 3, 1) := by decide +kernel
theorem dX5_wrongLetter_34 : decode cX5_wrongLetter 34 = .ok (.if_icmp .gt 38, 3) := by decide +kernel
theorem dX5_wrongLetter_37 : decode cX5_wrongLetter 37 = .ok (.iload_n 2, 1) := by decide +kernel
theorem dX5_wrongLetter_38 : decode cX5_wrongLetter 38 = .ok (.iload 4, 2) := by decide +kernel
theorem dX5_wrongLetter_40 : decode cX5_wrongLetter 40 = .ok (.iadd, 1) := by decide +kernel
theorem dX5_wrongLetter_41 : decode cX5_wrongLetter 41 = .ok (.iload_n 1, 1) := by decide +kernel
theorem dX5_wrongLetter_42 : decode cX5_wrongLetter 42 = .ok (.if_icmp .lt 5, 3) := by decide +kernel
theorem dX5_wrongLetter_45 : decode cX5_wrongLetter 45 = .ok (.iload_n 1, 1) := by decide +kernel
theorem dX5_wrongLetter_46 : decode cX5_wrongLetter 46 = .ok (.ireturn, 1) := by decide +kernel
theorem dX5_wrongLetter_47 : decode cX5_wrongLetter 47 = .ok (.aload_n 0, 1) := by decide +kernel
theorem dX5_wrongLetter_48 : decode cX5_wrongLetter 48 = .ok (.iload_n 2, 1) := by decide +kernel
theorem dX5_wrongLetter_49 : decode cX5_wrongLetter 49 = .ok (.iload 4, 2) := by decide +kernel
theorem dX5_wrongLetter_51 : decode cX5_wrongLetter 51 = .ok (.iadd, 1) := by decide +kernel
theorem dX5_wrongLetter_52 : decode cX5_wrongLetter 52 = .ok (.invokevirtual 75, 3) := by decide +kernel
theorem dX5_wrongLetter_55 : decode cX5_wrongLetter 55 = .ok (.invokestatic 87, 3) := by decide +kernel
theorem dX5_wrongLetter_58 : decode cX5_wrongLetter 58 = .ok (.ifCond .ne 8, 3) := by decide +kernel
theorem dX5_wrongLetter_61 : decode cX5_wrongLetter 61 = .ok (.iload_n 2, 1) := by decide +kernel
theorem dX5_wrongLetter_62 : decode cX5_wrongLetter 62 = .ok (.iload 4, 2) := by decide +kernel
theorem dX5_wrongLetter_64 : decode cX5_wrongLetter 64 = .ok (.iadd, 1) := by decide +kernel
theorem dX5_wrongLetter_65 : decode cX5_wrongLetter 65 = .ok (.ireturn, 1) := by decide +kernel
theorem dX5_wrongLetter_66 : decode cX5_wrongLetter 66 = .ok (.iinc 4 1, 3) := by decide +kernel
theorem dX5_wrongLetter_69 : decode cX5_wrongLetter 69 = .ok (.goto (-38), 3) := by decide +kernel
theorem dX5_wrongLetter_72 : decode cX5_wrongLetter 72 = .ok (.iload_n 2, 1) := by decide +kernel
theorem dX5_wrongLetter_73 : decode cX5_wrongLetter 73 = .ok (.iload_n 3, 1) := by decide +kernel
theorem dX5_wrongLetter_74 : decode cX5_wrongLetter 74 = .ok (.iadd, 1) := by decide +kernel
theorem dX5_wrongLetter_75 : decode cX5_wrongLetter 75 = .ok (.iconst 1, 1) := by decide +kernel
theorem dX5_wrongLetter_76 : decode cX5_wrongLetter 76 = .ok (.iadd, 1) := by decide +kernel
theorem dX5_wrongLetter_77 : decode cX5_wrongLetter 77 = .ok (.istore 4, 2) := by decide +kernel
theorem dX5_wrongLetter_79 : decode cX5_wrongLetter 79 = .ok (.iload 4, 2) := by decide +kernel
theorem dX5_wrongLetter_81 : decode cX5_wrongLetter 81 = .ok (.iload_n 1, 1) := by decide +kernel
theorem dX5_wrongLetter_82 : decode cX5_wrongLetter 82 = .ok (.if_icmp .lt 5, 3) := by decide +kernel
theorem dX5_wrongLetter_85 : decode cX5_wrongLetter 85 = .ok (.iload_n 1, 1) := by decide +kernel
theorem dX5_wrongLetter_86 : decode cX5_wrongLetter 86 = .ok (.ireturn, 1) := by decide +kernel
theorem dX5_wrongLetter_87 : decode cX5_wrongLetter 87 = .ok (.aload_n 0, 1) := by decide +kernel
theorem dX5_wrongLetter_88 : decode cX5_wrongLetter 88 = .ok (.iload 4, 2) := by decide +kernel
theorem dX5_wrongLetter_90 : decode cX5_wrongLetter 90 = .ok (.invokevirtual 75, 3) := by decide +kernel
theorem dX5_wrongLetter_93 : decode cX5_wrongLetter 93 = .ok (.bipush 59, 2) := by decide +kernel
theorem dX5_wrongLetter_95 : decode cX5_wrongLetter 95 = .ok (.if_icmp .eq 6, 3) := by decide +kernel
theorem dX5_wrongLetter_98 : decode cX5_wrongLetter 98 = .ok (.iload 4, 2) := by decide +kernel
theorem dX5_wrongLetter_100 : decode cX5_wrongLetter 100 = .ok (.ireturn, 1) := by decide +kernel
theorem dX5_wrongLetter_101 : decode cX5_wrongLetter 101 = .ok (.iload 4, 2) := by decide +kernel
theorem dX5_wrongLetter_103 : decode cX5_wrongLetter 103 = .ok (.iconst 1, 1) := by decide +kernel
theorem dX5_wrongLetter_104 : decode cX5_wrongLetter 104 = .ok (.iadd, 1) := by decide +kernel
theorem dX5_wrongLetter_105 : decode cX5_wrongLetter 105 = .ok (.istore_n 2, 1) := by decide +kernel
theorem dX5_wrongLetter_106 : decode cX5_wrongLetter 106 = .ok (.goto (-98), 3) := by decide +kernel
theorem dX5_wrongLetter_109 : decode cX5_wrongLetter 109 = .ok (.iconst (-1), 1) := by decide +kernel
theorem dX5_wrongLetter_110 : decode cX5_wrongLetter 110 = .ok (.ireturn, 1) := by decide +kernel
theorem dX5_letterAt_0 : decode cX5_letterAt 0 = .ok (.iload_n 1, 1) := by decide +kernel
theorem dX5_letterAt_1 : decode cX5_letterAt 1 = .ok (.ifCond .lt 18, 3) := by decide +kernel
theorem dX5_letterAt_4 : decode cX5_letterAt 4 = .ok (.iload_n 1, 1) := by decide +kernel
theorem dX5_letterAt_5 : decode cX5_letterAt 5 = .ok (.bipush 96, 2) := by decide +kernel
theorem dX5_letterAt_7 : decode cX5_letterAt 7 = .ok (.if_icmp .ge 12, 3) := by decide +kernel
theorem dX5_letterAt_10 : decode cX5_letterAt 10 = .ok (.aload_n 0, 1) := by decide +kernel
theorem dX5_letterAt_11 : decode cX5_letterAt 11 = .ok (.getfield 31, 3) := by decide +kernel
theorem dX5_letterAt_14 : decode cX5_letterAt 14 = .ok (.iload_n 1, 1) := by decide +kernel
theorem dX5_letterAt_15 : decode cX5_letterAt 15 = .ok (.iaload, 1) := by decide +kernel
theorem dX5_letterAt_16 : decode cX5_letterAt 16 = .ok (.goto 4, 3) := by decide +kernel
theorem dX5_letterAt_19 : decode cX5_letterAt 19 = .ok (.iconst 0, 1) := by decide +kernel
theorem dX5_letterAt_20 : decode cX5_letterAt 20 = .ok (.ireturn, 1) := by decide +kernel
theorem dX5_isDigit_0 : decode cX5_isDigit 0 = .ok (.iload_n 0, 1) := by decide +kernel
theorem dX5_isDigit_1 : decode cX5_isDigit 1 = .ok (.bipush 48, 2) := by decide +kernel
theorem dX5_isDigit_3 : decode cX5_isDigit 3 = .ok (.if_icmp .lt 13, 3) := by decide +kernel
theorem dX5_isDigit_6 : decode cX5_isDigit 6 = .ok (.iload_n 0, 1) := by decide +kernel
theorem dX5_isDigit_7 : decode cX5_isDigit 7 = .ok (.bipush 57, 2) := by decide +kernel
theorem dX5_isDigit_9 : decode cX5_isDigit 9 = .ok (.if_icmp .gt 7, 3) := by decide +kernel
theorem dX5_isDigit_12 : decode cX5_isDigit 12 = .ok (.iconst 1, 1) := by decide +kernel
theorem dX5_isDigit_13 : decode cX5_isDigit 13 = .ok (.goto 4, 3) := by decide +kernel
theorem dX5_isDigit_16 : decode cX5_isDigit 16 = .ok (.iconst 0, 1) := by decide +kernel
theorem dX5_isDigit_17 : decode cX5_isDigit 17 = .ok (.ireturn, 1) := by decide +kernel
theorem dX5_digitAt_0 : decode cX5_digitAt 0 = .ok (.aload_n 0, 1) := by decide +kernel
theorem dX5_digitAt_1 : decode cX5_digitAt 1 = .ok (.iload_n 1, 1) := by decide +kernel
theorem dX5_digitAt_2 : decode cX5_digitAt 2 = .ok (.invokevirtual 75, 3) := by decide +kernel
theorem dX5_digitAt_5 : decode cX5_digitAt 5 = .ok (.bipush 48, 2) := by decide +kernel
theorem dX5_digitAt_7 : decode cX5_digitAt 7 = .ok (.isub, 1) := by decide +kernel
theorem dX5_digitAt_8 : decode cX5_digitAt 8 = .ok (.ireturn, 1) := by decide +kernel
theorem dX5_twoDigitsAt_0 : decode cX5_twoDigitsAt 0 = .ok (.bipush 10, 2) := by decide +kernel
theorem dX5_twoDigitsAt_2 : decode cX5_twoDigitsAt 2 = .ok (.aload_n 0, 1) := by decide +kernel
theorem dX5_twoDigitsAt_3 : decode cX5_twoDigitsAt 3 = .ok (.iload_n 1, 1) := by decide +kernel
theorem dX5_twoDigitsAt_4 : decode cX5_twoDigitsAt 4 = .ok (.invokevirtual 90, 3) := by decide +kernel
theorem dX5_twoDigitsAt_7 : decode cX5_twoDigitsAt 7 = .ok (.imul, 1) := by decide +kernel
theorem dX5_twoDigitsAt_8 : decode cX5_twoDigitsAt 8 = .ok (.aload_n 0, 1) := by decide +kernel
theorem dX5_twoDigitsAt_9 : decode cX5_twoDigitsAt 9 = .ok (.iload_n 1, 1) := by decide +kernel
theorem dX5_twoDigitsAt_10 : decode cX5_twoDigitsAt 10 = .ok (.iconst 1, 1) := by decide +kernel
theorem dX5_twoDigitsAt_11 : decode cX5_twoDigitsAt 11 = .ok (.iadd, 1) := by decide +kernel
theorem dX5_twoDigitsAt_12 : decode cX5_twoDigitsAt 12 = .ok (.invokevirtual 90, 3) := by decide +kernel
theorem dX5_twoDigitsAt_15 : decode cX5_twoDigitsAt 15 = .ok (.iadd, 1) := by decide +kernel
theorem dX5_twoDigitsAt_16 : decode cX5_twoDigitsAt 16 = .ok (.ireturn, 1) := by decide +kernel
theorem dX5_digitsBehind_0 : decode cX5_digitsBehind 0 = .ok (.iload_n 0, 1) := by decide +kernel
theorem dX5_digitsBehind_1 : decode cX5_digitsBehind 1 = .ok (.tableswitch 89 102 116 #[75, 89, 87, 89, 89, 81, 89, 85, 89, 83, 77, 89, 89, 89, 79], 75) := by decide +kernel
theorem dX5_digitsBehind_76 : decode cX5_digitsBehind 76 = .ok (.iconst 3, 1) := by decide +kernel
theorem dX5_digitsBehind_77 : decode cX5_digitsBehind 77 = .ok (.ireturn, 1) := by decide +kernel
theorem dX5_digitsBehind_78 : decode cX5_digitsBehind 78 = .ok (.iconst 4, 1) := by decide +kernel
theorem dX5_digitsBehind_79 : decode cX5_digitsBehind 79 = .ok (.ireturn, 1) := by decide +kernel
theorem dX5_digitsBehind_80 : decode cX5_digitsBehind 80 = .ok (.iconst 3, 1) := by decide +kernel
theorem dX5_digitsBehind_81 : decode cX5_digitsBehind 81 = .ok (.ireturn, 1) := by decide +kernel
theorem dX5_digitsBehind_82 : decode cX5_digitsBehind 82 = .ok (.iconst 1, 1) := by decide +kernel
theorem dX5_digitsBehind_83 : decode cX5_digitsBehind 83 = .ok (.ireturn, 1) := by decide +kernel
theorem dX5_digitsBehind_84 : decode cX5_digitsBehind 84 = .ok (.iconst 2, 1) := by decide +kernel
theorem dX5_digitsBehind_85 : decode cX5_digitsBehind 85 = .ok (.ireturn, 1) := by decide +kernel
theorem dX5_digitsBehind_86 : decode cX5_digitsBehind 86 = .ok (.iconst 3, 1) := by decide +kernel
theorem dX5_digitsBehind_87 : decode cX5_digitsBehind 87 = .ok (.ireturn, 1) := by decide +kernel
theorem dX5_digitsBehind_88 : decode cX5_digitsBehind 88 = .ok (.iconst 2, 1) := by decide +kernel
theorem dX5_digitsBehind_89 : decode cX5_digitsBehind 89 = .ok (.ireturn, 1) := by decide +kernel
theorem dX5_digitsBehind_90 : decode cX5_digitsBehind 90 = .ok (.iconst (-1), 1) := by decide +kernel
theorem dX5_digitsBehind_91 : decode cX5_digitsBehind 91 = .ok (.ireturn, 1) := by decide +kernel
theorem dX5_carriedOut_0 : decode cX5_carriedOut 0 = .ok (.aload_n 0, 1) := by decide +kernel
theorem dX5_carriedOut_1 : decode cX5_carriedOut 1 = .ok (.getfield 50, 3) := by decide +kernel
theorem dX5_carriedOut_4 : decode cX5_carriedOut 4 = .ok (.getfield 81, 3) := by decide +kernel
theorem dX5_carriedOut_7 : decode cX5_carriedOut 7 = .ok (.astore_n 2, 1) := by decide +kernel
theorem dX5_carriedOut_8 : decode cX5_carriedOut 8 = .ok (.aload_n 0, 1) := by decide +kernel
theorem dX5_carriedOut_9 : decode cX5_carriedOut 9 = .ok (.iload_n 1, 1) := by decide +kernel
theorem dX5_carriedOut_10 : decode cX5_carriedOut 10 = .ok (.iconst 1, 1) := by decide +kernel
theorem dX5_carriedOut_11 : decode cX5_carriedOut 11 = .ok (.iadd, 1) := by decide +kernel
theorem dX5_carriedOut_12 : decode cX5_carriedOut 12 = .ok (.invokevirtual 90, 3) := by decide +kernel
theorem dX5_carriedOut_15 : decode cX5_carriedOut 15 = .ok (.istore_n 3, 1) := by decide +kernel
theorem dX5_carriedOut_16 : decode cX5_carriedOut 16 = .ok (.aload_n 0, 1) := by decide +kernel
theorem dX5_carriedOut_17 : decode cX5_carriedOut 17 = .ok (.iload_n 1, 1) := by decide +kernel
theorem dX5_carriedOut_18 : decode cX5_carriedOut 18 = .ok (.invokevirtual 75, 3) := by decide +kernel
theorem dX5_carriedOut_21 : decode cX5_carriedOut 21 = .ok (.tableswitch 261 102 116 #[75, 261, 213, 261, 261, 156, 261, 200, 261, 172, 109, 261, 261, 261, 143], 75) := by decide +kernel
theorem dX5_carriedOut_96 : decode cX5_carriedOut 96 = .ok (.iload_n 3, 1) := by decide +kernel
theorem dX5_carriedOut_97 : decode cX5_carriedOut 97 = .ok (.bipush 7, 2) := by decide +kernel
theorem dX5_carriedOut_99 : decode cX5_carriedOut 99 = .ok (.if_icmp .ge 29, 3) := by decide +kernel
theorem dX5_carriedOut_102 : decode cX5_carriedOut 102 = .ok (.aload_n 2, 1) := by decide +kernel
theorem dX5_carriedOut_103 : decode cX5_carriedOut 103 = .ok (.iload_n 3, 1) := by decide +kernel
theorem dX5_carriedOut_104 : decode cX5_carriedOut 104 = .ok (.aload_n 0, 1) := by decide +kernel
theorem dX5_carriedOut_105 : decode cX5_carriedOut 105 = .ok (.iload_n 1, 1) := by decide +kernel
theorem dX5_carriedOut_106 : decode cX5_carriedOut 106 = .ok (.iconst 2, 1) := by decide +kernel
theorem dX5_carriedOut_107 : decode cX5_carriedOut 107 = .ok (.iadd, 1) := by decide +kernel
theorem dX5_carriedOut_108 : decode cX5_carriedOut 108 = .ok (.invokevirtual 90, 3) := by decide +kernel
theorem dX5_carriedOut_111 : decode cX5_carriedOut 111 = .ok (.aload_n 0, 1) := by decide +kernel
theorem dX5_carriedOut_112 : decode cX5_carriedOut 112 = .ok (.iload_n 1, 1) := by decide +kernel
theorem dX5_carriedOut_113 : decode cX5_carriedOut 113 = .ok (.iconst 3, 1) := by decide +kernel
theorem dX5_carriedOut_114 : decode cX5_carriedOut 114 = .ok (.iadd, 1) := by decide +kernel
theorem dX5_carriedOut_115 : decode cX5_carriedOut 115 = .ok (.invokevirtual 90, 3) := by decide +kernel
theorem dX5_carriedOut_118 : decode cX5_carriedOut 118 = .ok (.invokevirtual 93, 3) := by decide +kernel
theorem dX5_carriedOut_121 : decode cX5_carriedOut 121 = .ok (.ifCond .eq 7, 3) := by decide +kernel
theorem dX5_carriedOut_124 : decode cX5_carriedOut 124 = .ok (.iconst 1, 1) := by decide +kernel
theorem dX5_carriedOut_125 : decode cX5_carriedOut 125 = .ok (.goto 4, 3) := by decide +kernel
theorem dX5_carriedOut_128 : decode cX5_carriedOut 128 = .ok (.iconst 0, 1) := by decide +kernel
theorem dX5_carriedOut_129 : decode cX5_carriedOut 129 = .ok (.ireturn, 1) := by decide +kernel
theorem dX5_carriedOut_130 : decode cX5_carriedOut 130 = .ok (.iload_n 3, 1) := by decide +kernel
theorem dX5_carriedOut_131 : decode cX5_carriedOut 131 = .ok (.bipush 8, 2) := by decide +kernel
theorem dX5_carriedOut_133 : decode cX5_carriedOut 133 = .ok (.if_icmp .ge 29, 3) := by decide +kernel
theorem dX5_carriedOut_136 : decode cX5_carriedOut 136 = .ok (.aload_n 2, 1) := by decide +kernel
theorem dX5_carriedOut_137 : decode cX5_carriedOut 137 = .ok (.iload_n 3, 1) := by decide +kernel
theorem dX5_carriedOut_138 : decode cX5_carriedOut 138 = .ok (.aload_n 0, 1) := by decide +kernel
theorem dX5_carriedOut_139 : decode cX5_carriedOut 139 = .ok (.iload_n 1, 1) := by decide +kernel
theorem dX5_carriedOut_140 : decode cX5_carriedOut 140 = .ok (.iconst 2, 1) := by decide +kernel
theorem dX5_carriedOut_141 : decode cX5_carriedOut 141 = .ok (.iadd, 1) := by decide +kernel
theorem dX5_carriedOut_142 : decode cX5_carriedOut 142 = .ok (.invokevirtual 90, 3) := by decide +kernel
theorem dX5_carriedOut_145 : decode cX5_carriedOut 145 = .ok (.aload_n 0, 1) := by decide +kernel
theorem dX5_carriedOut_146 : decode cX5_carriedOut 146 = .ok (.iload_n 1, 1) := by decide +kernel
theorem dX5_carriedOut_147 : decode cX5_carriedOut 147 = .ok (.iconst 3, 1) := by decide +kernel
theorem dX5_carriedOut_148 : decode cX5_carriedOut 148 = .ok (.iadd, 1) := by decide +kernel
theorem dX5_carriedOut_149 : decode cX5_carriedOut 149 = .ok (.invokevirtual 97, 3) := by decide +kernel
theorem dX5_carriedOut_152 : decode cX5_carriedOut 152 = .ok (.invokevirtual 100, 3) := by decide +kernel
theorem dX5_carriedOut_155 : decode cX5_carriedOut 155 = .ok (.ifCond .eq 7, 3) := by decide +kernel
theorem dX5_carriedOut_158 : decode cX5_carriedOut 158 = .ok (.iconst 1, 1) := by decide +kernel
theorem dX5_carriedOut_159 : decode cX5_carriedOut 159 = .ok (.goto 4, 3) := by decide +kernel
theorem dX5_carriedOut_162 : decode cX5_carriedOut 162 = .ok (.iconst 0, 1) := by decide +kernel
theorem dX5_carriedOut_163 : decode cX5_carriedOut 163 = .ok (.ireturn, 1) := by decide +kernel
theorem dX5_carriedOut_164 : decode cX5_carriedOut 164 = .ok (.aload_n 2, 1) := by decide +kernel
theorem dX5_carriedOut_165 : decode cX5_carriedOut 165 = .ok (.iload_n 3, 1) := by decide +kernel
theorem dX5_carriedOut_166 : decode cX5_carriedOut 166 = .ok (.aload_n 0, 1) := by decide +kernel
theorem dX5_carriedOut_167 : decode cX5_carriedOut 167 = .ok (.iload_n 1, 1) := by decide +kernel
theorem dX5_carriedOut_168 : decode cX5_carriedOut 168 = .ok (.iconst 2, 1) := by decide +kernel
theorem dX5_carriedOut_169 : decode cX5_carriedOut 169 = .ok (.iadd, 1) := by decide +kernel
theorem dX5_carriedOut_170 : decode cX5_carriedOut 170 = .ok (.invokevirtual 97, 3) := by decide +kernel
theorem dX5_carriedOut_173 : decode cX5_carriedOut 173 = .ok (.invokevirtual 103, 3) := by decide +kernel
theorem dX5_carriedOut_176 : decode cX5_carriedOut 176 = .ok (.ireturn, 1) := by decide +kernel
theorem dX5_carriedOut_177 : decode cX5_carriedOut 177 = .ok (.aload_n 2, 1) := by decide +kernel
theorem dX5_carriedOut_178 : decode cX5_carriedOut 178 = .ok (.iload_n 3, 1) := by decide +kernel
theorem dX5_carriedOut_179 : decode cX5_carriedOut 179 = .ok (.putfield 107, 3) := by decide +kernel
theorem dX5_carriedOut_182 : decode cX5_carriedOut 182 = .ok (.iload_n 3, 1) := by decide +kernel
theorem dX5_carriedOut_183 : decode cX5_carriedOut 183 = .ok (.iconst 1, 1) := by decide +kernel
theorem dX5_carriedOut_184 : decode cX5_carriedOut 184 = .ok (.if_icmp .lt 7, 3) := by decide +kernel
theorem dX5_carriedOut_187 : decode cX5_carriedOut 187 = .ok (.iconst 1, 1) := by decide +kernel
theorem dX5_carriedOut_188 : decode cX5_carriedOut 188 = .ok (.goto 4, 3) := by decide +kernel
theorem dX5_carriedOut_191 : decode cX5_carriedOut 191 = .ok (.iconst 0, 1) := by decide +kernel
theorem dX5_carriedOut_192 : decode cX5_carriedOut 192 = .ok (.ireturn, 1) := by decide +kernel
theorem dX5_carriedOut_193 : decode cX5_carriedOut 193 = .ok (.aload_n 0, 1) := by decide +kernel
theorem dX5_carriedOut_194 : decode cX5_carriedOut 194 = .ok (.iload_n 1, 1) := by decide +kernel
theorem dX5_carriedOut_195 : decode cX5_carriedOut 195 = .ok (.iconst 2, 1) := by decide +kernel
theorem dX5_carriedOut_196 : decode cX5_carriedOut 196 = .ok (.iadd, 1) := by decide +kernel
theorem dX5_carriedOut_197 : decode cX5_carriedOut 197 = .ok (.invokevirtual 90, 3) := by decide +kernel
theorem dX5_carriedOut_200 : decode cX5_carriedOut 200 = .ok (.istore 4, 2) := by decide +kernel
theorem dX5_carriedOut_202 : decode cX5_carriedOut 202 = .ok (.aload_n 2, 1) := by decide +kernel
theorem dX5_carriedOut_203 : decode cX5_carriedOut 203 = .ok (.iload_n 3, 1) := by decide +kernel
theorem dX5_carriedOut_204 : decode cX5_carriedOut 204 = .ok (.iload 4, 2) := by decide +kernel
theorem dX5_carriedOut_206 : decode cX5_carriedOut 206 = .ok (.bipush 9, 2) := by decide +kernel
theorem dX5_carriedOut_208 : decode cX5_carriedOut 208 = .ok (.if_icmp .ne 7, 3) := by decide +kernel
theorem dX5_carriedOut_211 : decode cX5_carriedOut 211 = .ok (.iconst (-1), 1) := by decide +kernel
theorem dX5_carriedOut_212 : decode cX5_carriedOut 212 = .ok (.goto 5, 3) := by decide +kernel
theorem dX5_carriedOut_215 : decode cX5_carriedOut 215 = .ok (.iload 4, 2) := by decide +kernel
theorem dX5_carriedOut_217 : decode cX5_carriedOut 217 = .ok (.invokevirtual 110, 3) := by decide +kernel
theorem dX5_carriedOut_220 : decode cX5_carriedOut 220 = .ok (.ireturn, 1) := by decide +kernel
theorem dX5_carriedOut_221 : decode cX5_carriedOut 221 = .ok (.aload_n 2, 1) := by decide +kernel
theorem dX5_carriedOut_222 : decode cX5_carriedOut 222 = .ok (.iload_n 3, 1) := by decide +kernel
theorem dX5_carriedOut_223 : decode cX5_carriedOut 223 = .ok (.aload_n 0, 1) := by decide +kernel
theorem dX5_carriedOut_224 : decode cX5_carriedOut 224 = .ok (.iload_n 1, 1) := by decide +kernel
theorem dX5_carriedOut_225 : decode cX5_carriedOut 225 = .ok (.iconst 2, 1) := by decide +kernel
theorem dX5_carriedOut_226 : decode cX5_carriedOut 226 = .ok (.iadd, 1) := by decide +kernel
theorem dX5_carriedOut_227 : decode cX5_carriedOut 227 = .ok (.invokevirtual 97, 3) := by decide +kernel
theorem dX5_carriedOut_230 : decode cX5_carriedOut 230 = .ok (.invokevirtual 113, 3) := by decide +kernel
theorem dX5_carriedOut_233 : decode cX5_carriedOut 233 = .ok (.ireturn, 1) := by decide +kernel
theorem dX5_carriedOut_234 : decode cX5_carriedOut 234 = .ok (.aload_n 0, 1) := by decide +kernel
theorem dX5_carriedOut_235 : decode cX5_carriedOut 235 = .ok (.iload_n 1, 1) := by decide +kernel
theorem dX5_carriedOut_236 : decode cX5_carriedOut 236 = .ok (.iconst 1, 1) := by decide +kernel
theorem dX5_carriedOut_237 : decode cX5_carriedOut 237 = .ok (.iadd, 1) := by decide +kernel
theorem dX5_carriedOut_238 : decode cX5_carriedOut 238 = .ok (.invokevirtual 97, 3) := by decide +kernel
theorem dX5_carriedOut_241 : decode cX5_carriedOut 241 = .ok (.istore 5, 2) := by decide +kernel
theorem dX5_carriedOut_243 : decode cX5_carriedOut 243 = .ok (.iload 5, 2) := by decide +kernel
theorem dX5_carriedOut_245 : decode cX5_carriedOut 245 = .ok (.iconst 1, 1) := by decide +kernel
theorem dX5_carriedOut_246 : decode cX5_carriedOut 246 = .ok (.if_icmp .lt 23, 3) := by decide +kernel
theorem dX5_carriedOut_249 : decode cX5_carriedOut 249 = .ok (.iload 5, 2) := by decide +kernel
theorem dX5_carriedOut_251 : decode cX5_carriedOut 251 = .ok (.bipush 60, 2) := by decide +kernel
theorem dX5_carriedOut_253 : decode cX5_carriedOut 253 = .ok (.if_icmp .gt 16, 3) := by decide +kernel
theorem dX5_carriedOut_256 : decode cX5_carriedOut 256 = .ok (.aload_n 2, 1) := by decide +kernel
theorem dX5_carriedOut_257 : decode cX5_carriedOut 257 = .ok (.getfield 116, 3) := by decide +kernel
theorem dX5_carriedOut_260 : decode cX5_carriedOut 260 = .ok (.iload 5, 2) := by decide +kernel
theorem dX5_carriedOut_262 : decode cX5_carriedOut 262 = .ok (.iadd, 1) := by decide +kernel
theorem dX5_carriedOut_263 : decode cX5_carriedOut 263 = .ok (.sipush 999, 3) := by decide +kernel
theorem dX5_carriedOut_266 : decode cX5_carriedOut 266 = .ok (.if_icmp .le 5, 3) := by decide +kernel
theorem dX5_carriedOut_269 : decode cX5_carriedOut 269 = .ok (.iconst 0, 1) := by decide +kernel
theorem dX5_carriedOut_270 : decode cX5_carriedOut 270 = .ok (.ireturn, 1) := by decide +kernel
theorem dX5_carriedOut_271 : decode cX5_carriedOut 271 = .ok (.aload_n 0, 1) := by decide +kernel
theorem dX5_carriedOut_272 : decode cX5_carriedOut 272 = .ok (.getfield 50, 3) := by decide +kernel
theorem dX5_carriedOut_275 : decode cX5_carriedOut 275 = .ok (.iload 5, 2) := by decide +kernel
theorem dX5_carriedOut_277 : decode cX5_carriedOut 277 = .ok (.invokevirtual 119, 3) := by decide +kernel
theorem dX5_carriedOut_280 : decode cX5_carriedOut 280 = .ok (.iconst 1, 1) := by decide +kernel
theorem dX5_carriedOut_281 : decode cX5_carriedOut 281 = .ok (.ireturn, 1) := by decide +kernel
theorem dX5_carriedOut_282 : decode cX5_carriedOut 282 = .ok (.iconst 0, 1) := by decide +kernel
theorem dX5_carriedOut_283 : decode cX5_carriedOut 283 = .ok (.ireturn, 1) := by decide +kernel
theorem dX5_person_0 : decode cX5_person 0 = .ok (.aload_n 0, 1) := by decide +kernel
theorem dX5_person_1 : decode cX5_person 1 = .ok (.getfield 10, 3) := by decide +kernel
theorem dX5_person_4 : decode cX5_person 4 = .ok (.iload_n 1, 1) := by decide +kernel
theorem dX5_person_5 : decode cX5_person 5 = .ok (.invokevirtual 123, 3) := by decide +kernel
theorem dX5_person_8 : decode cX5_person 8 = .ok (.ifCond .ne 9, 3) := by decide +kernel
theorem dX5_person_11 : decode cX5_person 11 = .ok (.aload_n 0, 1) := by decide +kernel
theorem dX5_person_12 : decode cX5_person 12 = .ok (.iconst (-1), 1) := by decide +kernel
theorem dX5_person_13 : decode cX5_person 13 = .ok (.invokevirtual 60, 3) := by decide +kernel
theorem dX5_person_16 : decode cX5_person 16 = .ok (.ireturn, 1) := by decide +kernel
theorem dX5_person_17 : decode cX5_person 17 = .ok (.iload_n 2, 1) := by decide +kernel
theorem dX5_person_18 : decode cX5_person 18 = .ok (.tableswitch 208 0 8 #[50, 60, 70, 80, 90, 112, 134, 156, 199], 50) := by decide +kernel
theorem dX5_person_68 : decode cX5_person 68 = .ok (.aload_n 0, 1) := by decide +kernel
theorem dX5_person_69 : decode cX5_person 69 = .ok (.getfield 10, 3) := by decide +kernel
theorem dX5_person_72 : decode cX5_person 72 = .ok (.getfield 126, 3) := by decide +kernel
theorem dX5_person_75 : decode cX5_person 75 = .ok (.iload_n 1, 1) := by decide +kernel
theorem dX5_person_76 : decode cX5_person 76 = .ok (.iaload, 1) := by decide +kernel
theorem dX5_person_77 : decode cX5_person 77 = .ok (.ireturn, 1) := by decide +kernel
theorem dX5_person_78 : decode cX5_person 78 = .ok (.aload_n 0, 1) := by decide +kernel
theorem dX5_person_79 : decode cX5_person 79 = .ok (.getfield 10, 3) := by decide +kernel
theorem dX5_person_82 : decode cX5_person 82 = .ok (.getfield 129, 3) := by decide +kernel
theorem dX5_person_85 : decode cX5_person 85 = .ok (.iload_n 1, 1) := by decide +kernel
theorem dX5_person_86 : decode cX5_person 86 = .ok (.iaload, 1) := by decide +kernel
theorem dX5_person_87 : decode cX5_person 87 = .ok (.ireturn, 1) := by decide +kernel
theorem dX5_person_88 : decode cX5_person 88 = .ok (.aload_n 0, 1) := by decide +kernel
theorem dX5_person_89 : decode cX5_person 89 = .ok (.getfield 10, 3) := by decide +kernel
theorem dX5_person_92 : decode cX5_person 92 = .ok (.getfield 132, 3) := by decide +kernel
theorem dX5_person_95 : decode cX5_person 95 = .ok (.iload_n 1, 1) := by decide +kernel
theorem dX5_person_96 : decode cX5_person 96 = .ok (.iaload, 1) := by decide +kernel
theorem dX5_person_97 : decode cX5_person 97 = .ok (.ireturn, 1) := by decide +kernel
theorem dX5_person_98 : decode cX5_person 98 = .ok (.aload_n 0, 1) := by decide +kernel
theorem dX5_person_99 : decode cX5_person 99 = .ok (.getfield 10, 3) := by decide +kernel
theorem dX5_person_102 : decode cX5_person 102 = .ok (.getfield 135, 3) := by decide +kernel
theorem dX5_person_105 : decode cX5_person 105 = .ok (.iload_n 1, 1) := by decide +kernel
theorem dX5_person_106 : decode cX5_person 106 = .ok (.iaload, 1) := by decide +kernel
theorem dX5_person_107 : decode cX5_person 107 = .ok (.ireturn, 1) := by decide +kernel
theorem dX5_person_108 : decode cX5_person 108 = .ok (.aload_n 0, 1) := by decide +kernel
theorem dX5_person_109 : decode cX5_person 109 = .ok (.getfield 10, 3) := by decide +kernel
theorem dX5_person_112 : decode cX5_person 112 = .ok (.getfield 126, 3) := by decide +kernel
theorem dX5_person_115 : decode cX5_person 115 = .ok (.iload_n 1, 1) := by decide +kernel
theorem dX5_person_116 : decode cX5_person 116 = .ok (.iaload, 1) := by decide +kernel
theorem dX5_person_117 : decode cX5_person 117 = .ok (.aload_n 0, 1) := by decide +kernel
theorem dX5_person_118 : decode cX5_person 118 = .ok (.getfield 10, 3) := by decide +kernel
theorem dX5_person_121 : decode cX5_person 121 = .ok (.getfield 129, 3) := by decide +kernel
theorem dX5_person_124 : decode cX5_person 124 = .ok (.iload_n 1, 1) := by decide +kernel
theorem dX5_person_125 : decode cX5_person 125 = .ok (.iaload, 1) := by decide +kernel
theorem dX5_person_126 : decode cX5_person 126 = .ok (.invokestatic 138, 3) := by decide +kernel
theorem dX5_person_129 : decode cX5_person 129 = .ok (.ireturn, 1) := by decide +kernel
theorem dX5_person_130 : decode cX5_person 130 = .ok (.aload_n 0, 1) := by decide +kernel
theorem dX5_person_131 : decode cX5_person 131 = .ok (.getfield 10, 3) := by decide +kernel
theorem dX5_person_134 : decode cX5_person 134 = .ok (.getfield 126, 3) := by decide +kernel
theorem dX5_person_137 : decode cX5_person 137 = .ok (.iload_n 1, 1) := by decide +kernel
theorem dX5_person_138 : decode cX5_person 138 = .ok (.iaload, 1) := by decide +kernel
theorem dX5_person_139 : decode cX5_person 139 = .ok (.aload_n 0, 1) := by decide +kernel
theorem dX5_person_140 : decode cX5_person 140 = .ok (.getfield 10, 3) := by decide +kernel
theorem dX5_person_143 : decode cX5_person 143 = .ok (.getfield 129, 3) := by decide +kernel
theorem dX5_person_146 : decode cX5_person 146 = .ok (.iload_n 1, 1) := by decide +kernel
theorem dX5_person_147 : decode cX5_person 147 = .ok (.iaload, 1) := by decide +kernel
theorem dX5_person_148 : decode cX5_person 148 = .ok (.invokestatic 144, 3) := by decide +kernel
theorem dX5_person_151 : decode cX5_person 151 = .ok (.ireturn, 1) := by decide +kernel
theorem dX5_person_152 : decode cX5_person 152 = .ok (.aload_n 0, 1) := by decide +kernel
theorem dX5_person_153 : decode cX5_person 153 = .ok (.getfield 10, 3) := by decide +kernel
theorem dX5_person_156 : decode cX5_person 156 = .ok (.getfield 126, 3) := by decide +kernel
theorem dX5_person_159 : decode cX5_person 159 = .ok (.iload_n 1, 1) := by decide +kernel
theorem dX5_person_160 : decode cX5_person 160 = .ok (.iaload, 1) := by decide +kernel
theorem dX5_person_161 : decode cX5_person 161 = .ok (.aload_n 0, 1) := by decide +kernel
theorem dX5_person_162 : decode cX5_person 162 = .ok (.getfield 10, 3) := by decide +kernel
theorem dX5_person_165 : decode cX5_person 165 = .ok (.getfield 129, 3) := by decide +kernel
theorem dX5_person_168 : decode cX5_person 168 = .ok (.iload_n 1, 1) := by decide +kernel
theorem dX5_person_169 : decode cX5_person 169 = .ok (.iaload, 1) := by decide +kernel
theorem dX5_person_170 : decode cX5_person 170 = .ok (.invokestatic 147, 3) := by decide +kernel
theorem dX5_person_173 : decode cX5_person 173 = .ok (.ireturn, 1) := by decide +kernel
theorem dX5_person_174 : decode cX5_person 174 = .ok (.aload_n 0, 1) := by decide +kernel
theorem dX5_person_175 : decode cX5_person 175 = .ok (.getfield 50, 3) := by decide +kernel
theorem dX5_person_178 : decode cX5_person 178 = .ok (.aload_n 0, 1) := by decide +kernel
theorem dX5_person_179 : decode cX5_person 179 = .ok (.getfield 10, 3) := by decide +kernel
theorem dX5_person_182 : decode cX5_person 182 = .ok (.invokevirtual 67, 3) := by decide +kernel
theorem dX5_person_185 : decode cX5_person 185 = .ok (.aload_n 0, 1) := by decide +kernel
theorem dX5_person_186 : decode cX5_person 186 = .ok (.getfield 50, 3) := by decide +kernel
theorem dX5_person_189 : decode cX5_person 189 = .ok (.getfield 81, 3) := by decide +kernel
theorem dX5_person_192 : decode cX5_person 192 = .ok (.dup, 1) := by decide +kernel
theorem dX5_person_193 : decode cX5_person 193 = .ok (.getfield 116, 3) := by decide +kernel
theorem dX5_person_196 : decode cX5_person 196 = .ok (.iconst 1, 1) := by decide +kernel
theorem dX5_person_197 : decode cX5_person 197 = .ok (.iadd, 1) := by decide +kernel
theorem dX5_person_198 : decode cX5_person 198 = .ok (.putfield 116, 3) := by decide +kernel
theorem dX5_person_201 : decode cX5_person 201 = .ok (.aload_n 0, 1) := by decide +kernel
theorem dX5_person_202 : decode cX5_person 202 = .ok (.getfield 50, 3) := by decide +kernel
theorem dX5_person_205 : decode cX5_person 205 = .ok (.invokevirtual 150, 3) := by decide +kernel
theorem dX5_person_208 : decode cX5_person 208 = .ok (.aload_n 0, 1) := by decide +kernel
theorem dX5_person_209 : decode cX5_person 209 = .ok (.getfield 50, 3) := by decide +kernel
theorem dX5_person_212 : decode cX5_person 212 = .ok (.iload_n 1, 1) := by decide +kernel
theorem dX5_person_213 : decode cX5_person 213 = .ok (.invokevirtual 153, 3) := by decide +kernel
theorem dX5_person_216 : decode cX5_person 216 = .ok (.ireturn, 1) := by decide +kernel
theorem dX5_person_217 : decode cX5_person 217 = .ok (.aload_n 0, 1) := by decide +kernel
theorem dX5_person_218 : decode cX5_person 218 = .ok (.getfield 10, 3) := by decide +kernel
theorem dX5_person_221 : decode cX5_person 221 = .ok (.iload_n 1, 1) := by decide +kernel
theorem dX5_person_222 : decode cX5_person 222 = .ok (.invokevirtual 156, 3) := by decide +kernel
theorem dX5_person_225 : decode cX5_person 225 = .ok (.ireturn, 1) := by decide +kernel
theorem dX5_person_226 : decode cX5_person 226 = .ok (.aload_n 0, 1) := by decide +kernel
theorem dX5_person_227 : decode cX5_person 227 = .ok (.bipush (-2), 2) := by decide +kernel
theorem dX5_person_229 : decode cX5_person 229 = .ok (.invokevirtual 60, 3) := by decide +kernel
theorem dX5_person_232 : decode cX5_person 232 = .ok (.ireturn, 1) := by decide +kernel
theorem dX5_thing_0 : decode cX5_thing 0 = .ok (.aload_n 0, 1) := by decide +kernel
theorem dX5_thing_1 : decode cX5_thing 1 = .ok (.getfield 10, 3) := by decide +kernel
theorem dX5_thing_4 : decode cX5_thing 4 = .ok (.iload_n 1, 1) := by decide +kernel
theorem dX5_thing_5 : decode cX5_thing 5 = .ok (.invokevirtual 159, 3) := by decide +kernel
theorem dX5_thing_8 : decode cX5_thing 8 = .ok (.ifCond .ne 9, 3) := by decide +kernel
theorem dX5_thing_11 : decode cX5_thing 11 = .ok (.aload_n 0, 1) := by decide +kernel
theorem dX5_thing_12 : decode cX5_thing 12 = .ok (.iconst (-1), 1) := by decide +kernel
theorem dX5_thing_13 : decode cX5_thing 13 = .ok (.invokevirtual 60, 3) := by decide +kernel
theorem dX5_thing_16 : decode cX5_thing 16 = .ok (.ireturn, 1) := by decide +kernel
theorem dX5_thing_17 : decode cX5_thing 17 = .ok (.iload_n 2, 1) := by decide +kernel
theorem dX5_thing_18 : decode cX5_thing 18 = .ok (.tableswitch 59 0 2 #[26, 36, 46], 26) := by decide +kernel
theorem dX5_thing_44 : decode cX5_thing 44 = .ok (.aload_n 0, 1) := by decide +kernel
theorem dX5_thing_45 : decode cX5_thing 45 = .ok (.getfield 10, 3) := by decide +kernel
theorem dX5_thing_48 : decode cX5_thing 48 = .ok (.getfield 162, 3) := by decide +kernel
theorem dX5_thing_51 : decode cX5_thing 51 = .ok (.iload_n 1, 1) := by decide +kernel
theorem dX5_thing_52 : decode cX5_thing 52 = .ok (.iaload, 1) := by decide +kernel
theorem dX5_thing_53 : decode cX5_thing 53 = .ok (.ireturn, 1) := by decide +kernel
theorem dX5_thing_54 : decode cX5_thing 54 = .ok (.aload_n 0, 1) := by decide +kernel
theorem dX5_thing_55 : decode cX5_thing 55 = .ok (.getfield 10, 3) := by decide +kernel
theorem dX5_thing_58 : decode cX5_thing 58 = .ok (.getfield 165, 3) := by decide +kernel
theorem dX5_thing_61 : decode cX5_thing 61 = .ok (.iload_n 1, 1) := by decide +kernel
theorem dX5_thing_62 : decode cX5_thing 62 = .ok (.iaload, 1) := by decide +kernel
theorem dX5_thing_63 : decode cX5_thing 63 = .ok (.ireturn, 1) := by decide +kernel
theorem dX5_thing_64 : decode cX5_thing 64 = .ok (.aload_n 0, 1) := by decide +kernel
theorem dX5_thing_65 : decode cX5_thing 65 = .ok (.getfield 10, 3) := by decide +kernel
theorem dX5_thing_68 : decode cX5_thing 68 = .ok (.getfield 168, 3) := by decide +kernel
theorem dX5_thing_71 : decode cX5_thing 71 = .ok (.iload_n 1, 1) := by decide +kernel
theorem dX5_thing_72 : decode cX5_thing 72 = .ok (.iaload, 1) := by decide +kernel
theorem dX5_thing_73 : decode cX5_thing 73 = .ok (.invokestatic 171, 3) := by decide +kernel
theorem dX5_thing_76 : decode cX5_thing 76 = .ok (.ireturn, 1) := by decide +kernel
theorem dX5_thing_77 : decode cX5_thing 77 = .ok (.aload_n 0, 1) := by decide +kernel
theorem dX5_thing_78 : decode cX5_thing 78 = .ok (.bipush (-2), 2) := by decide +kernel
theorem dX5_thing_80 : decode cX5_thing 80 = .ok (.invokevirtual 60, 3) := by decide +kernel
theorem dX5_thing_83 : decode cX5_thing 83 = .ok (.ireturn, 1) := by decide +kernel
theorem dX5_front_0 : decode cX5_front 0 = .ok (.aload_n 0, 1) := by decide +kernel
theorem dX5_front_1 : decode cX5_front 1 = .ok (.getfield 10, 3) := by decide +kernel
theorem dX5_front_4 : decode cX5_front 4 = .ok (.iload_n 1, 1) := by decide +kernel
theorem dX5_front_5 : decode cX5_front 5 = .ok (.invokevirtual 174, 3) := by decide +kernel
theorem dX5_front_8 : decode cX5_front 8 = .ok (.ifCond .ne 9, 3) := by decide +kernel
theorem dX5_front_11 : decode cX5_front 11 = .ok (.aload_n 0, 1) := by decide +kernel
theorem dX5_front_12 : decode cX5_front 12 = .ok (.iconst (-1), 1) := by decide +kernel
theorem dX5_front_13 : decode cX5_front 13 = .ok (.invokevirtual 60, 3) := by decide +kernel
theorem dX5_front_16 : decode cX5_front 16 = .ok (.ireturn, 1) := by decide +kernel
theorem dX5_front_17 : decode cX5_front 17 = .ok (.iload_n 2, 1) := by decide +kernel
theorem dX5_front_18 : decode cX5_front 18 = .ok (.tableswitch 56 0 2 #[26, 36, 46], 26) := by decide +kernel
theorem dX5_front_44 : decode cX5_front 44 = .ok (.aload_n 0, 1) := by decide +kernel
theorem dX5_front_45 : decode cX5_front 45 = .ok (.getfield 10, 3) := by decide +kernel
theorem dX5_front_48 : decode cX5_front 48 = .ok (.getfield 177, 3) := by decide +kernel
theorem dX5_front_51 : decode cX5_front 51 = .ok (.iload_n 1, 1) := by decide +kernel
theorem dX5_front_52 : decode cX5_front 52 = .ok (.iaload, 1) := by decide +kernel
theorem dX5_front_53 : decode cX5_front 53 = .ok (.ireturn, 1) := by decide +kernel
theorem dX5_front_54 : decode cX5_front 54 = .ok (.aload_n 0, 1) := by decide +kernel
theorem dX5_front_55 : decode cX5_front 55 = .ok (.getfield 10, 3) := by decide +kernel
theorem dX5_front_58 : decode cX5_front 58 = .ok (.getfield 180, 3) := by decide +kernel
theorem dX5_front_61 : decode cX5_front 61 = .ok (.iload_n 1, 1) := by decide +kernel
theorem dX5_front_62 : decode cX5_front 62 = .ok (.iaload, 1) := by decide +kernel
theorem dX5_front_63 : decode cX5_front 63 = .ok (.ireturn, 1) := by decide +kernel
theorem dX5_front_64 : decode cX5_front 64 = .ok (.aload_n 0, 1) := by decide +kernel
theorem dX5_front_65 : decode cX5_front 65 = .ok (.getfield 10, 3) := by decide +kernel
theorem dX5_front_68 : decode cX5_front 68 = .ok (.getfield 183, 3) := by decide +kernel
theorem dX5_front_71 : decode cX5_front 71 = .ok (.iload_n 1, 1) := by decide +kernel
theorem dX5_front_72 : decode cX5_front 72 = .ok (.iaload, 1) := by decide +kernel
theorem dX5_front_73 : decode cX5_front 73 = .ok (.ireturn, 1) := by decide +kernel
theorem dX5_front_74 : decode cX5_front 74 = .ok (.aload_n 0, 1) := by decide +kernel
theorem dX5_front_75 : decode cX5_front 75 = .ok (.bipush (-2), 2) := by decide +kernel
theorem dX5_front_77 : decode cX5_front 77 = .ok (.invokevirtual 60, 3) := by decide +kernel
theorem dX5_front_80 : decode cX5_front 80 = .ok (.ireturn, 1) := by decide +kernel
theorem dX5_cell_0 : decode cX5_cell 0 = .ok (.iload_n 1, 1) := by decide +kernel
theorem dX5_cell_1 : decode cX5_cell 1 = .ok (.invokestatic 186, 3) := by decide +kernel
theorem dX5_cell_4 : decode cX5_cell 4 = .ok (.ifCond .ne 9, 3) := by decide +kernel
theorem dX5_cell_7 : decode cX5_cell 7 = .ok (.aload_n 0, 1) := by decide +kernel
theorem dX5_cell_8 : decode cX5_cell 8 = .ok (.iconst (-1), 1) := by decide +kernel
theorem dX5_cell_9 : decode cX5_cell 9 = .ok (.invokevirtual 60, 3) := by decide +kernel
theorem dX5_cell_12 : decode cX5_cell 12 = .ok (.ireturn, 1) := by decide +kernel
theorem dX5_cell_13 : decode cX5_cell 13 = .ok (.iload_n 2, 1) := by decide +kernel
theorem dX5_cell_14 : decode cX5_cell 14 = .ok (.ifCond .lt 8, 3) := by decide +kernel
theorem dX5_cell_17 : decode cX5_cell 17 = .ok (.iload_n 2, 1) := by decide +kernel
theorem dX5_cell_18 : decode cX5_cell 18 = .ok (.iconst 4, 1) := by decide +kernel
theorem dX5_cell_19 : decode cX5_cell 19 = .ok (.if_icmp .le 10, 3) := by decide +kernel
theorem dX5_cell_22 : decode cX5_cell 22 = .ok (.aload_n 0, 1) := by decide +kernel
theorem dX5_cell_23 : decode cX5_cell 23 = .ok (.bipush (-2), 2) := by decide +kernel
theorem dX5_cell_25 : decode cX5_cell 25 = .ok (.invokevirtual 60, 3) := by decide +kernel
theorem dX5_cell_28 : decode cX5_cell 28 = .ok (.ireturn, 1) := by decide +kernel
theorem dX5_cell_29 : decode cX5_cell 29 = .ok (.aload_n 0, 1) := by decide +kernel
theorem dX5_cell_30 : decode cX5_cell 30 = .ok (.getfield 50, 3) := by decide +kernel
theorem dX5_cell_33 : decode cX5_cell 33 = .ok (.aload_n 0, 1) := by decide +kernel
theorem dX5_cell_34 : decode cX5_cell 34 = .ok (.getfield 10, 3) := by decide +kernel
theorem dX5_cell_37 : decode cX5_cell 37 = .ok (.invokevirtual 67, 3) := by decide +kernel
theorem dX5_cell_40 : decode cX5_cell 40 = .ok (.iload_n 2, 1) := by decide +kernel
theorem dX5_cell_41 : decode cX5_cell 41 = .ok (.tableswitch 75 0 3 #[31, 40, 49, 66], 31) := by decide +kernel
theorem dX5_cell_72 : decode cX5_cell 72 = .ok (.aload_n 0, 1) := by decide +kernel
theorem dX5_cell_73 : decode cX5_cell 73 = .ok (.getfield 50, 3) := by decide +kernel
theorem dX5_cell_76 : decode cX5_cell 76 = .ok (.iload_n 1, 1) := by decide +kernel
theorem dX5_cell_77 : decode cX5_cell 77 = .ok (.invokevirtual 189, 3) := by decide +kernel
theorem dX5_cell_80 : decode cX5_cell 80 = .ok (.ireturn, 1) := by decide +kernel
theorem dX5_cell_81 : decode cX5_cell 81 = .ok (.aload_n 0, 1) := by decide +kernel
theorem dX5_cell_82 : decode cX5_cell 82 = .ok (.getfield 50, 3) := by decide +kernel
theorem dX5_cell_85 : decode cX5_cell 85 = .ok (.iload_n 1, 1) := by decide +kernel
theorem dX5_cell_86 : decode cX5_cell 86 = .ok (.invokevirtual 192, 3) := by decide +kernel
theorem dX5_cell_89 : decode cX5_cell 89 = .ok (.ireturn, 1) := by decide +kernel
theorem dX5_cell_90 : decode cX5_cell 90 = .ok (.aload_n 0, 1) := by decide +kernel
theorem dX5_cell_91 : decode cX5_cell 91 = .ok (.getfield 50, 3) := by decide +kernel
theorem dX5_cell_94 : decode cX5_cell 94 = .ok (.iload_n 1, 1) := by decide +kernel
theorem dX5_cell_95 : decode cX5_cell 95 = .ok (.invokevirtual 195, 3) := by decide +kernel
theorem dX5_cell_98 : decode cX5_cell 98 = .ok (.ifCond .eq 7, 3) := by decide +kernel
theorem dX5_cell_101 : decode cX5_cell 101 = .ok (.iconst 1, 1) := by decide +kernel
theorem dX5_cell_102 : decode cX5_cell 102 = .ok (.goto 4, 3) := by decide +kernel
theorem dX5_cell_105 : decode cX5_cell 105 = .ok (.iconst 0, 1) := by decide +kernel
theorem dX5_cell_106 : decode cX5_cell 106 = .ok (.ireturn, 1) := by decide +kernel
theorem dX5_cell_107 : decode cX5_cell 107 = .ok (.aload_n 0, 1) := by decide +kernel
theorem dX5_cell_108 : decode cX5_cell 108 = .ok (.getfield 10, 3) := by decide +kernel
theorem dX5_cell_111 : decode cX5_cell 111 = .ok (.iload_n 1, 1) := by decide +kernel
theorem dX5_cell_112 : decode cX5_cell 112 = .ok (.invokevirtual 198, 3) := by decide +kernel
theorem dX5_cell_115 : decode cX5_cell 115 = .ok (.ireturn, 1) := by decide +kernel
theorem dX5_cell_116 : decode cX5_cell 116 = .ok (.aload_n 0, 1) := by decide +kernel
theorem dX5_cell_117 : decode cX5_cell 117 = .ok (.getfield 10, 3) := by decide +kernel
theorem dX5_cell_120 : decode cX5_cell 120 = .ok (.iload_n 1, 1) := by decide +kernel
theorem dX5_cell_121 : decode cX5_cell 121 = .ok (.invokevirtual 201, 3) := by decide +kernel
theorem dX5_cell_124 : decode cX5_cell 124 = .ok (.ireturn, 1) := by decide +kernel
theorem dX5_count_0 : decode cX5_count 0 = .ok (.iload_n 1, 1) := by decide +kernel
theorem dX5_count_1 : decode cX5_count 1 = .ok (.tableswitch 137 0 9 #[55, 63, 71, 79, 87, 95, 103, 108, 113, 118], 55) := by decide +kernel
theorem dX5_count_56 : decode cX5_count 56 = .ok (.aload_n 0, 1) := by decide +kernel
theorem dX5_count_57 : decode cX5_count 57 = .ok (.getfield 10, 3) := by decide +kernel
theorem dX5_count_60 : decode cX5_count 60 = .ok (.getfield 204, 3) := by decide +kernel
theorem dX5_count_63 : decode cX5_count 63 = .ok (.ireturn, 1) := by decide +kernel
theorem dX5_count_64 : decode cX5_count 64 = .ok (.aload_n 0, 1) := by decide +kernel
theorem dX5_count_65 : decode cX5_count 65 = .ok (.getfield 10, 3) := by decide +kernel
theorem dX5_count_68 : decode cX5_count 68 = .ok (.getfield 207, 3) := by decide +kernel
theorem dX5_count_71 : decode cX5_count 71 = .ok (.ireturn, 1) := by decide +kernel
theorem dX5_count_72 : decode cX5_count 72 = .ok (.aload_n 0, 1) := by decide +kernel
theorem dX5_count_73 : decode cX5_count 73 = .ok (.getfield 10, 3) := by decide +kernel
theorem dX5_count_76 : decode cX5_count 76 = .ok (.getfield 210, 3) := by decide +kernel
theorem dX5_count_79 : decode cX5_count 79 = .ok (.ireturn, 1) := by decide +kernel
theorem dX5_count_80 : decode cX5_count 80 = .ok (.aload_n 0, 1) := by decide +kernel
theorem dX5_count_81 : decode cX5_count 81 = .ok (.getfield 10, 3) := by decide +kernel
theorem dX5_count_84 : decode cX5_count 84 = .ok (.getfield 116, 3) := by decide +kernel
theorem dX5_count_87 : decode cX5_count 87 = .ok (.ireturn, 1) := by decide +kernel
theorem dX5_count_88 : decode cX5_count 88 = .ok (.aload_n 0, 1) := by decide +kernel
theorem dX5_count_89 : decode cX5_count 89 = .ok (.getfield 10, 3) := by decide +kernel
theorem dX5_count_92 : decode cX5_count 92 = .ok (.getfield 107, 3) := by decide +kernel
theorem dX5_count_95 : decode cX5_count 95 = .ok (.ireturn, 1) := by decide +kernel
theorem dX5_count_96 : decode cX5_count 96 = .ok (.aload_n 0, 1) := by decide +kernel
theorem dX5_count_97 : decode cX5_count 97 = .ok (.getfield 10, 3) := by decide +kernel
theorem dX5_count_100 : decode cX5_count 100 = .ok (.invokevirtual 213, 3) := by decide +kernel
theorem dX5_count_103 : decode cX5_count 103 = .ok (.ireturn, 1) := by decide +kernel
theorem dX5_count_104 : decode cX5_count 104 = .ok (.aload_n 0, 1) := by decide +kernel
theorem dX5_count_105 : decode cX5_count 105 = .ok (.getfield 35, 3) := by decide +kernel
theorem dX5_count_108 : decode cX5_count 108 = .ok (.ireturn, 1) := by decide +kernel
theorem dX5_count_109 : decode cX5_count 109 = .ok (.aload_n 0, 1) := by decide +kernel
theorem dX5_count_110 : decode cX5_count 110 = .ok (.getfield 41, 3) := by decide +kernel
theorem dX5_count_113 : decode cX5_count 113 = .ok (.ireturn, 1) := by decide +kernel
theorem dX5_count_114 : decode cX5_count 114 = .ok (.aload_n 0, 1) := by decide +kernel
theorem dX5_count_115 : decode cX5_count 115 = .ok (.getfield 27, 3) := by decide +kernel
theorem dX5_count_118 : decode cX5_count 118 = .ok (.ireturn, 1) := by decide +kernel
theorem dX5_count_119 : decode cX5_count 119 = .ok (.aload_n 0, 1) := by decide +kernel
theorem dX5_count_120 : decode cX5_count 120 = .ok (.getfield 50, 3) := by decide +kernel
theorem dX5_count_123 : decode cX5_count 123 = .ok (.aload_n 0, 1) := by decide +kernel
theorem dX5_count_124 : decode cX5_count 124 = .ok (.getfield 10, 3) := by decide +kernel
theorem dX5_count_127 : decode cX5_count 127 = .ok (.invokevirtual 67, 3) := by decide +kernel
theorem dX5_count_130 : decode cX5_count 130 = .ok (.aload_n 0, 1) := by decide +kernel
theorem dX5_count_131 : decode cX5_count 131 = .ok (.getfield 50, 3) := by decide +kernel
theorem dX5_count_134 : decode cX5_count 134 = .ok (.invokevirtual 217, 3) := by decide +kernel
theorem dX5_count_137 : decode cX5_count 137 = .ok (.ireturn, 1) := by decide +kernel
theorem dX5_count_138 : decode cX5_count 138 = .ok (.iload_n 1, 1) := by decide +kernel
theorem dX5_count_139 : decode cX5_count 139 = .ok (.bipush 10, 2) := by decide +kernel
theorem dX5_count_141 : decode cX5_count 141 = .ok (.if_icmp .le 21, 3) := by decide +kernel
theorem dX5_count_144 : decode cX5_count 144 = .ok (.iload_n 1, 1) := by decide +kernel
theorem dX5_count_145 : decode cX5_count 145 = .ok (.bipush 16, 2) := by decide +kernel
theorem dX5_count_147 : decode cX5_count 147 = .ok (.if_icmp .gt 15, 3) := by decide +kernel
theorem dX5_count_150 : decode cX5_count 150 = .ok (.aload_n 0, 1) := by decide +kernel
theorem dX5_count_151 : decode cX5_count 151 = .ok (.getfield 44, 3) := by decide +kernel
theorem dX5_count_154 : decode cX5_count 154 = .ok (.iload_n 1, 1) := by decide +kernel
theorem dX5_count_155 : decode cX5_count 155 = .ok (.bipush 10, 2) := by decide +kernel
theorem dX5_count_157 : decode cX5_count 157 = .ok (.isub, 1) := by decide +kernel
theorem dX5_count_158 : decode cX5_count 158 = .ok (.iaload, 1) := by decide +kernel
theorem dX5_count_159 : decode cX5_count 159 = .ok (.goto 5, 3) := by decide +kernel
theorem dX5_count_162 : decode cX5_count 162 = .ok (.bipush (-9), 2) := by decide +kernel
theorem dX5_count_164 : decode cX5_count 164 = .ok (.ireturn, 1) := by decide +kernel
theorem dX5_blows_0 : decode cX5_blows 0 = .ok (.iload_n 1, 1) := by decide +kernel
theorem dX5_blows_1 : decode cX5_blows 1 = .ok (.ifCond .lt 9, 3) := by decide +kernel
theorem dX5_blows_4 : decode cX5_blows 4 = .ok (.iload_n 1, 1) := by decide +kernel
theorem dX5_blows_5 : decode cX5_blows 5 = .ok (.bipush 7, 2) := by decide +kernel
theorem dX5_blows_7 : decode cX5_blows 7 = .ok (.if_icmp .lt 10, 3) := by decide +kernel
theorem dX5_blows_10 : decode cX5_blows 10 = .ok (.aload_n 0, 1) := by decide +kernel
theorem dX5_blows_11 : decode cX5_blows 11 = .ok (.bipush (-2), 2) := by decide +kernel
theorem dX5_blows_13 : decode cX5_blows 13 = .ok (.invokevirtual 60, 3) := by decide +kernel
theorem dX5_blows_16 : decode cX5_blows 16 = .ok (.ireturn, 1) := by decide +kernel
theorem dX5_blows_17 : decode cX5_blows 17 = .ok (.iload_n 2, 1) := by decide +kernel
theorem dX5_blows_18 : decode cX5_blows 18 = .ok (.ifCond .lt 7, 3) := by decide +kernel
theorem dX5_blows_21 : decode cX5_blows 21 = .ok (.iload_n 3, 1) := by decide +kernel
theorem dX5_blows_22 : decode cX5_blows 22 = .ok (.ifCond .ge 10, 3) := by decide +kernel
theorem dX5_blows_25 : decode cX5_blows 25 = .ok (.aload_n 0, 1) := by decide +kernel
theorem dX5_blows_26 : decode cX5_blows 26 = .ok (.bipush (-4), 2) := by decide +kernel
theorem dX5_blows_28 : decode cX5_blows 28 = .ok (.invokevirtual 60, 3) := by decide +kernel
theorem dX5_blows_31 : decode cX5_blows 31 = .ok (.ireturn, 1) := by decide +kernel
theorem dX5_blows_32 : decode cX5_blows 32 = .ok (.aload_n 0, 1) := by decide +kernel
theorem dX5_blows_33 : decode cX5_blows 33 = .ok (.getfield 10, 3) := by decide +kernel
theorem dX5_blows_36 : decode cX5_blows 36 = .ok (.iload_n 1, 1) := by decide +kernel
theorem dX5_blows_37 : decode cX5_blows 37 = .ok (.iload_n 2, 1) := by decide +kernel
theorem dX5_blows_38 : decode cX5_blows 38 = .ok (.iload_n 3, 1) := by decide +kernel
theorem dX5_blows_39 : decode cX5_blows 39 = .ok (.invokevirtual 93, 3) := by decide +kernel
theorem dX5_blows_42 : decode cX5_blows 42 = .ok (.ifCond .ne 10, 3) := by decide +kernel
theorem dX5_blows_45 : decode cX5_blows 45 = .ok (.aload_n 0, 1) := by decide +kernel
theorem dX5_blows_46 : decode cX5_blows 46 = .ok (.bipush (-6), 2) := by decide +kernel
theorem dX5_blows_48 : decode cX5_blows 48 = .ok (.invokevirtual 60, 3) := by decide +kernel
theorem dX5_blows_51 : decode cX5_blows 51 = .ok (.ireturn, 1) := by decide +kernel
theorem dX5_blows_52 : decode cX5_blows 52 = .ok (.aload_n 0, 1) := by decide +kernel
theorem dX5_blows_53 : decode cX5_blows 53 = .ok (.iconst 0, 1) := by decide +kernel
theorem dX5_blows_54 : decode cX5_blows 54 = .ok (.putfield 27, 3) := by decide +kernel
theorem dX5_blows_57 : decode cX5_blows 57 = .ok (.aload_n 0, 1) := by decide +kernel
theorem dX5_blows_58 : decode cX5_blows 58 = .ok (.getfield 10, 3) := by decide +kernel
theorem dX5_blows_61 : decode cX5_blows 61 = .ok (.getfield 210, 3) := by decide +kernel
theorem dX5_blows_64 : decode cX5_blows 64 = .ok (.iconst 1, 1) := by decide +kernel
theorem dX5_blows_65 : decode cX5_blows 65 = .ok (.isub, 1) := by decide +kernel
theorem dX5_blows_66 : decode cX5_blows 66 = .ok (.ireturn, 1) := by decide +kernel
theorem dX5_comes_0 : decode cX5_comes 0 = .ok (.iload_n 1, 1) := by decide +kernel
theorem dX5_comes_1 : decode cX5_comes 1 = .ok (.ifCond .lt 9, 3) := by decide +kernel
theorem dX5_comes_4 : decode cX5_comes 4 = .ok (.iload_n 1, 1) := by decide +kernel
theorem dX5_comes_5 : decode cX5_comes 5 = .ok (.bipush 8, 2) := by decide +kernel
theorem dX5_comes_7 : decode cX5_comes 7 = .ok (.if_icmp .lt 10, 3) := by decide +kernel
theorem dX5_comes_10 : decode cX5_comes 10 = .ok (.aload_n 0, 1) := by decide +kernel
theorem dX5_comes_11 : decode cX5_comes 11 = .ok (.bipush (-2), 2) := by decide +kernel
theorem dX5_comes_13 : decode cX5_comes 13 = .ok (.invokevirtual 60, 3) := by decide +kernel
theorem dX5_comes_16 : decode cX5_comes 16 = .ok (.ireturn, 1) := by decide +kernel
theorem dX5_comes_17 : decode cX5_comes 17 = .ok (.iload_n 2, 1) := by decide +kernel
