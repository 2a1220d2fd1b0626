theorem dX4_become_112 : decode cX4_become 112 = .ok (.getfield 37, 3) := by decide +kernel
theorem dX4_become_115 : decode cX4_become 115 = .ok (.iconst 0, 1) := by decide +kernel
theorem dX4_become_116 : decode cX4_become 116 = .ok (.iconst 5, 1) := by decide +kernel
theorem dX4_become_117 : decode cX4_become 117 = .ok (.invokestatic 58, 3) := by decide +kernel
theorem dX4_become_120 : decode cX4_become 120 = .ok (.aload_n 1, 1) := by decide +kernel
theorem dX4_become_121 : decode cX4_become 121 = .ok (.getfield 40, 3) := by decide +kernel
theorem dX4_become_124 : decode cX4_become 124 = .ok (.iconst 0, 1) := by decide +kernel
theorem dX4_become_125 : decode cX4_become 125 = .ok (.aload_n 0, 1) := by decide +kernel
theorem dX4_become_126 : decode cX4_become 126 = .ok (.getfield 40, 3) := by decide +kernel
theorem dX4_become_129 : decode cX4_become 129 = .ok (.iconst 0, 1) := by decide +kernel
theorem dX4_become_130 : decode cX4_become 130 = .ok (.iconst 5, 1) := by decide +kernel
theorem dX4_become_131 : decode cX4_become 131 = .ok (.invokestatic 58, 3) := by decide +kernel
theorem dX4_become_134 : decode cX4_become 134 = .ok (.aload_n 1, 1) := by decide +kernel
theorem dX4_become_135 : decode cX4_become 135 = .ok (.getfield 43, 3) := by decide +kernel
theorem dX4_become_138 : decode cX4_become 138 = .ok (.iconst 0, 1) := by decide +kernel
theorem dX4_become_139 : decode cX4_become 139 = .ok (.aload_n 0, 1) := by decide +kernel
theorem dX4_become_140 : decode cX4_become 140 = .ok (.getfield 43, 3) := by decide +kernel
theorem dX4_become_143 : decode cX4_become 143 = .ok (.iconst 0, 1) := by decide +kernel
theorem dX4_become_144 : decode cX4_become 144 = .ok (.iconst 5, 1) := by decide +kernel
theorem dX4_become_145 : decode cX4_become 145 = .ok (.invokestatic 58, 3) := by decide +kernel
theorem dX4_become_148 : decode cX4_become 148 = .ok (.aload_n 1, 1) := by decide +kernel
theorem dX4_become_149 : decode cX4_become 149 = .ok (.getfield 46, 3) := by decide +kernel
theorem dX4_become_152 : decode cX4_become 152 = .ok (.iconst 0, 1) := by decide +kernel
theorem dX4_become_153 : decode cX4_become 153 = .ok (.aload_n 0, 1) := by decide +kernel
theorem dX4_become_154 : decode cX4_become 154 = .ok (.getfield 46, 3) := by decide +kernel
theorem dX4_become_157 : decode cX4_become 157 = .ok (.iconst 0, 1) := by decide +kernel
theorem dX4_become_158 : decode cX4_become 158 = .ok (.iconst 5, 1) := by decide +kernel
theorem dX4_become_159 : decode cX4_become 159 = .ok (.invokestatic 58, 3) := by decide +kernel
theorem dX4_become_162 : decode cX4_become 162 = .ok (.aload_n 0, 1) := by decide +kernel
theorem dX4_become_163 : decode cX4_become 163 = .ok (.aload_n 1, 1) := by decide +kernel
theorem dX4_become_164 : decode cX4_become 164 = .ok (.getfield 49, 3) := by decide +kernel
theorem dX4_become_167 : decode cX4_become 167 = .ok (.putfield 49, 3) := by decide +kernel
theorem dX4_become_170 : decode cX4_become 170 = .ok (.aload_n 0, 1) := by decide +kernel
theorem dX4_become_171 : decode cX4_become 171 = .ok (.aload_n 1, 1) := by decide +kernel
theorem dX4_become_172 : decode cX4_become 172 = .ok (.getfield 52, 3) := by decide +kernel
theorem dX4_become_175 : decode cX4_become 175 = .ok (.putfield 52, 3) := by decide +kernel
theorem dX4_become_178 : decode cX4_become 178 = .ok (.aload_n 0, 1) := by decide +kernel
theorem dX4_become_179 : decode cX4_become 179 = .ok (.aload_n 1, 1) := by decide +kernel
theorem dX4_become_180 : decode cX4_become 180 = .ok (.getfield 55, 3) := by decide +kernel
theorem dX4_become_183 : decode cX4_become 183 = .ok (.putfield 55, 3) := by decide +kernel
theorem dX4_become_186 : decode cX4_become 186 = .ok (.return_, 1) := by decide +kernel
theorem dX4_hasThing_0 : decode cX4_hasThing 0 = .ok (.iload_n 1, 1) := by decide +kernel
theorem dX4_hasThing_1 : decode cX4_hasThing 1 = .ok (.ifCond .lt 15, 3) := by decide +kernel
theorem dX4_hasThing_4 : decode cX4_hasThing 4 = .ok (.iload_n 1, 1) := by decide +kernel
theorem dX4_hasThing_5 : decode cX4_hasThing 5 = .ok (.aload_n 0, 1) := by decide +kernel
theorem dX4_hasThing_6 : decode cX4_hasThing 6 = .ok (.getfield 34, 3) := by decide +kernel
theorem dX4_hasThing_9 : decode cX4_hasThing 9 = .ok (.if_icmp .ge 7, 3) := by decide +kernel
theorem dX4_hasThing_12 : decode cX4_hasThing 12 = .ok (.iconst 1, 1) := by decide +kernel
theorem dX4_hasThing_13 : decode cX4_hasThing 13 = .ok (.goto 4, 3) := by decide +kernel
theorem dX4_hasThing_16 : decode cX4_hasThing 16 = .ok (.iconst 0, 1) := by decide +kernel
theorem dX4_hasThing_17 : decode cX4_hasThing 17 = .ok (.ireturn, 1) := by decide +kernel
theorem dX4_hasPerson_0 : decode cX4_hasPerson 0 = .ok (.iload_n 1, 1) := by decide +kernel
theorem dX4_hasPerson_1 : decode cX4_hasPerson 1 = .ok (.ifCond .lt 15, 3) := by decide +kernel
theorem dX4_hasPerson_4 : decode cX4_hasPerson 4 = .ok (.iload_n 1, 1) := by decide +kernel
theorem dX4_hasPerson_5 : decode cX4_hasPerson 5 = .ok (.aload_n 0, 1) := by decide +kernel
theorem dX4_hasPerson_6 : decode cX4_hasPerson 6 = .ok (.getfield 49, 3) := by decide +kernel
theorem dX4_hasPerson_9 : decode cX4_hasPerson 9 = .ok (.if_icmp .ge 7, 3) := by decide +kernel
theorem dX4_hasPerson_12 : decode cX4_hasPerson 12 = .ok (.iconst 1, 1) := by decide +kernel
theorem dX4_hasPerson_13 : decode cX4_hasPerson 13 = .ok (.goto 4, 3) := by decide +kernel
theorem dX4_hasPerson_16 : decode cX4_hasPerson 16 = .ok (.iconst 0, 1) := by decide +kernel
theorem dX4_hasPerson_17 : decode cX4_hasPerson 17 = .ok (.ireturn, 1) := by decide +kernel
theorem dX4_addFront_0 : decode cX4_addFront 0 = .ok (.iload_n 2, 1) := by decide +kernel
theorem dX4_addFront_1 : decode cX4_addFront 1 = .ok (.bipush 9, 2) := by decide +kernel
theorem dX4_addFront_3 : decode cX4_addFront 3 = .ok (.if_icmp .gt 18, 3) := by decide +kernel
theorem dX4_addFront_6 : decode cX4_addFront 6 = .ok (.iload_n 3, 1) := by decide +kernel
theorem dX4_addFront_7 : decode cX4_addFront 7 = .ok (.bipush 9, 2) := by decide +kernel
theorem dX4_addFront_9 : decode cX4_addFront 9 = .ok (.if_icmp .gt 12, 3) := by decide +kernel
theorem dX4_addFront_12 : decode cX4_addFront 12 = .ok (.aload_n 0, 1) := by decide +kernel
theorem dX4_addFront_13 : decode cX4_addFront 13 = .ok (.getfield 21, 3) := by decide +kernel
theorem dX4_addFront_16 : decode cX4_addFront 16 = .ok (.bipush 6, 2) := by decide +kernel
theorem dX4_addFront_18 : decode cX4_addFront 18 = .ok (.if_icmp .lt 5, 3) := by decide +kernel
theorem dX4_addFront_21 : decode cX4_addFront 21 = .ok (.iconst 0, 1) := by decide +kernel
theorem dX4_addFront_22 : decode cX4_addFront 22 = .ok (.ireturn, 1) := by decide +kernel
theorem dX4_addFront_23 : decode cX4_addFront 23 = .ok (.aload_n 0, 1) := by decide +kernel
theorem dX4_addFront_24 : decode cX4_addFront 24 = .ok (.getfield 9, 3) := by decide +kernel
theorem dX4_addFront_27 : decode cX4_addFront 27 = .ok (.aload_n 0, 1) := by decide +kernel
theorem dX4_addFront_28 : decode cX4_addFront 28 = .ok (.getfield 21, 3) := by decide +kernel
theorem dX4_addFront_31 : decode cX4_addFront 31 = .ok (.iload_n 1, 1) := by decide +kernel
theorem dX4_addFront_32 : decode cX4_addFront 32 = .ok (.iastore, 1) := by decide +kernel
theorem dX4_addFront_33 : decode cX4_addFront 33 = .ok (.aload_n 0, 1) := by decide +kernel
theorem dX4_addFront_34 : decode cX4_addFront 34 = .ok (.getfield 15, 3) := by decide +kernel
theorem dX4_addFront_37 : decode cX4_addFront 37 = .ok (.aload_n 0, 1) := by decide +kernel
theorem dX4_addFront_38 : decode cX4_addFront 38 = .ok (.getfield 21, 3) := by decide +kernel
theorem dX4_addFront_41 : decode cX4_addFront 41 = .ok (.iload_n 2, 1) := by decide +kernel
theorem dX4_addFront_42 : decode cX4_addFront 42 = .ok (.iastore, 1) := by decide +kernel
theorem dX4_addFront_43 : decode cX4_addFront 43 = .ok (.aload_n 0, 1) := by decide +kernel
theorem dX4_addFront_44 : decode cX4_addFront 44 = .ok (.getfield 18, 3) := by decide +kernel
theorem dX4_addFront_47 : decode cX4_addFront 47 = .ok (.aload_n 0, 1) := by decide +kernel
theorem dX4_addFront_48 : decode cX4_addFront 48 = .ok (.getfield 21, 3) := by decide +kernel
theorem dX4_addFront_51 : decode cX4_addFront 51 = .ok (.iload_n 3, 1) := by decide +kernel
theorem dX4_addFront_52 : decode cX4_addFront 52 = .ok (.iastore, 1) := by decide +kernel
theorem dX4_addFront_53 : decode cX4_addFront 53 = .ok (.aload_n 0, 1) := by decide +kernel
theorem dX4_addFront_54 : decode cX4_addFront 54 = .ok (.dup, 1) := by decide +kernel
theorem dX4_addFront_55 : decode cX4_addFront 55 = .ok (.getfield 21, 3) := by decide +kernel
theorem dX4_addFront_58 : decode cX4_addFront 58 = .ok (.iconst 1, 1) := by decide +kernel
theorem dX4_addFront_59 : decode cX4_addFront 59 = .ok (.iadd, 1) := by decide +kernel
theorem dX4_addFront_60 : decode cX4_addFront 60 = .ok (.putfield 21, 3) := by decide +kernel
theorem dX4_addFront_63 : decode cX4_addFront 63 = .ok (.iconst 1, 1) := by decide +kernel
theorem dX4_addFront_64 : decode cX4_addFront 64 = .ok (.ireturn, 1) := by decide +kernel
theorem dX4_addPerson_0 : decode cX4_addPerson 0 = .ok (.iload_n 3, 1) := by decide +kernel
theorem dX4_addPerson_1 : decode cX4_addPerson 1 = .ok (.invokestatic 64, 3) := by decide +kernel
theorem dX4_addPerson_4 : decode cX4_addPerson 4 = .ok (.ifCond .eq 11, 3) := by decide +kernel
theorem dX4_addPerson_7 : decode cX4_addPerson 7 = .ok (.aload_n 0, 1) := by decide +kernel
theorem dX4_addPerson_8 : decode cX4_addPerson 8 = .ok (.getfield 49, 3) := by decide +kernel
theorem dX4_addPerson_11 : decode cX4_addPerson 11 = .ok (.iconst 5, 1) := by decide +kernel
theorem dX4_addPerson_12 : decode cX4_addPerson 12 = .ok (.if_icmp .lt 5, 3) := by decide +kernel
theorem dX4_addPerson_15 : decode cX4_addPerson 15 = .ok (.iconst 0, 1) := by decide +kernel
theorem dX4_addPerson_16 : decode cX4_addPerson 16 = .ok (.ireturn, 1) := by decide +kernel
theorem dX4_addPerson_17 : decode cX4_addPerson 17 = .ok (.aload_n 0, 1) := by decide +kernel
theorem dX4_addPerson_18 : decode cX4_addPerson 18 = .ok (.getfield 37, 3) := by decide +kernel
theorem dX4_addPerson_21 : decode cX4_addPerson 21 = .ok (.aload_n 0, 1) := by decide +kernel
theorem dX4_addPerson_22 : decode cX4_addPerson 22 = .ok (.getfield 49, 3) := by decide +kernel
theorem dX4_addPerson_25 : decode cX4_addPerson 25 = .ok (.iload_n 1, 1) := by decide +kernel
theorem dX4_addPerson_26 : decode cX4_addPerson 26 = .ok (.iastore, 1) := by decide +kernel
theorem dX4_addPerson_27 : decode cX4_addPerson 27 = .ok (.aload_n 0, 1) := by decide +kernel
theorem dX4_addPerson_28 : decode cX4_addPerson 28 = .ok (.getfield 40, 3) := by decide +kernel
theorem dX4_addPerson_31 : decode cX4_addPerson 31 = .ok (.aload_n 0, 1) := by decide +kernel
theorem dX4_addPerson_32 : decode cX4_addPerson 32 = .ok (.getfield 49, 3) := by decide +kernel
theorem dX4_addPerson_35 : decode cX4_addPerson 35 = .ok (.iload_n 2, 1) := by decide +kernel
theorem dX4_addPerson_36 : decode cX4_addPerson 36 = .ok (.iastore, 1) := by decide +kernel
theorem dX4_addPerson_37 : decode cX4_addPerson 37 = .ok (.aload_n 0, 1) := by decide +kernel
theorem dX4_addPerson_38 : decode cX4_addPerson 38 = .ok (.getfield 43, 3) := by decide +kernel
theorem dX4_addPerson_41 : decode cX4_addPerson 41 = .ok (.aload_n 0, 1) := by decide +kernel
theorem dX4_addPerson_42 : decode cX4_addPerson 42 = .ok (.getfield 49, 3) := by decide +kernel
theorem dX4_addPerson_45 : decode cX4_addPerson 45 = .ok (.iload_n 3, 1) := by decide +kernel
theorem dX4_addPerson_46 : decode cX4_addPerson 46 = .ok (.iastore, 1) := by decide +kernel
theorem dX4_addPerson_47 : decode cX4_addPerson 47 = .ok (.aload_n 0, 1) := by decide +kernel
theorem dX4_addPerson_48 : decode cX4_addPerson 48 = .ok (.getfield 46, 3) := by decide +kernel
theorem dX4_addPerson_51 : decode cX4_addPerson 51 = .ok (.aload_n 0, 1) := by decide +kernel
theorem dX4_addPerson_52 : decode cX4_addPerson 52 = .ok (.getfield 49, 3) := by decide +kernel
theorem dX4_addPerson_55 : decode cX4_addPerson 55 = .ok (.iload_n 3, 1) := by decide +kernel
theorem dX4_addPerson_56 : decode cX4_addPerson 56 = .ok (.iastore, 1) := by decide +kernel
theorem dX4_addPerson_57 : decode cX4_addPerson 57 = .ok (.aload_n 0, 1) := by decide +kernel
theorem dX4_addPerson_58 : decode cX4_addPerson 58 = .ok (.dup, 1) := by decide +kernel
theorem dX4_addPerson_59 : decode cX4_addPerson 59 = .ok (.getfield 49, 3) := by decide +kernel
theorem dX4_addPerson_62 : decode cX4_addPerson 62 = .ok (.iconst 1, 1) := by decide +kernel
theorem dX4_addPerson_63 : decode cX4_addPerson 63 = .ok (.iadd, 1) := by decide +kernel
theorem dX4_addPerson_64 : decode cX4_addPerson 64 = .ok (.putfield 49, 3) := by decide +kernel
theorem dX4_addPerson_67 : decode cX4_addPerson 67 = .ok (.iconst 1, 1) := by decide +kernel
theorem dX4_addPerson_68 : decode cX4_addPerson 68 = .ok (.ireturn, 1) := by decide +kernel
theorem dX4_addThing_0 : decode cX4_addThing 0 = .ok (.iload_n 2, 1) := by decide +kernel
theorem dX4_addThing_1 : decode cX4_addThing 1 = .ok (.invokestatic 64, 3) := by decide +kernel
theorem dX4_addThing_4 : decode cX4_addThing 4 = .ok (.ifCond .eq 12, 3) := by decide +kernel
theorem dX4_addThing_7 : decode cX4_addThing 7 = .ok (.aload_n 0, 1) := by decide +kernel
theorem dX4_addThing_8 : decode cX4_addThing 8 = .ok (.getfield 34, 3) := by decide +kernel
theorem dX4_addThing_11 : decode cX4_addThing 11 = .ok (.bipush 8, 2) := by decide +kernel
theorem dX4_addThing_13 : decode cX4_addThing 13 = .ok (.if_icmp .lt 5, 3) := by decide +kernel
theorem dX4_addThing_16 : decode cX4_addThing 16 = .ok (.iconst 0, 1) := by decide +kernel
theorem dX4_addThing_17 : decode cX4_addThing 17 = .ok (.ireturn, 1) := by decide +kernel
theorem dX4_addThing_18 : decode cX4_addThing 18 = .ok (.aload_n 0, 1) := by decide +kernel
theorem dX4_addThing_19 : decode cX4_addThing 19 = .ok (.getfield 25, 3) := by decide +kernel
theorem dX4_addThing_22 : decode cX4_addThing 22 = .ok (.aload_n 0, 1) := by decide +kernel
theorem dX4_addThing_23 : decode cX4_addThing 23 = .ok (.getfield 34, 3) := by decide +kernel
theorem dX4_addThing_26 : decode cX4_addThing 26 = .ok (.iload_n 1, 1) := by decide +kernel
theorem dX4_addThing_27 : decode cX4_addThing 27 = .ok (.iastore, 1) := by decide +kernel
theorem dX4_addThing_28 : decode cX4_addThing 28 = .ok (.aload_n 0, 1) := by decide +kernel
theorem dX4_addThing_29 : decode cX4_addThing 29 = .ok (.getfield 28, 3) := by decide +kernel
theorem dX4_addThing_32 : decode cX4_addThing 32 = .ok (.aload_n 0, 1) := by decide +kernel
theorem dX4_addThing_33 : decode cX4_addThing 33 = .ok (.getfield 34, 3) := by decide +kernel
theorem dX4_addThing_36 : decode cX4_addThing 36 = .ok (.iload_n 2, 1) := by decide +kernel
theorem dX4_addThing_37 : decode cX4_addThing 37 = .ok (.iastore, 1) := by decide +kernel
theorem dX4_addThing_38 : decode cX4_addThing 38 = .ok (.aload_n 0, 1) := by decide +kernel
theorem dX4_addThing_39 : decode cX4_addThing 39 = .ok (.getfield 31, 3) := by decide +kernel
theorem dX4_addThing_42 : decode cX4_addThing 42 = .ok (.aload_n 0, 1) := by decide +kernel
theorem dX4_addThing_43 : decode cX4_addThing 43 = .ok (.getfield 34, 3) := by decide +kernel
theorem dX4_addThing_46 : decode cX4_addThing 46 = .ok (.iconst (-1), 1) := by decide +kernel
theorem dX4_addThing_47 : decode cX4_addThing 47 = .ok (.iastore, 1) := by decide +kernel
theorem dX4_addThing_48 : decode cX4_addThing 48 = .ok (.aload_n 0, 1) := by decide +kernel
theorem dX4_addThing_49 : decode cX4_addThing 49 = .ok (.dup, 1) := by decide +kernel
theorem dX4_addThing_50 : decode cX4_addThing 50 = .ok (.getfield 34, 3) := by decide +kernel
theorem dX4_addThing_53 : decode cX4_addThing 53 = .ok (.iconst 1, 1) := by decide +kernel
theorem dX4_addThing_54 : decode cX4_addThing 54 = .ok (.iadd, 1) := by decide +kernel
theorem dX4_addThing_55 : decode cX4_addThing 55 = .ok (.putfield 34, 3) := by decide +kernel
theorem dX4_addThing_58 : decode cX4_addThing 58 = .ok (.iconst 1, 1) := by decide +kernel
theorem dX4_addThing_59 : decode cX4_addThing 59 = .ok (.ireturn, 1) := by decide +kernel
theorem dX4_worthsOf_0 : decode cX4_worthsOf 0 = .ok (.iconst 0, 1) := by decide +kernel
theorem dX4_worthsOf_1 : decode cX4_worthsOf 1 = .ok (.istore_n 2, 1) := by decide +kernel
theorem dX4_worthsOf_2 : decode cX4_worthsOf 2 = .ok (.iconst 0, 1) := by decide +kernel
theorem dX4_worthsOf_3 : decode cX4_worthsOf 3 = .ok (.istore_n 3, 1) := by decide +kernel
theorem dX4_worthsOf_4 : decode cX4_worthsOf 4 = .ok (.iload_n 3, 1) := by decide +kernel
theorem dX4_worthsOf_5 : decode cX4_worthsOf 5 = .ok (.aload_n 0, 1) := by decide +kernel
theorem dX4_worthsOf_6 : decode cX4_worthsOf 6 = .ok (.getfield 34, 3) := by decide +kernel
theorem dX4_worthsOf_9 : decode cX4_worthsOf 9 = .ok (.if_icmp .ge 28, 3) := by decide +kernel
theorem dX4_worthsOf_12 : decode cX4_worthsOf 12 = .ok (.aload_n 0, 1) := by decide +kernel
theorem dX4_worthsOf_13 : decode cX4_worthsOf 13 = .ok (.getfield 31, 3) := by decide +kernel
theorem dX4_worthsOf_16 : decode cX4_worthsOf 16 = .ok (.iload_n 3, 1) := by decide +kernel
theorem dX4_worthsOf_17 : decode cX4_worthsOf 17 = .ok (.iaload, 1) := by decide +kernel
theorem dX4_worthsOf_18 : decode cX4_worthsOf 18 = .ok (.iload_n 1, 1) := by decide +kernel
theorem dX4_worthsOf_19 : decode cX4_worthsOf 19 = .ok (.if_icmp .ne 12, 3) := by decide +kernel
theorem dX4_worthsOf_22 : decode cX4_worthsOf 22 = .ok (.iload_n 2, 1) := by decide +kernel
theorem dX4_worthsOf_23 : decode cX4_worthsOf 23 = .ok (.aload_n 0, 1) := by decide +kernel
theorem dX4_worthsOf_24 : decode cX4_worthsOf 24 = .ok (.getfield 25, 3) := by decide +kernel
theorem dX4_worthsOf_27 : decode cX4_worthsOf 27 = .ok (.iload_n 3, 1) := by decide +kernel
theorem dX4_worthsOf_28 : decode cX4_worthsOf 28 = .ok (.iaload, 1) := by decide +kernel
theorem dX4_worthsOf_29 : decode cX4_worthsOf 29 = .ok (.iadd, 1) := by decide +kernel
theorem dX4_worthsOf_30 : decode cX4_worthsOf 30 = .ok (.istore_n 2, 1) := by decide +kernel
theorem dX4_worthsOf_31 : decode cX4_worthsOf 31 = .ok (.iinc 3 1, 3) := by decide +kernel
theorem dX4_worthsOf_34 : decode cX4_worthsOf 34 = .ok (.goto (-30), 3) := by decide +kernel
theorem dX4_worthsOf_37 : decode cX4_worthsOf 37 = .ok (.iload_n 2, 1) := by decide +kernel
theorem dX4_worthsOf_38 : decode cX4_worthsOf 38 = .ok (.ireturn, 1) := by decide +kernel
theorem dX4_nobodysThings_0 : decode cX4_nobodysThings 0 = .ok (.iconst 0, 1) := by decide +kernel
theorem dX4_nobodysThings_1 : decode cX4_nobodysThings 1 = .ok (.istore_n 1, 1) := by decide +kernel
theorem dX4_nobodysThings_2 : decode cX4_nobodysThings 2 = .ok (.iconst 0, 1) := by decide +kernel
theorem dX4_nobodysThings_3 : decode cX4_nobodysThings 3 = .ok (.istore_n 2, 1) := by decide +kernel
theorem dX4_nobodysThings_4 : decode cX4_nobodysThings 4 = .ok (.iload_n 2, 1) := by decide +kernel
theorem dX4_nobodysThings_5 : decode cX4_nobodysThings 5 = .ok (.aload_n 0, 1) := by decide +kernel
theorem dX4_nobodysThings_6 : decode cX4_nobodysThings 6 = .ok (.getfield 34, 3) := by decide +kernel
theorem dX4_nobodysThings_9 : decode cX4_nobodysThings 9 = .ok (.if_icmp .ge 25, 3) := by decide +kernel
theorem dX4_nobodysThings_12 : decode cX4_nobodysThings 12 = .ok (.aload_n 0, 1) := by decide +kernel
theorem dX4_nobodysThings_13 : decode cX4_nobodysThings 13 = .ok (.getfield 31, 3) := by decide +kernel
theorem dX4_nobodysThings_16 : decode cX4_nobodysThings 16 = .ok (.iload_n 2, 1) := by decide +kernel
theorem dX4_nobodysThings_17 : decode cX4_nobodysThings 17 = .ok (.iaload, 1) := by decide +kernel
theorem dX4_nobodysThings_18 : decode cX4_nobodysThings 18 = .ok (.iconst (-1), 1) := by decide +kernel
theorem dX4_nobodysThings_19 : decode cX4_nobodysThings 19 = .ok (.if_icmp .ne 9, 3) := by decide +kernel
theorem dX4_nobodysThings_22 : decode cX4_nobodysThings 22 = .ok (.iload_n 1, 1) := by decide +kernel
theorem dX4_nobodysThings_23 : decode cX4_nobodysThings 23 = .ok (.iconst 1, 1) := by decide +kernel
theorem dX4_nobodysThings_24 : decode cX4_nobodysThings 24 = .ok (.iload_n 2, 1) := by decide +kernel
theorem dX4_nobodysThings_25 : decode cX4_nobodysThings 25 = .ok (.ishl, 1) := by decide +kernel
theorem dX4_nobodysThings_26 : decode cX4_nobodysThings 26 = .ok (.ior, 1) := by decide +kernel
theorem dX4_nobodysThings_27 : decode cX4_nobodysThings 27 = .ok (.istore_n 1, 1) := by decide +kernel
theorem dX4_nobodysThings_28 : decode cX4_nobodysThings 28 = .ok (.iinc 2 1, 3) := by decide +kernel
theorem dX4_nobodysThings_31 : decode cX4_nobodysThings 31 = .ok (.goto (-27), 3) := by decide +kernel
theorem dX4_nobodysThings_34 : decode cX4_nobodysThings 34 = .ok (.iload_n 1, 1) := by decide +kernel
theorem dX4_nobodysThings_35 : decode cX4_nobodysThings 35 = .ok (.ireturn, 1) := by decide +kernel
theorem dX4_ownedThings_0 : decode cX4_ownedThings 0 = .ok (.aload_n 0, 1) := by decide +kernel
theorem dX4_ownedThings_1 : decode cX4_ownedThings 1 = .ok (.getfield 34, 3) := by decide +kernel
theorem dX4_ownedThings_4 : decode cX4_ownedThings 4 = .ok (.aload_n 0, 1) := by decide +kernel
theorem dX4_ownedThings_5 : decode cX4_ownedThings 5 = .ok (.invokevirtual 77, 3) := by decide +kernel
theorem dX4_ownedThings_8 : decode cX4_ownedThings 8 = .ok (.invokestatic 81, 3) := by decide +kernel
theorem dX4_ownedThings_11 : decode cX4_ownedThings 11 = .ok (.isub, 1) := by decide +kernel
theorem dX4_ownedThings_12 : decode cX4_ownedThings 12 = .ok (.ireturn, 1) := by decide +kernel
theorem dX4_peopleOn_0 : decode cX4_peopleOn 0 = .ok (.iconst 0, 1) := by decide +kernel
theorem dX4_peopleOn_1 : decode cX4_peopleOn 1 = .ok (.istore_n 2, 1) := by decide +kernel
theorem dX4_peopleOn_2 : decode cX4_peopleOn 2 = .ok (.iconst 0, 1) := by decide +kernel
theorem dX4_peopleOn_3 : decode cX4_peopleOn 3 = .ok (.istore_n 3, 1) := by decide +kernel
theorem dX4_peopleOn_4 : decode cX4_peopleOn 4 = .ok (.iload_n 3, 1) := by decide +kernel
theorem dX4_peopleOn_5 : decode cX4_peopleOn 5 = .ok (.aload_n 0, 1) := by decide +kernel
theorem dX4_peopleOn_6 : decode cX4_peopleOn 6 = .ok (.getfield 49, 3) := by decide +kernel
theorem dX4_peopleOn_9 : decode cX4_peopleOn 9 = .ok (.if_icmp .ge 25, 3) := by decide +kernel
theorem dX4_peopleOn_12 : decode cX4_peopleOn 12 = .ok (.aload_n 0, 1) := by decide +kernel
theorem dX4_peopleOn_13 : decode cX4_peopleOn 13 = .ok (.getfield 46, 3) := by decide +kernel
theorem dX4_peopleOn_16 : decode cX4_peopleOn 16 = .ok (.iload_n 3, 1) := by decide +kernel
theorem dX4_peopleOn_17 : decode cX4_peopleOn 17 = .ok (.iaload, 1) := by decide +kernel
theorem dX4_peopleOn_18 : decode cX4_peopleOn 18 = .ok (.iload_n 1, 1) := by decide +kernel
theorem dX4_peopleOn_19 : decode cX4_peopleOn 19 = .ok (.if_icmp .ne 9, 3) := by decide +kernel
theorem dX4_peopleOn_22 : decode cX4_peopleOn 22 = .ok (.iload_n 2, 1) := by decide +kernel
theorem dX4_peopleOn_23 : decode cX4_peopleOn 23 = .ok (.iconst 1, 1) := by decide +kernel
theorem dX4_peopleOn_24 : decode cX4_peopleOn 24 = .ok (.iload_n 3, 1) := by decide +kernel
theorem dX4_peopleOn_25 : decode cX4_peopleOn 25 = .ok (.ishl, 1) := by decide +kernel
theorem dX4_peopleOn_26 : decode cX4_peopleOn 26 = .ok (.ior, 1) := by decide +kernel
theorem dX4_peopleOn_27 : decode cX4_peopleOn 27 = .ok (.istore_n 2, 1) := by decide +kernel
theorem dX4_peopleOn_28 : decode cX4_peopleOn 28 = .ok (.iinc 3 1, 3) := by decide +kernel
theorem dX4_peopleOn_31 : decode cX4_peopleOn 31 = .ok (.goto (-27), 3) := by decide +kernel
theorem dX4_peopleOn_34 : decode cX4_peopleOn 34 = .ok (.iload_n 2, 1) := by decide +kernel
theorem dX4_peopleOn_35 : decode cX4_peopleOn 35 = .ok (.ireturn, 1) := by decide +kernel
theorem dX4_thingsOn_0 : decode cX4_thingsOn 0 = .ok (.iconst 0, 1) := by decide +kernel
theorem dX4_thingsOn_1 : decode cX4_thingsOn 1 = .ok (.istore_n 2, 1) := by decide +kernel
theorem dX4_thingsOn_2 : decode cX4_thingsOn 2 = .ok (.iconst 0, 1) := by decide +kernel
theorem dX4_thingsOn_3 : decode cX4_thingsOn 3 = .ok (.istore_n 3, 1) := by decide +kernel
theorem dX4_thingsOn_4 : decode cX4_thingsOn 4 = .ok (.iload_n 3, 1) := by decide +kernel
theorem dX4_thingsOn_5 : decode cX4_thingsOn 5 = .ok (.aload_n 0, 1) := by decide +kernel
theorem dX4_thingsOn_6 : decode cX4_thingsOn 6 = .ok (.getfield 34, 3) := by decide +kernel
theorem dX4_thingsOn_9 : decode cX4_thingsOn 9 = .ok (.if_icmp .ge 25, 3) := by decide +kernel
theorem dX4_thingsOn_12 : decode cX4_thingsOn 12 = .ok (.aload_n 0, 1) := by decide +kernel
theorem dX4_thingsOn_13 : decode cX4_thingsOn 13 = .ok (.getfield 28, 3) := by decide +kernel
theorem dX4_thingsOn_16 : decode cX4_thingsOn 16 = .ok (.iload_n 3, 1) := by decide +kernel
theorem dX4_thingsOn_17 : decode cX4_thingsOn 17 = .ok (.iaload, 1) := by decide +kernel
theorem dX4_thingsOn_18 : decode cX4_thingsOn 18 = .ok (.iload_n 1, 1) := by decide +kernel
theorem dX4_thingsOn_19 : decode cX4_thingsOn 19 = .ok (.if_icmp .ne 9, 3) := by decide +kernel
theorem dX4_thingsOn_22 : decode cX4_thingsOn 22 = .ok (.iload_n 2, 1) := by decide +kernel
theorem dX4_thingsOn_23 : decode cX4_thingsOn 23 = .ok (.iconst 1, 1) := by decide +kernel
theorem dX4_thingsOn_24 : decode cX4_thingsOn 24 = .ok (.iload_n 3, 1) := by decide +kernel
theorem dX4_thingsOn_25 : decode cX4_thingsOn 25 = .ok (.ishl, 1) := by decide +kernel
theorem dX4_thingsOn_26 : decode cX4_thingsOn 26 = .ok (.ior, 1) := by decide +kernel
theorem dX4_thingsOn_27 : decode cX4_thingsOn 27 = .ok (.istore_n 2, 1) := by decide +kernel
theorem dX4_thingsOn_28 : decode cX4_thingsOn 28 = .ok (.iinc 3 1, 3) := by decide +kernel
theorem dX4_thingsOn_31 : decode cX4_thingsOn 31 = .ok (.goto (-27), 3) := by decide +kernel
theorem dX4_thingsOn_34 : decode cX4_thingsOn 34 = .ok (.iload_n 2, 1) := by decide +kernel
theorem dX4_thingsOn_35 : decode cX4_thingsOn 35 = .ok (.ireturn, 1) := by decide +kernel
theorem dX5_init_0 : decode cX5_init 0 = .ok (.aload_n 0, 1) := by decide +kernel
theorem dX5_init_1 : decode cX5_init 1 = .ok (.invokespecial 1, 3) := by decide +kernel
theorem dX5_init_4 : decode cX5_init 4 = .ok (.aload_n 0, 1) := by decide +kernel
theorem dX5_init_5 : decode cX5_init 5 = .ok (.new 7, 3) := by decide +kernel
theorem dX5_init_8 : decode cX5_init 8 = .ok (.dup, 1) := by decide +kernel
theorem dX5_init_9 : decode cX5_init 9 = .ok (.invokespecial 9, 3) := by decide +kernel
theorem dX5_init_12 : decode cX5_init 12 = .ok (.putfield 10, 3) := by decide +kernel
theorem dX5_init_15 : decode cX5_init 15 = .ok (.aload_n 0, 1) := by decide +kernel
theorem dX5_init_16 : decode cX5_init 16 = .ok (.new 7, 3) := by decide +kernel
theorem dX5_init_19 : decode cX5_init 19 = .ok (.dup, 1) := by decide +kernel
theorem dX5_init_20 : decode cX5_init 20 = .ok (.invokespecial 9, 3) := by decide +kernel
theorem dX5_init_23 : decode cX5_init 23 = .ok (.putfield 16, 3) := by decide +kernel
theorem dX5_init_26 : decode cX5_init 26 = .ok (.aload_n 0, 1) := by decide +kernel
theorem dX5_init_27 : decode cX5_init 27 = .ok (.iconst 0, 1) := by decide +kernel
theorem dX5_init_28 : decode cX5_init 28 = .ok (.putfield 19, 3) := by decide +kernel
theorem dX5_init_31 : decode cX5_init 31 = .ok (.aload_n 0, 1) := by decide +kernel
theorem dX5_init_32 : decode cX5_init 32 = .ok (.bipush 8, 2) := by decide +kernel
theorem dX5_init_34 : decode cX5_init 34 = .ok (.anewarray 7, 3) := by decide +kernel
theorem dX5_init_37 : decode cX5_init 37 = .ok (.putfield 23, 3) := by decide +kernel
theorem dX5_init_40 : decode cX5_init 40 = .ok (.aload_n 0, 1) := by decide +kernel
theorem dX5_init_41 : decode cX5_init 41 = .ok (.iconst 0, 1) := by decide +kernel
theorem dX5_init_42 : decode cX5_init 42 = .ok (.putfield 27, 3) := by decide +kernel
theorem dX5_init_45 : decode cX5_init 45 = .ok (.aload_n 0, 1) := by decide +kernel
theorem dX5_init_46 : decode cX5_init 46 = .ok (.bipush 96, 2) := by decide +kernel
theorem dX5_init_48 : decode cX5_init 48 = .ok (.newarray .int, 2) := by decide +kernel
theorem dX5_init_50 : decode cX5_init 50 = .ok (.putfield 31, 3) := by decide +kernel
theorem dX5_init_53 : decode cX5_init 53 = .ok (.aload_n 0, 1) := by decide +kernel
theorem dX5_init_54 : decode cX5_init 54 = .ok (.iconst 0, 1) := by decide +kernel
theorem dX5_init_55 : decode cX5_init 55 = .ok (.putfield 35, 3) := by decide +kernel
theorem dX5_init_58 : decode cX5_init 58 = .ok (.aload_n 0, 1) := by decide +kernel
theorem dX5_init_59 : decode cX5_init 59 = .ok (.bipush 12, 2) := by decide +kernel
theorem dX5_init_61 : decode cX5_init 61 = .ok (.newarray .int, 2) := by decide +kernel
theorem dX5_init_63 : decode cX5_init 63 = .ok (.putfield 38, 3) := by decide +kernel
theorem dX5_init_66 : decode cX5_init 66 = .ok (.aload_n 0, 1) := by decide +kernel
theorem dX5_init_67 : decode cX5_init 67 = .ok (.iconst 0, 1) := by decide +kernel
theorem dX5_init_68 : decode cX5_init 68 = .ok (.putfield 41, 3) := by decide +kernel
theorem dX5_init_71 : decode cX5_init 71 = .ok (.aload_n 0, 1) := by decide +kernel
theorem dX5_init_72 : decode cX5_init 72 = .ok (.bipush 7, 2) := by decide +kernel
theorem dX5_init_74 : decode cX5_init 74 = .ok (.newarray .int, 2) := by decide +kernel
theorem dX5_init_76 : decode cX5_init 76 = .ok (.putfield 44, 3) := by decide +kernel
theorem dX5_init_79 : decode cX5_init 79 = .ok (.aload_n 0, 1) := by decide +kernel
theorem dX5_init_80 : decode cX5_init 80 = .ok (.new 47, 3) := by decide +kernel
theorem dX5_init_83 : decode cX5_init 83 = .ok (.dup, 1) := by decide +kernel
theorem dX5_init_84 : decode cX5_init 84 = .ok (.invokespecial 49, 3) := by decide +kernel
theorem dX5_init_87 : decode cX5_init 87 = .ok (.putfield 50, 3) := by decide +kernel
theorem dX5_init_90 : decode cX5_init 90 = .ok (.aload_n 0, 1) := by decide +kernel
theorem dX5_init_91 : decode cX5_init 91 = .ok (.iconst 4, 1) := by decide +kernel
theorem dX5_init_92 : decode cX5_init 92 = .ok (.newarray .int, 2) := by decide +kernel
theorem dX5_init_94 : decode cX5_init 94 = .ok (.putfield 54, 3) := by decide +kernel
theorem dX5_init_97 : decode cX5_init 97 = .ok (.aload_n 0, 1) := by decide +kernel
theorem dX5_init_98 : decode cX5_init 98 = .ok (.iconst 4, 1) := by decide +kernel
theorem dX5_init_99 : decode cX5_init 99 = .ok (.newarray .int, 2) := by decide +kernel
theorem dX5_init_101 : decode cX5_init 101 = .ok (.putfield 57, 3) := by decide +kernel
theorem dX5_init_104 : decode cX5_init 104 = .ok (.iconst 0, 1) := by decide +kernel
theorem dX5_init_105 : decode cX5_init 105 = .ok (.istore_n 1, 1) := by decide +kernel
theorem dX5_init_106 : decode cX5_init 106 = .ok (.iload_n 1, 1) := by decide +kernel
theorem dX5_init_107 : decode cX5_init 107 = .ok (.bipush 8, 2) := by decide +kernel
theorem dX5_init_109 : decode cX5_init 109 = .ok (.if_icmp .ge 22, 3) := by decide +kernel
theorem dX5_init_112 : decode cX5_init 112 = .ok (.aload_n 0, 1) := by decide +kernel
theorem dX5_init_113 : decode cX5_init 113 = .ok (.getfield 23, 3) := by decide +kernel
theorem dX5_init_116 : decode cX5_init 116 = .ok (.iload_n 1, 1) := by decide +kernel
theorem dX5_init_117 : decode cX5_init 117 = .ok (.new 7, 3) := by decide +kernel
theorem dX5_init_120 : decode cX5_init 120 = .ok (.dup, 1) := by decide +kernel
theorem dX5_init_121 : decode cX5_init 121 = .ok (.invokespecial 9, 3) := by decide +kernel
theorem dX5_init_124 : decode cX5_init 124 = .ok (.aastore, 1) := by decide +kernel
theorem dX5_init_125 : decode cX5_init 125 = .ok (.iinc 1 1, 3) := by decide +kernel
theorem dX5_init_128 : decode cX5_init 128 = .ok (.goto (-22), 3) := by decide +kernel
theorem dX5_init_131 : decode cX5_init 131 = .ok (.return_, 1) := by decide +kernel
theorem dX5_person_0 : decode cX5_person 0 = .ok (.aload_n 0, 1) := by decide +kernel
theorem dX5_person_1 : decode cX5_person 1 = .ok (.getfield 10, 3) := by decide +kernel
theorem dX5_person_4 : decode cX5_person 4 = .ok (.iload_n 1, 1) := by decide +kernel
theorem dX5_person_5 : decode cX5_person 5 = .ok (.invokevirtual 123, 3) := by decide +kernel
theorem dX5_person_8 : decode cX5_person 8 = .ok (.ifCond .ne 9, 3) := by decide +kernel
theorem dX5_person_11 : decode cX5_person 11 = .ok (.aload_n 0, 1) := by decide +kernel
theorem dX5_person_12 : decode cX5_person 12 = .ok (.iconst (-1), 1) := by decide +kernel
theorem dX5_person_13 : decode cX5_person 13 = .ok (.invokevirtual 60, 3) := by decide +kernel
theorem dX5_person_16 : decode cX5_person 16 = .ok (.ireturn, 1) := by decide +kernel
theorem dX5_person_17 : decode cX5_person 17 = .ok (.iload_n 2, 1) := by decide +kernel
theorem dX5_person_18 : decode cX5_person 18 = .ok (.tableswitch 208 0 8 #[50, 60, 70, 80, 90, 112, 134, 156, 199], 50) := by decide +kernel
theorem dX5_person_68 : decode cX5_person 68 = .ok (.aload_n 0, 1) := by decide +kernel
theorem dX5_person_69 : decode cX5_person 69 = .ok (.getfield 10, 3) := by decide +kernel
theorem dX5_person_72 : decode cX5_person 72 = .ok (.getfield 126, 3) := by decide +kernel
theorem dX5_person_75 : decode cX5_person 75 = .ok (.iload_n 1, 1) := by decide +kernel
theorem dX5_person_76 : decode cX5_person 76 = .ok (.iaload, 1) := by decide +kernel
theorem dX5_person_77 : decode cX5_person 77 = .ok (.ireturn, 1) := by decide +kernel
theorem dX5_person_78 : decode cX5_person 78 = .ok (.aload_n 0, 1) := by decide +kernel
theorem dX5_person_79 : decode cX5_person 79 = .ok (.getfield 10, 3) := by decide +kernel
theorem dX5_person_82 : decode cX5_person 82 = .ok (.getfield 129, 3) := by decide +kernel
theorem dX5_person_85 : decode cX5_person 85 = .ok (.iload_n 1, 1) := by decide +kernel
theorem dX5_person_86 : decode cX5_person 86 = .ok (.iaload, 1) := by decide +kernel
theorem dX5_person_87 : decode cX5_person 87 = .ok (.ireturn, 1) := by decide +kernel
theorem dX5_person_88 : decode cX5_person 88 = .ok (.aload_n 0, 1) := by decide +kernel
theorem dX5_person_89 : decode cX5_person 89 = .ok (.getfield 10, 3) := by decide +kernel
theorem dX5_person_92 : decode cX5_person 92 = .ok (.getfield 132, 3) := by decide +kernel
theorem dX5_person_95 : decode cX5_person 95 = .ok (.iload_n 1, 1) := by decide +kernel
theorem dX5_person_96 : decode cX5_person 96 = .ok (.iaload, 1) := by decide +kernel
theorem dX5_person_97 : decode cX5_person 97 = .ok (.ireturn, 1) := by decide +kernel
theorem dX5_person_98 : decode cX5_person 98 = .ok (.aload_n 0, 1) := by decide +kernel
theorem dX5_person_99 : decode cX5_person 99 = .ok (.getfield 10, 3) := by decide +kernel
theorem dX5_person_102 : decode cX5_person 102 = .ok (.getfield 135, 3) := by decide +kernel
theorem dX5_person_105 : decode cX5_person 105 = .ok (.iload_n 1, 1) := by decide +kernel
theorem dX5_person_106 : decode cX5_person 106 = .ok (.iaload, 1) := by decide +kernel
theorem dX5_person_107 : decode cX5_person 107 = .ok (.ireturn, 1) := by decide +kernel
theorem dX5_person_108 : decode cX5_person 108 = .ok (.aload_n 0, 1) := by decide +kernel
theorem dX5_person_109 : decode cX5_person 109 = .ok (.getfield 10, 3) := by decide +kernel
theorem dX5_person_112 : decode cX5_person 112 = .ok (.getfield 126, 3) := by decide +kernel
theorem dX5_person_115 : decode cX5_person 115 = .ok (.iload_n 1, 1) := by decide +kernel
theorem dX5_person_116 : decode cX5_person 116 = .ok (.iaload, 1) := by decide +kernel
theorem dX5_person_117 : decode cX5_person 117 = .ok (.aload_n 0, 1) := by decide +kernel
theorem dX5_person_118 : decode cX5_person 118 = .ok (.getfield 10, 3) := by decide +kernel
theorem dX5_person_121 : decode cX5_person 121 = .ok (.getfield 129, 3) := by decide +kernel
theorem dX5_person_124 : decode cX5_person 124 = .ok (.iload_n 1, 1) := by decide +kernel
theorem dX5_person_125 : decode cX5_person 125 = .ok (.iaload, 1) := by decide +kernel
theorem dX5_person_126 : decode cX5_person 126 = .ok (.invokestatic 138, 3) := by decide +kernel
theorem dX5_person_129 : decode cX5_person 129 = .ok (.ireturn, 1) := by decide +kernel
theorem dX5_person_130 : decode cX5_person 130 = .ok (.aload_n 0, 1) := by decide +kernel
theorem dX5_person_131 : decode cX5_person 131 = .ok (.getfield 10, 3) := by decide +kernel
theorem dX5_person_134 : decode cX5_person 134 = .ok (.getfield 126, 3) := by decide +kernel
theorem dX5_person_137 : decode cX5_person 137 = .ok (.iload_n 1, 1) := by decide +kernel
theorem dX5_person_138 : decode cX5_person 138 = .ok (.iaload, 1) := by decide +kernel
theorem dX5_person_139 : decode cX5_person 139 = .ok (.aload_n 0, 1) := by decide +kernel
theorem dX5_person_140 : decode cX5_person 140 = .ok (.getfield 10, 3) := by decide +kernel
theorem dX5_person_143 : decode cX5_person 143 = .ok (.getfield 129, 3) := by decide +kernel
theorem dX5_person_146 : decode cX5_person 146 = .ok (.iload_n 1, 1) := by decide +kernel
theorem dX5_person_147 : decode cX5_person 147 = .ok (.iaload, 1) := by decide +kernel
theorem dX5_person_148 : decode cX5_person 148 = .ok (.invokestatic 144, 3) := by decide +kernel
theorem dX5_person_151 : decode cX5_person 151 = .ok (.ireturn, 1) := by decide +kernel
theorem dX5_person_152 : decode cX5_person 152 = .ok (.aload_n 0, 1) := by decide +kernel
theorem dX5_person_153 : decode cX5_person 153 = .ok (.getfield 10, 3) := by decide +kernel
theorem dX5_person_156 : decode cX5_person 156 = .ok (.getfield 126, 3) := by decide +kernel
theorem dX5_person_159 : decode cX5_person 159 = .ok (.iload_n 1, 1) := by decide +kernel
theorem dX5_person_160 : decode cX5_person 160 = .ok (.iaload, 1) := by decide +kernel
theorem dX5_person_161 : decode cX5_person 161 = .ok (.aload_n 0, 1) := by decide +kernel
theorem dX5_person_162 : decode cX5_person 162 = .ok (.getfield 10, 3) := by decide +kernel
theorem dX5_person_165 : decode cX5_person 165 = .ok (.getfield 129, 3) := by decide +kernel
theorem dX5_person_168 : decode cX5_person 168 = .ok (.iload_n 1, 1) := by decide +kernel
theorem dX5_person_169 : decode cX5_person 169 = .ok (.iaload, 1) := by decide +kernel
theorem dX5_person_170 : decode cX5_person 170 = .ok (.invokestatic 147, 3) := by decide +kernel
theorem dX5_person_173 : decode cX5_person 173 = .ok (.ireturn, 1) := by decide +kernel
theorem dX5_person_174 : decode cX5_person 174 = .ok (.aload_n 0, 1) := by decide +kernel
theorem dX5_person_175 : decode cX5_person 175 = .ok (.getfield 50, 3) := by decide +kernel
theorem dX5_person_178 : decode cX5_person 178 = .ok (.aload_n 0, 1) := by decide +kernel
theorem dX5_person_179 : decode cX5_person 179 = .ok (.getfield 10, 3) := by decide +kernel
theorem dX5_person_182 : decode cX5_person 182 = .ok (.invokevirtual 67, 3) := by decide +kernel
theorem dX5_person_185 : decode cX5_person 185 = .ok (.aload_n 0, 1) := by decide +kernel
theorem dX5_person_186 : decode cX5_person 186 = .ok (.getfield 50, 3) := by decide +kernel
theorem dX5_person_189 : decode cX5_person 189 = .ok (.getfield 81, 3) := by decide +kernel
theorem dX5_person_192 : decode cX5_person 192 = .ok (.dup, 1) := by decide +kernel
theorem dX5_person_193 : decode cX5_person 193 = .ok (.getfield 116, 3) := by decide +kernel
theorem dX5_person_196 : decode cX5_person 196 = .ok (.iconst 1, 1) := by decide +kernel
theorem dX5_person_197 : decode cX5_person 197 = .ok (.iadd, 1) := by decide +kernel
theorem dX5_person_198 : decode cX5_person 198 = .ok (.putfield 116, 3) := by decide +kernel
theorem dX5_person_201 : decode cX5_person 201 = .ok (.aload_n 0, 1) := by decide +kernel
theorem dX5_person_202 : decode cX5_person 202 = .ok (.getfield 50, 3) := by decide +kernel
theorem dX5_person_205 : decode cX5_person 205 = .ok (.invokevirtual 150, 3) := by decide +kernel
theorem dX5_person_208 : decode cX5_person 208 = .ok (.aload_n 0, 1) := by decide +kernel
theorem dX5_person_209 : decode cX5_person 209 = .ok (.getfield 50, 3) := by decide +kernel
theorem dX5_person_212 : decode cX5_person 212 = .ok (.iload_n 1, 1) := by decide +kernel
theorem dX5_person_213 : decode cX5_person 213 = .ok (.invokevirtual 153, 3) := by decide +kernel
theorem dX5_person_216 : decode cX5_person 216 = .ok (.ireturn, 1) := by decide +kernel
theorem dX5_person_217 : decode cX5_person 217 = .ok (.aload_n 0, 1) := by decide +kernel
theorem dX5_person_218 : decode cX5_person 218 = .ok (.getfield 10, 3) := by decide +kernel
theorem dX5_person_221 : decode cX5_person 221 = .ok (.iload_n 1, 1) := by decide +kernel
theorem dX5_person_222 : decode cX5_person 222 = .ok (.invokevirtual 156, 3) := by decide +kernel
theorem dX5_person_225 : decode cX5_person 225 = .ok (.ireturn, 1) := by decide +kernel
theorem dX5_person_226 : decode cX5_person 226 = .ok (.aload_n 0, 1) := by decide +kernel
theorem dX5_person_227 : decode cX5_person 227 = .ok (.bipush (-2), 2) := by decide +kernel
theorem dX5_person_229 : decode cX5_person 229 = .ok (.invokevirtual 60, 3) := by decide +kernel
theorem dX5_person_232 : decode cX5_person 232 = .ok (.ireturn, 1) := by decide +kernel
theorem dX5_thing_0 : decode cX5_thing 0 = .ok (.aload_n 0, 1) := by decide +kernel
theorem dX5_thing_1 : decode cX5_thing 1 = .ok (.getfield 10, 3) := by decide +kernel
theorem dX5_thing_4 : decode cX5_thing 4 = .ok (.iload_n 1, 1) := by decide +kernel
theorem dX5_thing_5 : decode cX5_thing 5 = .ok (.invokevirtual 159, 3) := by decide +kernel
theorem dX5_thing_8 : decode cX5_thing 8 = .ok (.ifCond .ne 9, 3) := by decide +kernel
theorem dX5_thing_11 : decode cX5_thing 11 = .ok (.aload_n 0, 1) := by decide +kernel
theorem dX5_thing_12 : decode cX5_thing 12 = .ok (.iconst (-1), 1) := by decide +kernel
theorem dX5_thing_13 : decode cX5_thing 13 = .ok (.invokevirtual 60, 3) := by decide +kernel
theorem dX5_thing_16 : decode cX5_thing 16 = .ok (.ireturn, 1) := by decide +kernel
theorem dX5_thing_17 : decode cX5_thing 17 = .ok (.iload_n 2, 1) := by decide +kernel
theorem dX5_thing_18 : decode cX5_thing 18 = .ok (.tableswitch 59 0 2 #[26, 36, 46], 26) := by decide +kernel
theorem dX5_thing_44 : decode cX5_thing 44 = .ok (.aload_n 0, 1) := by decide +kernel
theorem dX5_thing_45 : decode cX5_thing 45 = .ok (.getfield 10, 3) := by decide +kernel
theorem dX5_thing_48 : decode cX5_thing 48 = .ok (.getfield 162, 3) := by decide +kernel
theorem dX5_thing_51 : decode cX5_thing 51 = .ok (.iload_n 1, 1) := by decide +kernel
theorem dX5_thing_52 : decode cX5_thing 52 = .ok (.iaload, 1) := by decide +kernel
theorem dX5_thing_53 : decode cX5_thing 53 = .ok (.ireturn, 1) := by decide +kernel
theorem dX5_thing_54 : decode cX5_thing 54 = .ok (.aload_n 0, 1) := by decide +kernel
theorem dX5_thing_55 : decode cX5_thing 55 = .ok (.getfield 10, 3) := by decide +kernel
theorem dX5_thing_58 : decode cX5_thing 58 = .ok (.getfield 165, 3) := by decide +kernel
theorem dX5_thing_61 : decode cX5_thing 61 = .ok (.iload_n 1, 1) := by decide +kernel
theorem dX5_thing_62 : decode cX5_thing 62 = .ok (.iaload, 1) := by decide +kernel
theorem dX5_thing_63 : decode cX5_thing 63 = .ok (.ireturn, 1) := by decide +kernel
theorem dX5_thing_64 : decode cX5_thing 64 = .ok (.aload_n 0, 1) := by decide +kernel
theorem dX5_thing_65 : decode cX5_thing 65 = .ok (.getfield 10, 3) := by decide +kernel
theorem dX5_thing_68 : decode cX5_thing 68 = .ok (.getfield 168, 3) := by decide +kernel
theorem dX5_thing_71 : decode cX5_thing 71 = .ok (.iload_n 1, 1) := by decide +kernel
theorem dX5_thing_72 : decode cX5_thing 72 = .ok (.iaload, 1) := by decide +kernel
theorem dX5_thing_73 : decode cX5_thing 73 = .ok (.invokestatic 171, 3) := by decide +kernel
theorem dX5_thing_76 : decode cX5_thing 76 = .ok (.ireturn, 1) := by decide +kernel
theorem dX5_thing_77 : decode cX5_thing 77 = .ok (.aload_n 0, 1) := by decide +kernel
theorem dX5_thing_78 : decode cX5_thing 78 = .ok (.bipush (-2), 2) := by decide +kernel
theorem dX5_thing_80 : decode cX5_thing 80 = .ok (.invokevirtual 60, 3) := by decide +kernel
theorem dX5_thing_83 : decode cX5_thing 83 = .ok (.ireturn, 1) := by decide +kernel
theorem dX5_cell_0 : decode cX5_cell 0 = .ok (.iload_n 1, 1) := by decide +kernel
theorem dX5_cell_1 : decode cX5_cell 1 = .ok (.invokestatic 186, 3) := by decide +kernel
theorem dX5_cell_4 : decode cX5_cell 4 = .ok (.ifCond .ne 9, 3) := by decide +kernel
theorem dX5_cell_7 : decode cX5_cell 7 = .ok (.aload_n 0, 1) := by decide +kernel
theorem dX5_cell_8 : decode cX5_cell 8 = .ok (.iconst (-1), 1) := by decide +kernel
theorem dX5_cell_9 : decode cX5_cell 9 = .ok (.invokevirtual 60, 3) := by decide +kernel
theorem dX5_cell_12 : decode cX5_cell 12 = .ok (.ireturn, 1) := by decide +kernel
theorem dX5_cell_13 : decode cX5_cell 13 = .ok (.iload_n 2, 1) := by decide +kernel
theorem dX5_cell_14 : decode cX5_cell 14 = .ok (.ifCond .lt 8, 3) := by decide +kernel
theorem dX5_cell_17 : decode cX5_cell 17 = .ok (.iload_n 2, 1) := by decide +kernel
theorem dX5_cell_18 : decode cX5_cell 18 = .ok (.iconst 4, 1) := by decide +kernel
theorem dX5_cell_19 : decode cX5_cell 19 = .ok (.if_icmp .le 10, 3) := by decide +kernel
theorem dX5_cell_22 : decode cX5_cell 22 = .ok (.aload_n 0, 1) := by decide +kernel
theorem dX5_cell_23 : decode cX5_cell 23 = .ok (.bipush (-2), 2) := by decide +kernel
theorem dX5_cell_25 : decode cX5_cell 25 = .ok (.invokevirtual 60, 3) := by decide +kernel
theorem dX5_cell_28 : decode cX5_cell 28 = .ok (.ireturn, 1) := by decide +kernel
theorem dX5_cell_29 : decode cX5_cell 29 = .ok (.aload_n 0, 1) := by decide +kernel
theorem dX5_cell_30 : decode cX5_cell 30 = .ok (.getfield 50, 3) := by decide +kernel
theorem dX5_cell_33 : decode cX5_cell 33 = .ok (.aload_n 0, 1) := by decide +kernel
theorem dX5_cell_34 : decode cX5_cell 34 = .ok (.getfield 10, 3) := by decide +kernel
theorem dX5_cell_37 : decode cX5_cell 37 = .ok (.invokevirtual 67, 3) := by decide +kernel
theorem dX5_cell_40 : decode cX5_cell 40 = .ok (.iload_n 2, 1) := by decide +kernel
theorem dX5_cell_41 : decode cX5_cell 41 = .ok (.tableswitch 75 0 3 #[31, 40, 49, 66], 31) := by decide +kernel
theorem dX5_cell_72 : decode cX5_cell 72 = .ok (.aload_n 0, 1) := by decide +kernel
theorem dX5_cell_73 : decode cX5_cell 73 = .ok (.getfield 50, 3) := by decide +kernel
theorem dX5_cell_76 : decode cX5_cell 76 = .ok (.iload_n 1, 1) := by decide +kernel
theorem dX5_cell_77 : decode cX5_cell 77 = .ok (.invokevirtual 189, 3) := by decide +kernel
theorem dX5_cell_80 : decode cX5_cell 80 = .ok (.ireturn, 1) := by decide +kernel
theorem dX5_cell_81 : decode cX5_cell 81 = .ok (.aload_n 0, 1) := by decide +kernel
theorem dX5_cell_82 : decode cX5_cell 82 = .ok (.getfield 50, 3) := by decide +kernel
theorem dX5_cell_85 : decode cX5_cell 85 = .ok (.iload_n 1, 1) := by decide +kernel
theorem dX5_cell_86 : decode cX5_cell 86 = .ok (.invokevirtual 192, 3) := by decide +kernel
theorem dX5_cell_89 : decode cX5_cell 89 = .ok (.ireturn, 1) := by decide +kernel
theorem dX5_cell_90 : decode cX5_cell 90 = .ok (.aload_n 0, 1) := by decide +kernel
theorem dX5_cell_91 : decode cX5_cell 91 = .ok (.getfield 50, 3) := by decide +kernel
theorem dX5_cell_94 : decode cX5_cell 94 = .ok (.iload_n 1, 1) := by decide +kernel
theorem dX5_cell_95 : decode cX5_cell 95 = .ok (.invokevirtual 195, 3) := by decide +kernel
theorem dX5_cell_98 : decode cX5_cell 98 = .ok (.ifCond .eq 7, 3) := by decide +kernel
theorem dX5_cell_101 : decode cX5_cell 101 = .ok (.iconst 1, 1) := by decide +kernel
theorem dX5_cell_102 : decode cX5_cell 102 = .ok (.goto 4, 3) := by decide +kernel
theorem dX5_cell_105 : decode cX5_cell 105 = .ok (.iconst 0, 1) := by decide +kernel
theorem dX5_cell_106 : decode cX5_cell 106 = .ok (.ireturn, 1) := by decide +kernel
theorem dX5_cell_107 : decode cX5_cell 107 = .ok (.aload_n 0, 1) := by decide +kernel
theorem dX5_cell_108 : decode cX5_cell 108 = .ok (.getfield 10, 3) := by decide +kernel
theorem dX5_cell_111 : decode cX5_cell 111 = .ok (.iload_n 1, 1) := by decide +kernel
theorem dX5_cell_112 : decode cX5_cell 112 = .ok (.invokevirtual 198, 3) := by decide +kernel
theorem dX5_cell_115 : decode cX5_cell 115 = .ok (.ireturn, 1) := by decide +kernel
theorem dX5_cell_116 : decode cX5_cell 116 = .ok (.aload_n 0, 1) := by decide +kernel
theorem dX5_cell_117 : decode cX5_cell 117 = .ok (.getfield 10, 3) := by decide +kernel
theorem dX5_cell_120 : decode cX5_cell 120 = .ok (.iload_n 1, 1) := by decide +kernel
theorem dX5_cell_121 : decode cX5_cell 121 = .ok (.invokevirtual 201, 3) := by decide +kernel
theorem dX5_cell_124 : decode cX5_cell 124 = .ok (.ireturn, 1) := by decide +kernel
theorem dX5_count_0 : decode cX5_count 0 = .ok (.iload_n 1, 1) := by decide +kernel
theorem dX5_count_1 : decode cX5_count 1 = .ok (.tableswitch 137 0 9 #[55, 63, 71, 79, 87, 95, 103, 108, 113, 118], 55) := by decide +kernel
theorem dX5_count_56 : decode cX5_count 56 = .ok (.aload_n 0, 1) := by decide +kernel
theorem dX5_count_57 : decode cX5_count 57 = .ok (.getfield 10, 3) := by decide +kernel
theorem dX5_count_60 : decode cX5_count 60 = .ok (.getfield 204, 3) := by decide +kernel
theorem dX5_count_63 : decode cX5_count 63 = .ok (.ireturn, 1) := by decide +kernel
theorem dX5_count_64 : decode cX5_count 64 = .ok (.aload_n 0, 1) := by decide +kernel
theorem dX5_count_65 : decode cX5_count 65 = .ok (.getfield 10, 3) := by decide +kernel
theorem dX5_count_68 : decode cX5_count 68 = .ok (.getfield 207, 3) := by decide +kernel
theorem dX5_count_71 : decode cX5_count 71 = .ok (.ireturn, 1) := by decide +kernel
theorem dX5_count_72 : decode cX5_count 72 = .ok (.aload_n 0, 1) := by decide +kernel
theorem dX5_count_73 : decode cX5_count 73 = .ok (.getfield 10, 3) := by decide +kernel
theorem dX5_count_76 : decode cX5_count 76 = .ok (.getfield 210, 3) := by decide +kernel
theorem dX5_count_79 : decode cX5_count 79 = .ok (.ireturn, 1) := by decide +kernel
theorem dX5_count_80 : decode cX5_count 80 = .ok (.aload_n 0, 1) := by decide +kernel
theorem dX5_count_81 : decode cX5_count 81 = .ok (.getfield 10, 3) := by decide +kernel
theorem dX5_count_84 : decode cX5_count 84 = .ok (.getfield 116, 3) := by decide +kernel
theorem dX5_count_87 : decode cX5_count 87 = .ok (.ireturn, 1) := by decide +kernel
theorem dX5_count_88 : decode cX5_count 88 = .ok (.aload_n 0, 1) := by decide +kernel
theorem dX5_count_89 : decode cX5_count 89 = .ok (.getfield 10, 3) := by decide +kernel
theorem dX5_count_92 : decode cX5_count 92 = .ok (.getfield 107, 3) := by decide +kernel
theorem dX5_count_95 : decode cX5_count 95 = .ok (.ireturn, 1) := by decide +kernel
theorem dX5_count_96 : decode cX5_count 96 = .ok (.aload_n 0, 1) := by decide +kernel
theorem dX5_count_97 : decode cX5_count 97 = .ok (.getfield 10, 3) := by decide +kernel
theorem dX5_count_100 : decode cX5_count 100 = .ok (.invokevirtual 213, 3) := by decide +kernel
theorem dX5_count_103 : decode cX5_count 103 = .ok (.ireturn, 1) := by decide +kernel
theorem dX5_count_104 : decode cX5_count 104 = .ok (.aload_n 0, 1) := by decide +kernel
theorem dX5_count_105 : decode cX5_count 105 = .ok (.getfield 35, 3) := by decide +kernel
theorem dX5_count_108 : decode cX5_count 108 = .ok (.ireturn, 1) := by decide +kernel
theorem dX5_count_109 : decode cX5_count 109 = .ok (.aload_n 0, 1) := by decide +kernel
theorem dX5_count_110 : decode cX5_count 110 = .ok (.getfield 41, 3) := by decide +kernel
theorem dX5_count_113 : decode cX5_count 113 = .ok (.ireturn, 1) := by decide +kernel
theorem dX5_count_114 : decode cX5_count 114 = .ok (.aload_n 0, 1) := by decide +kernel
theorem dX5_count_115 : decode cX5_count 115 = .ok (.getfield 27, 3) := by decide +kernel
theorem dX5_count_118 : decode cX5_count 118 = .ok (.ireturn, 1) := by decide +kernel
theorem dX5_count_119 : decode cX5_count 119 = .ok (.aload_n 0, 1) := by decide +kernel
theorem dX5_count_120 : decode cX5_count 120 = .ok (.getfield 50, 3) := by decide +kernel
theorem dX5_count_123 : decode cX5_count 123 = .ok (.aload_n 0, 1) := by decide +kernel
theorem dX5_count_124 : decode cX5_count 124 = .ok (.getfield 10, 3) := by decide +kernel
theorem dX5_count_127 : decode cX5_count 127 = .ok (.invokevirtual 67, 3) := by decide +kernel
theorem dX5_count_130 : decode cX5_count 130 = .ok (.aload_n 0, 1) := by decide +kernel
theorem dX5_count_131 : decode cX5_count 131 = .ok (.getfield 50, 3) := by decide +kernel
theorem dX5_count_134 : decode cX5_count 134 = .ok (.invokevirtual 217, 3) := by decide +kernel
theorem dX5_count_137 : decode cX5_count 137 = .ok (.ireturn, 1) := by decide +kernel
theorem dX5_count_138 : decode cX5_count 138 = .ok (.iload_n 1, 1) := by decide +kernel
theorem dX5_count_139 : decode cX5_count 139 = .ok (.bipush 10, 2) := by decide +kernel
theorem dX5_count_141 : decode cX5_count 141 = .ok (.if_icmp .le 21, 3) := by decide +kernel
theorem dX5_count_144 : decode cX5_count 144 = .ok (.iload_n 1, 1) := by decide +kernel
theorem dX5_count_145 : decode cX5_count 145 = .ok (.bipush 16, 2) := by decide +kernel
theorem dX5_count_147 : decode cX5_count 147 = .ok (.if_icmp .gt 15, 3) := by decide +kernel
theorem dX5_count_150 : decode cX5_count 150 = .ok (.aload_n 0, 1) := by decide +kernel
theorem dX5_count_151 : decode cX5_count 151 = .ok (.getfield 44, 3) := by decide +kernel
theorem dX5_count_154 : decode cX5_count 154 = .ok (.iload_n 1, 1) := by decide +kernel
theorem dX5_count_155 : decode cX5_count 155 = .ok (.bipush 10, 2) := by decide +kernel
theorem dX5_count_157 : decode cX5_count 157 = .ok (.isub, 1) := by decide +kernel
theorem dX5_count_158 : decode cX5_count 158 = .ok (.iaload, 1) := by decide +kernel
theorem dX5_count_159 : decode cX5_count 159 = .ok (.goto 5, 3) := by decide +kernel
theorem dX5_count_162 : decode cX5_count 162 = .ok (.bipush (-9), 2) := by decide +kernel
theorem dX5_count_164 : decode cX5_count 164 = .ok (.ireturn, 1) := by decide +kernel
theorem dX5_blows_0 : decode cX5_blows 0 = .ok (.iload_n 1, 1) := by decide +kernel
theorem dX5_blows_1 : decode cX5_blows 1 = .ok (.ifCond .lt 9, 3) := by decide +kernel
theorem dX5_blows_4 : decode cX5_blows 4 = .ok (.iload_n 1, 1) := by decide +kernel
theorem dX5_blows_5 : decode cX5_blows 5 = .ok (.bipush 7, 2) := by decide +kernel
theorem dX5_blows_7 : decode cX5_blows 7 = .ok (.if_icmp .lt 10, 3) := by decide +kernel
theorem dX5_blows_10 : decode cX5_blows 10 = .ok (.aload_n 0, 1) := by decide +kernel
theorem dX5_blows_11 : decode cX5_blows 11 = .ok (.bipush (-2), 2) := by decide +kernel
theorem dX5_blows_13 : decode cX5_blows 13 = .ok (.invokevirtual 60, 3) := by decide +kernel
theorem dX5_blows_16 : decode cX5_blows 16 = .ok (.ireturn, 1) := by decide +kernel
theorem dX5_blows_17 : decode cX5_blows 17 = .ok (.iload_n 2, 1) := by decide +kernel
theorem dX5_blows_18 : decode cX5_blows 18 = .ok (.ifCond .lt 7, 3) := by decide +kernel
theorem dX5_blows_21 : decode cX5_blows 21 = .ok (.iload_n 3, 1) := by decide +kernel
theorem dX5_blows_22 : decode cX5_blows 22 = .ok (.ifCond .ge 10, 3) := by decide +kernel
theorem dX5_blows_25 : decode cX5_blows 25 = .ok (.aload_n 0, 1) := by decide +kernel
theorem dX5_blows_26 : decode cX5_blows 26 = .ok (.bipush (-4), 2) := by decide +kernel
theorem dX5_blows_28 : decode cX5_blows 28 = .ok (.invokevirtual 60, 3) := by decide +kernel
theorem dX5_blows_31 : decode cX5_blows 31 = .ok (.ireturn, 1) := by decide +kernel
theorem dX5_blows_32 : decode cX5_blows 32 = .ok (.aload_n 0, 1) := by decide +kernel
theorem dX5_blows_33 : decode cX5_blows 33 = .ok (.getfield 10, 3) := by decide +kernel
theorem dX5_blows_36 : decode cX5_blows 36 = .ok (.iload_n 1, 1) := by decide +kernel
theorem dX5_blows_37 : decode cX5_blows 37 = .ok (.iload_n 2, 1) := by decide +kernel
theorem dX5_blows_38 : decode cX5_blows 38 = .ok (.iload_n 3, 1) := by decide +kernel
theorem dX5_blows_39 : decode cX5_blows 39 = .ok (.invokevirtual 93, 3) := by decide +kernel
theorem dX5_blows_42 : decode cX5_blows 42 = .ok (.ifCond .ne 10, 3) := by decide +kernel
theorem dX5_blows_45 : decode cX5_blows 45 = .ok (.aload_n 0, 1) := by decide +kernel
theorem dX5_blows_46 : decode cX5_blows 46 = .ok (.bipush (-6), 2) := by decide +kernel
theorem dX5_blows_48 : decode cX5_blows 48 = .ok (.invokevirtual 60, 3) := by decide +kernel
theorem dX5_blows_51 : decode cX5_blows 51 = .ok (.ireturn, 1) := by decide +kernel
theorem dX5_blows_52 : decode cX5_blows 52 = .ok (.aload_n 0, 1) := by decide +kernel
theorem dX5_blows_53 : decode cX5_blows 53 = .ok (.iconst 0, 1) := by decide +kernel
theorem dX5_blows_54 : decode cX5_blows 54 = .ok (.putfield 27, 3) := by decide +kernel
theorem dX5_blows_57 : decode cX5_blows 57 = .ok (.aload_n 0, 1) := by decide +kernel
theorem dX5_blows_58 : decode cX5_blows 58 = .ok (.getfield 10, 3) := by decide +kernel
theorem dX5_blows_61 : decode cX5_blows 61 = .ok (.getfield 210, 3) := by decide +kernel
theorem dX5_blows_64 : decode cX5_blows 64 = .ok (.iconst 1, 1) := by decide +kernel
theorem dX5_blows_65 : decode cX5_blows 65 = .ok (.isub, 1) := by decide +kernel
theorem dX5_blows_66 : decode cX5_blows 66 = .ok (.ireturn, 1) := by decide +kernel
theorem dX5_comes_0 : decode cX5_comes 0 = .ok (.iload_n 1, 1) := by decide +kernel
theorem dX5_comes_1 : decode cX5_comes 1 = .ok (.ifCond .lt 9, 3) := by decide +kernel
theorem dX5_comes_4 : decode cX5_comes 4 = .ok (.iload_n 1, 1) := by decide +kernel
theorem dX5_comes_5 : decode cX5_comes 5 = .ok (.bipush 8, 2) := by decide +kernel
theorem dX5_comes_7 : decode cX5_comes 7 = .ok (.if_icmp .lt 10, 3) := by decide +kernel
theorem dX5_comes_10 : decode cX5_comes 10 = .ok (.aload_n 0, 1) := by decide +kernel
theorem dX5_comes_11 : decode cX5_comes 11 = .ok (.bipush (-2), 2) := by decide +kernel
theorem dX5_comes_13 : decode cX5_comes 13 = .ok (.invokevirtual 60, 3) := by decide +kernel
theorem dX5_comes_16 : decode cX5_comes 16 = .ok (.ireturn, 1) := by decide +kernel
theorem dX5_comes_17 : decode cX5_comes 17 = .ok (.iload_n 2, 1) := by decide +kernel
theorem dX5_comes_18 : decode cX5_comes 18 = .ok (.ifCond .ge 10, 3) := by decide +kernel
theorem dX5_comes_21 : decode cX5_comes 21 = .ok (.aload_n 0, 1) := by decide +kernel
theorem dX5_comes_22 : decode cX5_comes 22 = .ok (.bipush (-4), 2) := by decide +kernel
theorem dX5_comes_24 : decode cX5_comes 24 = .ok (.invokevirtual 60, 3) := by decide +kernel
theorem dX5_comes_27 : decode cX5_comes 27 = .ok (.ireturn, 1) := by decide +kernel
theorem dX5_comes_28 : decode cX5_comes 28 = .ok (.iload_n 2, 1) := by decide +kernel
theorem dX5_comes_29 : decode cX5_comes 29 = .ok (.bipush 9, 2) := by decide +kernel
theorem dX5_comes_31 : decode cX5_comes 31 = .ok (.if_icmp .gt 14, 3) := by decide +kernel
theorem dX5_comes_34 : decode cX5_comes 34 = .ok (.aload_n 0, 1) := by decide +kernel
theorem dX5_comes_35 : decode cX5_comes 35 = .ok (.getfield 10, 3) := by decide +kernel
theorem dX5_comes_38 : decode cX5_comes 38 = .ok (.getfield 204, 3) := by decide +kernel
theorem dX5_comes_41 : decode cX5_comes 41 = .ok (.iconst 5, 1) := by decide +kernel
theorem dX5_comes_42 : decode cX5_comes 42 = .ok (.if_icmp .lt 10, 3) := by decide +kernel
theorem dX5_comes_45 : decode cX5_comes 45 = .ok (.aload_n 0, 1) := by decide +kernel
theorem dX5_comes_46 : decode cX5_comes 46 = .ok (.bipush (-6), 2) := by decide +kernel
theorem dX5_comes_48 : decode cX5_comes 48 = .ok (.invokevirtual 60, 3) := by decide +kernel
theorem dX5_comes_51 : decode cX5_comes 51 = .ok (.ireturn, 1) := by decide +kernel
theorem dX5_comes_52 : decode cX5_comes 52 = .ok (.aload_n 0, 1) := by decide +kernel
theorem dX5_comes_53 : decode cX5_comes 53 = .ok (.getfield 10, 3) := by decide +kernel
theorem dX5_comes_56 : decode cX5_comes 56 = .ok (.iload_n 1, 1) := by decide +kernel
theorem dX5_comes_57 : decode cX5_comes 57 = .ok (.iload_n 2, 1) := by decide +kernel
theorem dX5_comes_58 : decode cX5_comes 58 = .ok (.iload_n 3, 1) := by decide +kernel
theorem dX5_comes_59 : decode cX5_comes 59 = .ok (.invokevirtual 100, 3) := by decide +kernel
theorem dX5_comes_62 : decode cX5_comes 62 = .ok (.ifCond .ne 9, 3) := by decide +kernel
theorem dX5_comes_65 : decode cX5_comes 65 = .ok (.aload_n 0, 1) := by decide +kernel
theorem dX5_comes_66 : decode cX5_comes 66 = .ok (.iconst (-1), 1) := by decide +kernel
theorem dX5_comes_67 : decode cX5_comes 67 = .ok (.invokevirtual 60, 3) := by decide +kernel
theorem dX5_comes_70 : decode cX5_comes 70 = .ok (.ireturn, 1) := by decide +kernel
theorem dX5_comes_71 : decode cX5_comes 71 = .ok (.aload_n 0, 1) := by decide +kernel
theorem dX5_comes_72 : decode cX5_comes 72 = .ok (.iconst 0, 1) := by decide +kernel
theorem dX5_comes_73 : decode cX5_comes 73 = .ok (.putfield 27, 3) := by decide +kernel
theorem dX5_comes_76 : decode cX5_comes 76 = .ok (.aload_n 0, 1) := by decide +kernel
theorem dX5_comes_77 : decode cX5_comes 77 = .ok (.getfield 10, 3) := by decide +kernel
theorem dX5_comes_80 : decode cX5_comes 80 = .ok (.getfield 204, 3) := by decide +kernel
theorem dX5_comes_83 : decode cX5_comes 83 = .ok (.iconst 1, 1) := by decide +kernel
theorem dX5_comes_84 : decode cX5_comes 84 = .ok (.isub, 1) := by decide +kernel
theorem dX5_comes_85 : decode cX5_comes 85 = .ok (.ireturn, 1) := by decide +kernel
theorem dX5_lies_0 : decode cX5_lies 0 = .ok (.iload_n 1, 1) := by decide +kernel
theorem dX5_lies_1 : decode cX5_lies 1 = .ok (.ifCond .ge 10, 3) := by decide +kernel
theorem dX5_lies_4 : decode cX5_lies 4 = .ok (.aload_n 0, 1) := by decide +kernel
theorem dX5_lies_5 : decode cX5_lies 5 = .ok (.bipush (-4), 2) := by decide +kernel
theorem dX5_lies_7 : decode cX5_lies 7 = .ok (.invokevirtual 60, 3) := by decide +kernel
theorem dX5_lies_10 : decode cX5_lies 10 = .ok (.ireturn, 1) := by decide +kernel
theorem dX5_lies_11 : decode cX5_lies 11 = .ok (.iload_n 1, 1) := by decide +kernel
theorem dX5_lies_12 : decode cX5_lies 12 = .ok (.bipush 9, 2) := by decide +kernel
theorem dX5_lies_14 : decode cX5_lies 14 = .ok (.if_icmp .gt 15, 3) := by decide +kernel
theorem dX5_lies_17 : decode cX5_lies 17 = .ok (.aload_n 0, 1) := by decide +kernel
theorem dX5_lies_18 : decode cX5_lies 18 = .ok (.getfield 10, 3) := by decide +kernel
theorem dX5_lies_21 : decode cX5_lies 21 = .ok (.getfield 207, 3) := by decide +kernel
theorem dX5_lies_24 : decode cX5_lies 24 = .ok (.bipush 8, 2) := by decide +kernel
theorem dX5_lies_26 : decode cX5_lies 26 = .ok (.if_icmp .lt 10, 3) := by decide +kernel
theorem dX5_lies_29 : decode cX5_lies 29 = .ok (.aload_n 0, 1) := by decide +kernel
theorem dX5_lies_30 : decode cX5_lies 30 = .ok (.bipush (-6), 2) := by decide +kernel
theorem dX5_lies_32 : decode cX5_lies 32 = .ok (.invokevirtual 60, 3) := by decide +kernel
theorem dX5_lies_35 : decode cX5_lies 35 = .ok (.ireturn, 1) := by decide +kernel
theorem dX5_lies_36 : decode cX5_lies 36 = .ok (.aload_n 0, 1) := by decide +kernel
theorem dX5_lies_37 : decode cX5_lies 37 = .ok (.getfield 10, 3) := by decide +kernel
theorem dX5_lies_40 : decode cX5_lies 40 = .ok (.iload_n 1, 1) := by decide +kernel
theorem dX5_lies_41 : decode cX5_lies 41 = .ok (.iload_n 2, 1) := by decide +kernel
theorem dX5_lies_42 : decode cX5_lies 42 = .ok (.invokevirtual 103, 3) := by decide +kernel
theorem dX5_lies_45 : decode cX5_lies 45 = .ok (.ifCond .ne 9, 3) := by decide +kernel
theorem dX5_lies_48 : decode cX5_lies 48 = .ok (.aload_n 0, 1) := by decide +kernel
theorem dX5_lies_49 : decode cX5_lies 49 = .ok (.iconst (-1), 1) := by decide +kernel
theorem dX5_lies_50 : decode cX5_lies 50 = .ok (.invokevirtual 60, 3) := by decide +kernel
theorem dX5_lies_53 : decode cX5_lies 53 = .ok (.ireturn, 1) := by decide +kernel
theorem dX5_lies_54 : decode cX5_lies 54 = .ok (.aload_n 0, 1) := by decide +kernel
theorem dX5_lies_55 : decode cX5_lies 55 = .ok (.iconst 0, 1) := by decide +kernel
theorem dX5_lies_56 : decode cX5_lies 56 = .ok (.putfield 27, 3) := by decide +kernel
theorem dX5_lies_59 : decode cX5_lies 59 = .ok (.aload_n 0, 1) := by decide +kernel
theorem dX5_lies_60 : decode cX5_lies 60 = .ok (.getfield 10, 3) := by decide +kernel
theorem dX5_lies_63 : decode cX5_lies 63 = .ok (.getfield 207, 3) := by decide +kernel
theorem dX5_lies_66 : decode cX5_lies 66 = .ok (.iconst 1, 1) := by decide +kernel
theorem dX5_lies_67 : decode cX5_lies 67 = .ok (.isub, 1) := by decide +kernel
theorem dX5_lies_68 : decode cX5_lies 68 = .ok (.ireturn, 1) := by decide +kernel
theorem dX5_thick_0 : decode cX5_thick 0 = .ok (.iload_n 1, 1) := by decide +kernel
theorem dX5_thick_1 : decode cX5_thick 1 = .ok (.iconst 1, 1) := by decide +kernel
theorem dX5_thick_2 : decode cX5_thick 2 = .ok (.bipush 9, 2) := by decide +kernel
theorem dX5_thick_4 : decode cX5_thick 4 = .ok (.invokestatic 220, 3) := by decide +kernel
theorem dX5_thick_7 : decode cX5_thick 7 = .ok (.istore_n 2, 1) := by decide +kernel
theorem dX5_thick_8 : decode cX5_thick 8 = .ok (.iload_n 2, 1) := by decide +kernel
theorem dX5_thick_9 : decode cX5_thick 9 = .ok (.ifCond .eq 9, 3) := by decide +kernel
theorem dX5_thick_12 : decode cX5_thick 12 = .ok (.aload_n 0, 1) := by decide +kernel
theorem dX5_thick_13 : decode cX5_thick 13 = .ok (.iload_n 2, 1) := by decide +kernel
theorem dX5_thick_14 : decode cX5_thick 14 = .ok (.invokevirtual 60, 3) := by decide +kernel
theorem dX5_thick_17 : decode cX5_thick 17 = .ok (.ireturn, 1) := by decide +kernel
theorem dX5_thick_18 : decode cX5_thick 18 = .ok (.aload_n 0, 1) := by decide +kernel
theorem dX5_thick_19 : decode cX5_thick 19 = .ok (.invokevirtual 224, 3) := by decide +kernel
theorem dX5_thick_22 : decode cX5_thick 22 = .ok (.aload_n 0, 1) := by decide +kernel
theorem dX5_thick_23 : decode cX5_thick 23 = .ok (.getfield 10, 3) := by decide +kernel
theorem dX5_thick_26 : decode cX5_thick 26 = .ok (.getfield 107, 3) := by decide +kernel
theorem dX5_thick_29 : decode cX5_thick 29 = .ok (.istore_n 3, 1) := by decide +kernel
theorem dX5_thick_30 : decode cX5_thick 30 = .ok (.aload_n 0, 1) := by decide +kernel
theorem dX5_thick_31 : decode cX5_thick 31 = .ok (.getfield 10, 3) := by decide +kernel
theorem dX5_thick_34 : decode cX5_thick 34 = .ok (.iload_n 1, 1) := by decide +kernel
theorem dX5_thick_35 : decode cX5_thick 35 = .ok (.putfield 107, 3) := by decide +kernel
theorem dX5_thick_38 : decode cX5_thick 38 = .ok (.iload_n 3, 1) := by decide +kernel
theorem dX5_thick_39 : decode cX5_thick 39 = .ok (.ireturn, 1) := by decide +kernel
theorem dX5_owns_0 : decode cX5_owns 0 = .ok (.aload_n 0, 1) := by decide +kernel
theorem dX5_owns_1 : decode cX5_owns 1 = .ok (.getfield 10, 3) := by decide +kernel
theorem dX5_owns_4 : decode cX5_owns 4 = .ok (.iload_n 1, 1) := by decide +kernel
theorem dX5_owns_5 : decode cX5_owns 5 = .ok (.invokevirtual 159, 3) := by decide +kernel
theorem dX5_owns_8 : decode cX5_owns 8 = .ok (.ifCond .eq 19, 3) := by decide +kernel
theorem dX5_owns_11 : decode cX5_owns 11 = .ok (.iload_n 2, 1) := by decide +kernel
theorem dX5_owns_12 : decode cX5_owns 12 = .ok (.iconst (-1), 1) := by decide +kernel
theorem dX5_owns_13 : decode cX5_owns 13 = .ok (.if_icmp .eq 20, 3) := by decide +kernel
theorem dX5_owns_16 : decode cX5_owns 16 = .ok (.aload_n 0, 1) := by decide +kernel
theorem dX5_owns_17 : decode cX5_owns 17 = .ok (.getfield 10, 3) := by decide +kernel
theorem dX5_owns_20 : decode cX5_owns 20 = .ok (.iload_n 2, 1) := by decide +kernel
theorem dX5_owns_21 : decode cX5_owns 21 = .ok (.invokevirtual 123, 3) := by decide +kernel
theorem dX5_owns_24 : decode cX5_owns 24 = .ok (.ifCond .ne 9, 3) := by decide +kernel
theorem dX5_owns_27 : decode cX5_owns 27 = .ok (.aload_n 0, 1) := by decide +kernel
theorem dX5_owns_28 : decode cX5_owns 28 = .ok (.iconst (-1), 1) := by decide +kernel
theorem dX5_owns_29 : decode cX5_owns 29 = .ok (.invokevirtual 60, 3) := by decide +kernel
theorem dX5_owns_32 : decode cX5_owns 32 = .ok (.ireturn, 1) := by decide +kernel
theorem dX5_owns_33 : decode cX5_owns 33 = .ok (.aload_n 0, 1) := by decide +kernel
theorem dX5_owns_34 : decode cX5_owns 34 = .ok (.invokevirtual 224, 3) := by decide +kernel
theorem dX5_owns_37 : decode cX5_owns 37 = .ok (.aload_n 0, 1) := by decide +kernel
theorem dX5_owns_38 : decode cX5_owns 38 = .ok (.getfield 10, 3) := by decide +kernel
theorem dX5_owns_41 : decode cX5_owns 41 = .ok (.getfield 168, 3) := by decide +kernel
theorem dX5_owns_44 : decode cX5_owns 44 = .ok (.iload_n 1, 1) := by decide +kernel
theorem dX5_owns_45 : decode cX5_owns 45 = .ok (.iaload, 1) := by decide +kernel
theorem dX5_owns_46 : decode cX5_owns 46 = .ok (.istore_n 3, 1) := by decide +kernel
theorem dX5_owns_47 : decode cX5_owns 47 = .ok (.aload_n 0, 1) := by decide +kernel
theorem dX5_owns_48 : decode cX5_owns 48 = .ok (.getfield 10, 3) := by decide +kernel
theorem dX5_owns_51 : decode cX5_owns 51 = .ok (.getfield 168, 3) := by decide +kernel
theorem dX5_owns_54 : decode cX5_owns 54 = .ok (.iload_n 1, 1) := by decide +kernel
theorem dX5_owns_55 : decode cX5_owns 55 = .ok (.iload_n 2, 1) := by decide +kernel
theorem dX5_owns_56 : decode cX5_owns 56 = .ok (.iastore, 1) := by decide +kernel
theorem dX5_owns_57 : decode cX5_owns 57 = .ok (.iload_n 3, 1) := by decide +kernel
theorem dX5_owns_58 : decode cX5_owns 58 = .ok (.invokestatic 171, 3) := by decide +kernel
theorem dX5_owns_61 : decode cX5_owns 61 = .ok (.ireturn, 1) := by decide +kernel
theorem dX5_stands_0 : decode cX5_stands 0 = .ok (.aload_n 0, 1) := by decide +kernel
theorem dX5_stands_1 : decode cX5_stands 1 = .ok (.getfield 10, 3) := by decide +kernel
theorem dX5_stands_4 : decode cX5_stands 4 = .ok (.iload_n 1, 1) := by decide +kernel
theorem dX5_stands_5 : decode cX5_stands 5 = .ok (.invokevirtual 123, 3) := by decide +kernel
theorem dX5_stands_8 : decode cX5_stands 8 = .ok (.ifCond .eq 10, 3) := by decide +kernel
theorem dX5_stands_11 : decode cX5_stands 11 = .ok (.iload_n 2, 1) := by decide +kernel
theorem dX5_stands_12 : decode cX5_stands 12 = .ok (.invokestatic 186, 3) := by decide +kernel
theorem dX5_stands_15 : decode cX5_stands 15 = .ok (.ifCond .ne 9, 3) := by decide +kernel
theorem dX5_stands_18 : decode cX5_stands 18 = .ok (.aload_n 0, 1) := by decide +kernel
theorem dX5_stands_19 : decode cX5_stands 19 = .ok (.iconst (-1), 1) := by decide +kernel
theorem dX5_stands_20 : decode cX5_stands 20 = .ok (.invokevirtual 60, 3) := by decide +kernel
theorem dX5_stands_23 : decode cX5_stands 23 = .ok (.ireturn, 1) := by decide +kernel
theorem dX5_stands_24 : decode cX5_stands 24 = .ok (.aload_n 0, 1) := by decide +kernel
theorem dX5_stands_25 : decode cX5_stands 25 = .ok (.invokevirtual 224, 3) := by decide +kernel
theorem dX5_stands_28 : decode cX5_stands 28 = .ok (.aload_n 0, 1) := by decide +kernel
theorem dX5_stands_29 : decode cX5_stands 29 = .ok (.getfield 10, 3) := by decide +kernel
theorem dX5_stands_32 : decode cX5_stands 32 = .ok (.getfield 135, 3) := by decide +kernel
theorem dX5_stands_35 : decode cX5_stands 35 = .ok (.iload_n 1, 1) := by decide +kernel
theorem dX5_stands_36 : decode cX5_stands 36 = .ok (.iaload, 1) := by decide +kernel
theorem dX5_stands_37 : decode cX5_stands 37 = .ok (.istore_n 3, 1) := by decide +kernel
theorem dX5_stands_38 : decode cX5_stands 38 = .ok (.aload_n 0, 1) := by decide +kernel
theorem dX5_stands_39 : decode cX5_stands 39 = .ok (.getfield 10, 3) := by decide +kernel
theorem dX5_stands_42 : decode cX5_stands 42 = .ok (.getfield 135, 3) := by decide +kernel
theorem dX5_stands_45 : decode cX5_stands 45 = .ok (.iload_n 1, 1) := by decide +kernel
theorem dX5_stands_46 : decode cX5_stands 46 = .ok (.iload_n 2, 1) := by decide +kernel
theorem dX5_stands_47 : decode cX5_stands 47 = .ok (.iastore, 1) := by decide +kernel
theorem dX5_stands_48 : decode cX5_stands 48 = .ok (.iload_n 3, 1) := by decide +kernel
theorem dX5_stands_49 : decode cX5_stands 49 = .ok (.ireturn, 1) := by decide +kernel
theorem dX5_hours_0 : decode cX5_hours 0 = .ok (.iload_n 1, 1) := by decide +kernel
theorem dX5_hours_1 : decode cX5_hours 1 = .ok (.iconst 1, 1) := by decide +kernel
theorem dX5_hours_2 : decode cX5_hours 2 = .ok (.bipush 60, 2) := by decide +kernel
theorem dX5_hours_4 : decode cX5_hours 4 = .ok (.invokestatic 220, 3) := by decide +kernel
theorem dX5_hours_7 : decode cX5_hours 7 = .ok (.istore_n 2, 1) := by decide +kernel
theorem dX5_hours_8 : decode cX5_hours 8 = .ok (.iload_n 2, 1) := by decide +kernel
theorem dX5_hours_9 : decode cX5_hours 9 = .ok (.ifCond .eq 9, 3) := by decide +kernel
theorem dX5_hours_12 : decode cX5_hours 12 = .ok (.aload_n 0, 1) := by decide +kernel
theorem dX5_hours_13 : decode cX5_hours 13 = .ok (.iload_n 2, 1) := by decide +kernel
theorem dX5_hours_14 : decode cX5_hours 14 = .ok (.invokevirtual 60, 3) := by decide +kernel
theorem dX5_hours_17 : decode cX5_hours 17 = .ok (.ireturn, 1) := by decide +kernel
theorem dX5_hours_18 : decode cX5_hours 18 = .ok (.aload_n 0, 1) := by decide +kernel
theorem dX5_hours_19 : decode cX5_hours 19 = .ok (.getfield 10, 3) := by decide +kernel
theorem dX5_hours_22 : decode cX5_hours 22 = .ok (.getfield 116, 3) := by decide +kernel
theorem dX5_hours_25 : decode cX5_hours 25 = .ok (.iload_n 1, 1) := by decide +kernel
theorem dX5_hours_26 : decode cX5_hours 26 = .ok (.iadd, 1) := by decide +kernel
theorem dX5_hours_27 : decode cX5_hours 27 = .ok (.sipush 999, 3) := by decide +kernel
theorem dX5_hours_30 : decode cX5_hours 30 = .ok (.if_icmp .le 10, 3) := by decide +kernel
theorem dX5_hours_33 : decode cX5_hours 33 = .ok (.aload_n 0, 1) := by decide +kernel
theorem dX5_hours_34 : decode cX5_hours 34 = .ok (.bipush (-6), 2) := by decide +kernel
theorem dX5_hours_36 : decode cX5_hours 36 = .ok (.invokevirtual 60, 3) := by decide +kernel
theorem dX5_hours_39 : decode cX5_hours 39 = .ok (.ireturn, 1) := by decide +kernel
theorem dX5_hours_40 : decode cX5_hours 40 = .ok (.aload_n 0, 1) := by decide +kernel
theorem dX5_hours_41 : decode cX5_hours 41 = .ok (.invokevirtual 224, 3) := by decide +kernel
theorem dX5_hours_44 : decode cX5_hours 44 = .ok (.aload_n 0, 1) := by decide +kernel
theorem dX5_hours_45 : decode cX5_hours 45 = .ok (.iload_n 1, 1) := by decide +kernel
theorem dX5_hours_46 : decode cX5_hours 46 = .ok (.invokevirtual 227, 3) := by decide +kernel
theorem dX5_hours_49 : decode cX5_hours 49 = .ok (.aload_n 0, 1) := by decide +kernel
theorem dX5_hours_50 : decode cX5_hours 50 = .ok (.getfield 10, 3) := by decide +kernel
theorem dX5_hours_53 : decode cX5_hours 53 = .ok (.aload_n 0, 1) := by decide +kernel
theorem dX5_hours_54 : decode cX5_hours 54 = .ok (.getfield 50, 3) := by decide +kernel
theorem dX5_hours_57 : decode cX5_hours 57 = .ok (.getfield 81, 3) := by decide +kernel
theorem dX5_hours_60 : decode cX5_hours 60 = .ok (.invokevirtual 84, 3) := by decide +kernel
theorem dX5_hours_63 : decode cX5_hours 63 = .ok (.aload_n 0, 1) := by decide +kernel
theorem dX5_hours_64 : decode cX5_hours 64 = .ok (.getfield 10, 3) := by decide +kernel
theorem dX5_hours_67 : decode cX5_hours 67 = .ok (.invokevirtual 213, 3) := by decide +kernel
theorem dX5_hours_70 : decode cX5_hours 70 = .ok (.ireturn, 1) := by decide +kernel
theorem dX5_back_0 : decode cX5_back 0 = .ok (.aload_n 0, 1) := by decide +kernel
theorem dX5_back_1 : decode cX5_back 1 = .ok (.getfield 27, 3) := by decide +kernel
theorem dX5_back_4 : decode cX5_back 4 = .ok (.ifCond .le 12, 3) := by decide +kernel
theorem dX5_back_7 : decode cX5_back 7 = .ok (.aload_n 0, 1) := by decide +kernel
theorem dX5_back_8 : decode cX5_back 8 = .ok (.getfield 27, 3) := by decide +kernel
theorem dX5_back_11 : decode cX5_back 11 = .ok (.bipush 8, 2) := by decide +kernel
theorem dX5_back_13 : decode cX5_back 13 = .ok (.if_icmp .le 10, 3) := by decide +kernel
theorem dX5_back_16 : decode cX5_back 16 = .ok (.aload_n 0, 1) := by decide +kernel
theorem dX5_back_17 : decode cX5_back 17 = .ok (.bipush (-3), 2) := by decide +kernel
theorem dX5_back_19 : decode cX5_back 19 = .ok (.invokevirtual 60, 3) := by decide +kernel
theorem dX5_back_22 : decode cX5_back 22 = .ok (.ireturn, 1) := by decide +kernel
theorem dX5_back_23 : decode cX5_back 23 = .ok (.aload_n 0, 1) := by decide +kernel
theorem dX5_back_24 : decode cX5_back 24 = .ok (.dup, 1) := by decide +kernel
theorem dX5_back_25 : decode cX5_back 25 = .ok (.getfield 27, 3) := by decide +kernel
theorem dX5_back_28 : decode cX5_back 28 = .ok (.iconst 1, 1) := by decide +kernel
theorem dX5_back_29 : decode cX5_back 29 = .ok (.isub, 1) := by decide +kernel
theorem dX5_back_30 : decode cX5_back 30 = .ok (.putfield 27, 3) := by decide +kernel
theorem dX5_back_33 : decode cX5_back 33 = .ok (.aload_n 0, 1) := by decide +kernel
theorem dX5_back_34 : decode cX5_back 34 = .ok (.getfield 10, 3) := by decide +kernel
theorem dX5_back_37 : decode cX5_back 37 = .ok (.aload_n 0, 1) := by decide +kernel
theorem dX5_back_38 : decode cX5_back 38 = .ok (.getfield 23, 3) := by decide +kernel
theorem dX5_back_41 : decode cX5_back 41 = .ok (.aload_n 0, 1) := by decide +kernel
theorem dX5_back_42 : decode cX5_back 42 = .ok (.getfield 27, 3) := by decide +kernel
theorem dX5_back_45 : decode cX5_back 45 = .ok (.aaload, 1) := by decide +kernel
theorem dX5_back_46 : decode cX5_back 46 = .ok (.invokevirtual 84, 3) := by decide +kernel
theorem dX5_back_49 : decode cX5_back 49 = .ok (.aload_n 0, 1) := by decide +kernel
theorem dX5_back_50 : decode cX5_back 50 = .ok (.getfield 27, 3) := by decide +kernel
theorem dX5_back_53 : decode cX5_back 53 = .ok (.ireturn, 1) := by decide +kernel
theorem dX5_keepForBack_0 : decode cX5_keepForBack 0 = .ok (.aload_n 0, 1) := by decide +kernel
theorem dX5_keepForBack_1 : decode cX5_keepForBack 1 = .ok (.getfield 27, 3) := by decide +kernel
theorem dX5_keepForBack_4 : decode cX5_keepForBack 4 = .ok (.bipush 8, 2) := by decide +kernel
theorem dX5_keepForBack_6 : decode cX5_keepForBack 6 = .ok (.if_icmp .lt 52, 3) := by decide +kernel
theorem dX5_keepForBack_9 : decode cX5_keepForBack 9 = .ok (.aload_n 0, 1) := by decide +kernel
theorem dX5_keepForBack_10 : decode cX5_keepForBack 10 = .ok (.getfield 23, 3) := by decide +kernel
theorem dX5_keepForBack_13 : decode cX5_keepForBack 13 = .ok (.iconst 0, 1) := by decide +kernel
theorem dX5_keepForBack_14 : decode cX5_keepForBack 14 = .ok (.aaload, 1) := by decide +kernel
theorem dX5_keepForBack_15 : decode cX5_keepForBack 15 = .ok (.astore_n 1, 1) := by decide +kernel
theorem dX5_keepForBack_16 : decode cX5_keepForBack 16 = .ok (.iconst 1, 1) := by decide +kernel
theorem dX5_keepForBack_17 : decode cX5_keepForBack 17 = .ok (.istore_n 2, 1) := by decide +kernel
theorem dX5_keepForBack_18 : decode cX5_keepForBack 18 = .ok (.iload_n 2, 1) := by decide +kernel
theorem dX5_keepForBack_19 : decode cX5_keepForBack 19 = .ok (.bipush 8, 2) := by decide +kernel
theorem dX5_keepForBack_21 : decode cX5_keepForBack 21 = .ok (.if_icmp .ge 23, 3) := by decide +kernel
theorem dX5_keepForBack_24 : decode cX5_keepForBack 24 = .ok (.aload_n 0, 1) := by decide +kernel
theorem dX5_keepForBack_25 : decode cX5_keepForBack 25 = .ok (.getfield 23, 3) := by decide +kernel
theorem dX5_keepForBack_28 : decode cX5_keepForBack 28 = .ok (.iload_n 2, 1) := by decide +kernel
theorem dX5_keepForBack_29 : decode cX5_keepForBack 29 = .ok (.iconst 1, 1) := by decide +kernel
theorem dX5_keepForBack_30 : decode cX5_keepForBack 30 = .ok (.isub, 1) := by decide +kernel
theorem dX5_keepForBack_31 : decode cX5_keepForBack 31 = .ok (.aload_n 0, 1) := by decide +kernel
theorem dX5_keepForBack_32 : decode cX5_keepForBack 32 = .ok (.getfield 23, 3) := by decide +kernel
theorem dX5_keepForBack_35 : decode cX5_keepForBack 35 = .ok (.iload_n 2, 1) := by decide +kernel
theorem dX5_keepForBack_36 : decode cX5_keepForBack 36 = .ok (.aaload, 1) := by decide +kernel
theorem dX5_keepForBack_37 : decode cX5_keepForBack 37 = .ok (.aastore, 1) := by decide +kernel
theorem dX5_keepForBack_38 : decode cX5_keepForBack 38 = .ok (.iinc 2 1, 3) := by decide +kernel
theorem dX5_keepForBack_41 : decode cX5_keepForBack 41 = .ok (.goto (-23), 3) := by decide +kernel
theorem dX5_keepForBack_44 : decode cX5_keepForBack 44 = .ok (.aload_n 0, 1) := by decide +kernel
theorem dX5_keepForBack_45 : decode cX5_keepForBack 45 = .ok (.getfield 23, 3) := by decide +kernel
theorem dX5_keepForBack_48 : decode cX5_keepForBack 48 = .ok (.bipush 7, 2) := by decide +kernel
theorem dX5_keepForBack_50 : decode cX5_keepForBack 50 = .ok (.aload_n 1, 1) := by decide +kernel
theorem dX5_keepForBack_51 : decode cX5_keepForBack 51 = .ok (.aastore, 1) := by decide +kernel
theorem dX5_keepForBack_52 : decode cX5_keepForBack 52 = .ok (.aload_n 0, 1) := by decide +kernel
theorem dX5_keepForBack_53 : decode cX5_keepForBack 53 = .ok (.bipush 7, 2) := by decide +kernel
theorem dX5_keepForBack_55 : decode cX5_keepForBack 55 = .ok (.putfield 27, 3) := by decide +kernel
theorem dX5_keepForBack_58 : decode cX5_keepForBack 58 = .ok (.aload_n 0, 1) := by decide +kernel
theorem dX5_keepForBack_59 : decode cX5_keepForBack 59 = .ok (.getfield 23, 3) := by decide +kernel
theorem dX5_keepForBack_62 : decode cX5_keepForBack 62 = .ok (.aload_n 0, 1) := by decide +kernel
theorem dX5_keepForBack_63 : decode cX5_keepForBack 63 = .ok (.getfield 27, 3) := by decide +kernel
theorem dX5_keepForBack_66 : decode cX5_keepForBack 66 = .ok (.aaload, 1) := by decide +kernel
theorem dX5_keepForBack_67 : decode cX5_keepForBack 67 = .ok (.aload_n 0, 1) := by decide +kernel
theorem dX5_keepForBack_68 : decode cX5_keepForBack 68 = .ok (.getfield 10, 3) := by decide +kernel
theorem dX5_keepForBack_71 : decode cX5_keepForBack 71 = .ok (.invokevirtual 84, 3) := by decide +kernel
theorem dX5_keepForBack_74 : decode cX5_keepForBack 74 = .ok (.aload_n 0, 1) := by decide +kernel
theorem dX5_keepForBack_75 : decode cX5_keepForBack 75 = .ok (.dup, 1) := by decide +kernel
theorem dX5_keepForBack_76 : decode cX5_keepForBack 76 = .ok (.getfield 27, 3) := by decide +kernel
theorem dX5_keepForBack_79 : decode cX5_keepForBack 79 = .ok (.iconst 1, 1) := by decide +kernel
theorem dX5_keepForBack_80 : decode cX5_keepForBack 80 = .ok (.iadd, 1) := by decide +kernel
theorem dX5_keepForBack_81 : decode cX5_keepForBack 81 = .ok (.putfield 27, 3) := by decide +kernel
theorem dX5_keepForBack_84 : decode cX5_keepForBack 84 = .ok (.return_, 1) := by decide +kernel
theorem dX5_then_0 : decode cX5_then 0 = .ok (.iload_n 1, 1) := by decide +kernel
theorem dX5_then_1 : decode cX5_then 1 = .ok (.iconst 0, 1) := by decide +kernel
theorem dX5_then_2 : decode cX5_then 2 = .ok (.bipush 60, 2) := by decide +kernel
theorem dX5_then_4 : decode cX5_then 4 = .ok (.invokestatic 220, 3) := by decide +kernel
theorem dX5_then_7 : decode cX5_then 7 = .ok (.istore_n 3, 1) := by decide +kernel
theorem dX5_then_8 : decode cX5_then 8 = .ok (.iload_n 3, 1) := by decide +kernel
theorem dX5_then_9 : decode cX5_then 9 = .ok (.ifCond .eq 9, 3) := by decide +kernel
theorem dX5_then_12 : decode cX5_then 12 = .ok (.aload_n 0, 1) := by decide +kernel
theorem dX5_then_13 : decode cX5_then 13 = .ok (.iload_n 3, 1) := by decide +kernel
theorem dX5_then_14 : decode cX5_then 14 = .ok (.invokevirtual 60, 3) := by decide +kernel
theorem dX5_then_17 : decode cX5_then 17 = .ok (.ireturn, 1) := by decide +kernel
theorem dX5_then_18 : decode cX5_then 18 = .ok (.iload_n 2, 1) := by decide +kernel
theorem dX5_then_19 : decode cX5_then 19 = .ok (.ifCond .lt 8, 3) := by decide +kernel
theorem dX5_then_22 : decode cX5_then 22 = .ok (.iload_n 2, 1) := by decide +kernel
theorem dX5_then_23 : decode cX5_then 23 = .ok (.iconst 2, 1) := by decide +kernel
theorem dX5_then_24 : decode cX5_then 24 = .ok (.if_icmp .le 10, 3) := by decide +kernel
theorem dX5_then_27 : decode cX5_then 27 = .ok (.aload_n 0, 1) := by decide +kernel
theorem dX5_then_28 : decode cX5_then 28 = .ok (.bipush (-2), 2) := by decide +kernel
theorem dX5_then_30 : decode cX5_then 30 = .ok (.invokevirtual 60, 3) := by decide +kernel
theorem dX5_then_33 : decode cX5_then 33 = .ok (.ireturn, 1) := by decide +kernel
theorem dX5_then_34 : decode cX5_then 34 = .ok (.aload_n 0, 1) := by decide +kernel
theorem dX5_then_35 : decode cX5_then 35 = .ok (.iload_n 1, 1) := by decide +kernel
theorem dX5_then_36 : decode cX5_then 36 = .ok (.invokevirtual 227, 3) := by decide +kernel
theorem dX5_then_39 : decode cX5_then 39 = .ok (.iload_n 2, 1) := by decide +kernel
theorem dX5_then_40 : decode cX5_then 40 = .ok (.lookupswitch 47 #[(0, 28), (1, 36)], 28) := by decide +kernel
theorem dX5_then_68 : decode cX5_then 68 = .ok (.aload_n 0, 1) := by decide +kernel
theorem dX5_then_69 : decode cX5_then 69 = .ok (.getfield 50, 3) := by decide +kernel
theorem dX5_then_72 : decode cX5_then 72 = .ok (.invokevirtual 217, 3) := by decide +kernel
theorem dX5_then_75 : decode cX5_then 75 = .ok (.ireturn, 1) := by decide +kernel
theorem dX5_then_76 : decode cX5_then 76 = .ok (.aload_n 0, 1) := by decide +kernel
theorem dX5_then_77 : decode cX5_then 77 = .ok (.getfield 50, 3) := by decide +kernel
theorem dX5_then_80 : decode cX5_then 80 = .ok (.getfield 81, 3) := by decide +kernel
theorem dX5_then_83 : decode cX5_then 83 = .ok (.invokevirtual 213, 3) := by decide +kernel
theorem dX5_then_86 : decode cX5_then 86 = .ok (.ireturn, 1) := by decide +kernel
theorem dX5_then_87 : decode cX5_then 87 = .ok (.aload_n 0, 1) := by decide +kernel
theorem dX5_then_88 : decode cX5_then 88 = .ok (.getfield 50, 3) := by decide +kernel
theorem dX5_then_91 : decode cX5_then 91 = .ok (.getfield 81, 3) := by decide +kernel
theorem dX5_then_94 : decode cX5_then 94 = .ok (.invokevirtual 230, 3) := by decide +kernel
theorem dX5_then_97 : decode cX5_then 97 = .ok (.ireturn, 1) := by decide +kernel
theorem dX5_personThen_0 : decode cX5_personThen 0 = .ok (.aload_n 0, 1) := by decide +kernel
theorem dX5_personThen_1 : decode cX5_personThen 1 = .ok (.getfield 10, 3) := by decide +kernel
theorem dX5_personThen_4 : decode cX5_personThen 4 = .ok (.iload_n 1, 1) := by decide +kernel
theorem dX5_personThen_5 : decode cX5_personThen 5 = .ok (.invokevirtual 123, 3) := by decide +kernel
theorem dX5_personThen_8 : decode cX5_personThen 8 = .ok (.ifCond .ne 9, 3) := by decide +kernel
theorem dX5_personThen_11 : decode cX5_personThen 11 = .ok (.aload_n 0, 1) := by decide +kernel
theorem dX5_personThen_12 : decode cX5_personThen 12 = .ok (.iconst (-1), 1) := by decide +kernel
theorem dX5_personThen_13 : decode cX5_personThen 13 = .ok (.invokevirtual 60, 3) := by decide +kernel
theorem dX5_personThen_16 : decode cX5_personThen 16 = .ok (.ireturn, 1) := by decide +kernel
theorem dX5_personThen_17 : decode cX5_personThen 17 = .ok (.iload_n 2, 1) := by decide +kernel
theorem dX5_personThen_18 : decode cX5_personThen 18 = .ok (.iconst 0, 1) := by decide +kernel
theorem dX5_personThen_19 : decode cX5_personThen 19 = .ok (.bipush 60, 2) := by decide +kernel
theorem dX5_personThen_21 : decode cX5_personThen 21 = .ok (.invokestatic 220, 3) := by decide +kernel
theorem dX5_personThen_24 : decode cX5_personThen 24 = .ok (.istore 4, 2) := by decide +kernel
theorem dX5_personThen_26 : decode cX5_personThen 26 = .ok (.iload 4, 2) := by decide +kernel
theorem dX5_personThen_28 : decode cX5_personThen 28 = .ok (.ifCond .eq 10, 3) := by decide +kernel
theorem dX5_personThen_31 : decode cX5_personThen 31 = .ok (.aload_n 0, 1) := by decide +kernel
theorem dX5_personThen_32 : decode cX5_personThen 32 = .ok (.iload 4, 2) := by decide +kernel
theorem dX5_personThen_34 : decode cX5_personThen 34 = .ok (.invokevirtual 60, 3) := by decide +kernel
theorem dX5_personThen_37 : decode cX5_personThen 37 = .ok (.ireturn, 1) := by decide +kernel
theorem dX5_personThen_38 : decode cX5_personThen 38 = .ok (.iload_n 3, 1) := by decide +kernel
theorem dX5_personThen_39 : decode cX5_personThen 39 = .ok (.ifCond .eq 15, 3) := by decide +kernel
theorem dX5_personThen_42 : decode cX5_personThen 42 = .ok (.iload_n 3, 1) := by decide +kernel
theorem dX5_personThen_43 : decode cX5_personThen 43 = .ok (.iconst 1, 1) := by decide +kernel
theorem dX5_personThen_44 : decode cX5_personThen 44 = .ok (.if_icmp .eq 10, 3) := by decide +kernel
theorem dX5_personThen_47 : decode cX5_personThen 47 = .ok (.aload_n 0, 1) := by decide +kernel
theorem dX5_personThen_48 : decode cX5_personThen 48 = .ok (.bipush (-2), 2) := by decide +kernel
theorem dX5_personThen_50 : decode cX5_personThen 50 = .ok (.invokevirtual 60, 3) := by decide +kernel
theorem dX5_personThen_53 : decode cX5_personThen 53 = .ok (.ireturn, 1) := by decide +kernel
theorem dX5_personThen_54 : decode cX5_personThen 54 = .ok (.aload_n 0, 1) := by decide +kernel
theorem dX5_personThen_55 : decode cX5_personThen 55 = .ok (.iload_n 2, 1) := by decide +kernel
theorem dX5_personThen_56 : decode cX5_personThen 56 = .ok (.invokevirtual 227, 3) := by decide +kernel
theorem dX5_personThen_59 : decode cX5_personThen 59 = .ok (.iload_n 3, 1) := by decide +kernel
theorem dX5_personThen_60 : decode cX5_personThen 60 = .ok (.ifCond .ne 18, 3) := by decide +kernel
theorem dX5_personThen_63 : decode cX5_personThen 63 = .ok (.aload_n 0, 1) := by decide +kernel
theorem dX5_personThen_64 : decode cX5_personThen 64 = .ok (.getfield 50, 3) := by decide +kernel
theorem dX5_personThen_67 : decode cX5_personThen 67 = .ok (.getfield 81, 3) := by decide +kernel
theorem dX5_personThen_70 : decode cX5_personThen 70 = .ok (.getfield 135, 3) := by decide +kernel
theorem dX5_personThen_73 : decode cX5_personThen 73 = .ok (.iload_n 1, 1) := by decide +kernel
theorem dX5_personThen_74 : decode cX5_personThen 74 = .ok (.iaload, 1) := by decide +kernel
theorem dX5_personThen_75 : decode cX5_personThen 75 = .ok (.goto 14, 3) := by decide +kernel
theorem dX5_personThen_78 : decode cX5_personThen 78 = .ok (.aload_n 0, 1) := by decide +kernel
theorem dX5_personThen_79 : decode cX5_personThen 79 = .ok (.getfield 50, 3) := by decide +kernel
theorem dX5_personThen_82 : decode cX5_personThen 82 = .ok (.getfield 81, 3) := by decide +kernel
theorem dX5_personThen_85 : decode cX5_personThen 85 = .ok (.iload_n 1, 1) := by decide +kernel
theorem dX5_personThen_86 : decode cX5_personThen 86 = .ok (.invokevirtual 156, 3) := by decide +kernel
theorem dX5_personThen_89 : decode cX5_personThen 89 = .ok (.ireturn, 1) := by decide +kernel
theorem dX5_clears_0 : decode cX5_clears 0 = .ok (.iload_n 1, 1) := by decide +kernel
theorem dX5_clears_1 : decode cX5_clears 1 = .ok (.invokestatic 186, 3) := by decide +kernel
theorem dX5_clears_4 : decode cX5_clears 4 = .ok (.ifCond .ne 9, 3) := by decide +kernel
theorem dX5_clears_7 : decode cX5_clears 7 = .ok (.aload_n 0, 1) := by decide +kernel
theorem dX5_clears_8 : decode cX5_clears 8 = .ok (.iconst (-1), 1) := by decide +kernel
theorem dX5_clears_9 : decode cX5_clears 9 = .ok (.invokevirtual 60, 3) := by decide +kernel
theorem dX5_clears_12 : decode cX5_clears 12 = .ok (.ireturn, 1) := by decide +kernel
theorem dX5_clears_13 : decode cX5_clears 13 = .ok (.aload_n 0, 1) := by decide +kernel
theorem dX5_clears_14 : decode cX5_clears 14 = .ok (.getfield 50, 3) := by decide +kernel
theorem dX5_clears_17 : decode cX5_clears 17 = .ok (.aload_n 0, 1) := by decide +kernel
theorem dX5_clears_18 : decode cX5_clears 18 = .ok (.getfield 10, 3) := by decide +kernel
theorem dX5_clears_21 : decode cX5_clears 21 = .ok (.invokevirtual 67, 3) := by decide +kernel
theorem dX5_clears_24 : decode cX5_clears 24 = .ok (.iconst 0, 1) := by decide +kernel
theorem dX5_clears_25 : decode cX5_clears 25 = .ok (.istore_n 2, 1) := by decide +kernel
theorem dX5_clears_26 : decode cX5_clears 26 = .ok (.iload_n 2, 1) := by decide +kernel
theorem dX5_clears_27 : decode cX5_clears 27 = .ok (.bipush 60, 2) := by decide +kernel
theorem dX5_clears_29 : decode cX5_clears 29 = .ok (.if_icmp .gt 30, 3) := by decide +kernel
theorem dX5_clears_32 : decode cX5_clears 32 = .ok (.aload_n 0, 1) := by decide +kernel
theorem dX5_clears_33 : decode cX5_clears 33 = .ok (.getfield 50, 3) := by decide +kernel
theorem dX5_clears_36 : decode cX5_clears 36 = .ok (.iload_n 1, 1) := by decide +kernel
theorem dX5_clears_37 : decode cX5_clears 37 = .ok (.invokevirtual 195, 3) := by decide +kernel
theorem dX5_clears_40 : decode cX5_clears 40 = .ok (.ifCond .ne 5, 3) := by decide +kernel
theorem dX5_clears_43 : decode cX5_clears 43 = .ok (.iload_n 2, 1) := by decide +kernel
theorem dX5_clears_44 : decode cX5_clears 44 = .ok (.ireturn, 1) := by decide +kernel
theorem dX5_clears_45 : decode cX5_clears 45 = .ok (.aload_n 0, 1) := by decide +kernel
theorem dX5_clears_46 : decode cX5_clears 46 = .ok (.getfield 50, 3) := by decide +kernel
theorem dX5_clears_49 : decode cX5_clears 49 = .ok (.iconst 1, 1) := by decide +kernel
theorem dX5_clears_50 : decode cX5_clears 50 = .ok (.invokevirtual 119, 3) := by decide +kernel
theorem dX5_clears_53 : decode cX5_clears 53 = .ok (.iinc 2 1, 3) := by decide +kernel
theorem dX5_clears_56 : decode cX5_clears 56 = .ok (.goto (-30), 3) := by decide +kernel
theorem dX5_clears_59 : decode cX5_clears 59 = .ok (.bipush (-9), 2) := by decide +kernel
theorem dX5_clears_61 : decode cX5_clears 61 = .ok (.ireturn, 1) := by decide +kernel
theorem dX5_stand_0 : decode cX5_stand 0 = .ok (.aload_n 0, 1) := by decide +kernel
theorem dX5_stand_1 : decode cX5_stand 1 = .ok (.getfield 10, 3) := by decide +kernel
theorem dX5_stand_4 : decode cX5_stand 4 = .ok (.iload_n 1, 1) := by decide +kernel
theorem dX5_stand_5 : decode cX5_stand 5 = .ok (.invokevirtual 123, 3) := by decide +kernel
theorem dX5_stand_8 : decode cX5_stand 8 = .ok (.ifCond .ne 9, 3) := by decide +kernel
theorem dX5_stand_11 : decode cX5_stand 11 = .ok (.aload_n 0, 1) := by decide +kernel
theorem dX5_stand_12 : decode cX5_stand 12 = .ok (.iconst (-1), 1) := by decide +kernel
theorem dX5_stand_13 : decode cX5_stand 13 = .ok (.invokevirtual 60, 3) := by decide +kernel
theorem dX5_stand_16 : decode cX5_stand 16 = .ok (.ireturn, 1) := by decide +kernel
theorem dX5_stand_17 : decode cX5_stand 17 = .ok (.iload_n 2, 1) := by decide +kernel
theorem dX5_stand_18 : decode cX5_stand 18 = .ok (.iconst 0, 1) := by decide +kernel
theorem dX5_stand_19 : decode cX5_stand 19 = .ok (.bipush 30, 2) := by decide +kernel
theorem dX5_stand_21 : decode cX5_stand 21 = .ok (.invokestatic 220, 3) := by decide +kernel
theorem dX5_stand_24 : decode cX5_stand 24 = .ok (.istore 4, 2) := by decide +kernel
theorem dX5_stand_26 : decode cX5_stand 26 = .ok (.iload 4, 2) := by decide +kernel
theorem dX5_stand_28 : decode cX5_stand 28 = .ok (.ifCond .eq 10, 3) := by decide +kernel
theorem dX5_stand_31 : decode cX5_stand 31 = .ok (.aload_n 0, 1) := by decide +kernel
theorem dX5_stand_32 : decode cX5_stand 32 = .ok (.iload 4, 2) := by decide +kernel
theorem dX5_stand_34 : decode cX5_stand 34 = .ok (.invokevirtual 60, 3) := by decide +kernel
theorem dX5_stand_37 : decode cX5_stand 37 = .ok (.ireturn, 1) := by decide +kernel
theorem dX5_stand_38 : decode cX5_stand 38 = .ok (.iload_n 3, 1) := by decide +kernel
theorem dX5_stand_39 : decode cX5_stand 39 = .ok (.ifCond .eq 15, 3) := by decide +kernel
theorem dX5_stand_42 : decode cX5_stand 42 = .ok (.iload_n 3, 1) := by decide +kernel
theorem dX5_stand_43 : decode cX5_stand 43 = .ok (.iconst 1, 1) := by decide +kernel
theorem dX5_stand_44 : decode cX5_stand 44 = .ok (.if_icmp .eq 10, 3) := by decide +kernel
theorem dX5_stand_47 : decode cX5_stand 47 = .ok (.aload_n 0, 1) := by decide +kernel
theorem dX5_stand_48 : decode cX5_stand 48 = .ok (.bipush (-2), 2) := by decide +kernel
theorem dX5_stand_50 : decode cX5_stand 50 = .ok (.invokevirtual 60, 3) := by decide +kernel
theorem dX5_stand_53 : decode cX5_stand 53 = .ok (.ireturn, 1) := by decide +kernel
theorem dX5_stand_54 : decode cX5_stand 54 = .ok (.iconst (-1), 1) := by decide +kernel
theorem dX5_stand_55 : decode cX5_stand 55 = .ok (.istore 5, 2) := by decide +kernel
theorem dX5_stand_57 : decode cX5_stand 57 = .ok (.iconst (-1), 1) := by decide +kernel
theorem dX5_stand_58 : decode cX5_stand 58 = .ok (.istore 6, 2) := by decide +kernel
theorem dX5_stand_60 : decode cX5_stand 60 = .ok (.iconst 0, 1) := by decide +kernel
theorem dX5_stand_61 : decode cX5_stand 61 = .ok (.istore 7, 2) := by decide +kernel
theorem dX5_stand_63 : decode cX5_stand 63 = .ok (.iload 7, 2) := by decide +kernel
theorem dX5_stand_65 : decode cX5_stand 65 = .ok (.bipush 24, 2) := by decide +kernel
theorem dX5_stand_67 : decode cX5_stand 67 = .ok (.if_icmp .ge 70, 3) := by decide +kernel
theorem dX5_stand_70 : decode cX5_stand 70 = .ok (.aload_n 0, 1) := by decide +kernel
theorem dX5_stand_71 : decode cX5_stand 71 = .ok (.getfield 50, 3) := by decide +kernel
theorem dX5_stand_74 : decode cX5_stand 74 = .ok (.aload_n 0, 1) := by decide +kernel
theorem dX5_stand_75 : decode cX5_stand 75 = .ok (.getfield 10, 3) := by decide +kernel
theorem dX5_stand_78 : decode cX5_stand 78 = .ok (.invokevirtual 67, 3) := by decide +kernel
theorem dX5_stand_81 : decode cX5_stand 81 = .ok (.aload_n 0, 1) := by decide +kernel
theorem dX5_stand_82 : decode cX5_stand 82 = .ok (.getfield 50, 3) := by decide +kernel
theorem dX5_stand_85 : decode cX5_stand 85 = .ok (.getfield 81, 3) := by decide +kernel
theorem dX5_stand_88 : decode cX5_stand 88 = .ok (.getfield 135, 3) := by decide +kernel
theorem dX5_stand_91 : decode cX5_stand 91 = .ok (.iload_n 1, 1) := by decide +kernel
theorem dX5_stand_92 : decode cX5_stand 92 = .ok (.iload 7, 2) := by decide +kernel
theorem dX5_stand_94 : decode cX5_stand 94 = .ok (.iastore, 1) := by decide +kernel
theorem dX5_stand_95 : decode cX5_stand 95 = .ok (.aload_n 0, 1) := by decide +kernel
theorem dX5_stand_96 : decode cX5_stand 96 = .ok (.getfield 50, 3) := by decide +kernel
theorem dX5_stand_99 : decode cX5_stand 99 = .ok (.iload_n 2, 1) := by decide +kernel
theorem dX5_stand_100 : decode cX5_stand 100 = .ok (.invokevirtual 119, 3) := by decide +kernel
theorem dX5_stand_103 : decode cX5_stand 103 = .ok (.aload_n 0, 1) := by decide +kernel
theorem dX5_stand_104 : decode cX5_stand 104 = .ok (.getfield 50, 3) := by decide +kernel
theorem dX5_stand_107 : decode cX5_stand 107 = .ok (.getfield 81, 3) := by decide +kernel
theorem dX5_stand_110 : decode cX5_stand 110 = .ok (.iload_n 1, 1) := by decide +kernel
theorem dX5_stand_111 : decode cX5_stand 111 = .ok (.invokevirtual 156, 3) := by decide +kernel
theorem dX5_stand_114 : decode cX5_stand 114 = .ok (.istore 8, 2) := by decide +kernel
theorem dX5_stand_116 : decode cX5_stand 116 = .ok (.iload 8, 2) := by decide +kernel
theorem dX5_stand_118 : decode cX5_stand 118 = .ok (.iload 6, 2) := by decide +kernel
theorem dX5_stand_120 : decode cX5_stand 120 = .ok (.if_icmp .le 11, 3) := by decide +kernel
theorem dX5_stand_123 : decode cX5_stand 123 = .ok (.iload 8, 2) := by decide +kernel
theorem dX5_stand_125 : decode cX5_stand 125 = .ok (.istore 6, 2) := by decide +kernel
theorem dX5_stand_127 : decode cX5_stand 127 = .ok (.iload 7, 2) := by decide +kernel
theorem dX5_stand_129 : decode cX5_stand 129 = .ok (.istore 5, 2) := by decide +kernel
theorem dX5_stand_131 : decode cX5_stand 131 = .ok (.iinc 7 1, 3) := by decide +kernel
theorem dX5_stand_134 : decode cX5_stand 134 = .ok (.goto (-71), 3) := by decide +kernel
theorem dX5_stand_137 : decode cX5_stand 137 = .ok (.iload_n 3, 1) := by decide +kernel
theorem dX5_stand_138 : decode cX5_stand 138 = .ok (.ifCond .ne 8, 3) := by decide +kernel
theorem dX5_stand_141 : decode cX5_stand 141 = .ok (.iload 5, 2) := by decide +kernel
theorem dX5_stand_143 : decode cX5_stand 143 = .ok (.goto 5, 3) := by decide +kernel
theorem dX5_stand_146 : decode cX5_stand 146 = .ok (.iload 6, 2) := by decide +kernel
theorem dX5_stand_148 : decode cX5_stand 148 = .ok (.ireturn, 1) := by decide +kernel
theorem dX5_islands_0 : decode cX5_islands 0 = .ok (.iload_n 1, 1) := by decide +kernel
theorem dX5_islands_1 : decode cX5_islands 1 = .ok (.bipush (-2), 2) := by decide +kernel
theorem dX5_islands_3 : decode cX5_islands 3 = .ok (.if_icmp .lt 9, 3) := by decide +kernel
theorem dX5_islands_6 : decode cX5_islands 6 = .ok (.iload_n 1, 1) := by decide +kernel
theorem dX5_islands_7 : decode cX5_islands 7 = .ok (.bipush 24, 2) := by decide +kernel
theorem dX5_islands_9 : decode cX5_islands 9 = .ok (.if_icmp .lt 9, 3) := by decide +kernel
theorem dX5_islands_12 : decode cX5_islands 12 = .ok (.aload_n 0, 1) := by decide +kernel
theorem dX5_islands_13 : decode cX5_islands 13 = .ok (.iconst (-1), 1) := by decide +kernel
theorem dX5_islands_14 : decode cX5_islands 14 = .ok (.invokevirtual 60, 3) := by decide +kernel
theorem dX5_islands_17 : decode cX5_islands 17 = .ok (.ireturn, 1) := by decide +kernel
theorem dX5_islands_18 : decode cX5_islands 18 = .ok (.aload_n 0, 1) := by decide +kernel
theorem dX5_islands_19 : decode cX5_islands 19 = .ok (.getfield 50, 3) := by decide +kernel
theorem dX5_islands_22 : decode cX5_islands 22 = .ok (.aload_n 0, 1) := by decide +kernel
theorem dX5_islands_23 : decode cX5_islands 23 = .ok (.getfield 10, 3) := by decide +kernel
theorem dX5_islands_26 : decode cX5_islands 26 = .ok (.invokevirtual 67, 3) := by decide +kernel
theorem dX5_islands_29 : decode cX5_islands 29 = .ok (.aload_n 0, 1) := by decide +kernel
theorem dX5_islands_30 : decode cX5_islands 30 = .ok (.getfield 50, 3) := by decide +kernel
theorem dX5_islands_33 : decode cX5_islands 33 = .ok (.invokevirtual 217, 3) := by decide +kernel
theorem dX5_islands_36 : decode cX5_islands 36 = .ok (.istore_n 2, 1) := by decide +kernel
theorem dX5_islands_37 : decode cX5_islands 37 = .ok (.iload_n 1, 1) := by decide +kernel
theorem dX5_islands_38 : decode cX5_islands 38 = .ok (.ifCond .lt 9, 3) := by decide +kernel
theorem dX5_islands_41 : decode cX5_islands 41 = .ok (.iload_n 1, 1) := by decide +kernel
theorem dX5_islands_42 : decode cX5_islands 42 = .ok (.iload_n 2, 1) := by decide +kernel
theorem dX5_islands_43 : decode cX5_islands 43 = .ok (.invokestatic 279, 3) := by decide +kernel
theorem dX5_islands_46 : decode cX5_islands 46 = .ok (.ireturn, 1) := by decide +kernel
theorem dX5_islands_47 : decode cX5_islands 47 = .ok (.iload_n 1, 1) := by decide +kernel
theorem dX5_islands_48 : decode cX5_islands 48 = .ok (.iconst (-1), 1) := by decide +kernel
theorem dX5_islands_49 : decode cX5_islands 49 = .ok (.if_icmp .ne 10, 3) := by decide +kernel
theorem dX5_islands_52 : decode cX5_islands 52 = .ok (.iload_n 2, 1) := by decide +kernel
theorem dX5_islands_53 : decode cX5_islands 53 = .ok (.invokestatic 284, 3) := by decide +kernel
theorem dX5_islands_56 : decode cX5_islands 56 = .ok (.goto 7, 3) := by decide +kernel
theorem dX5_islands_59 : decode cX5_islands 59 = .ok (.iload_n 2, 1) := by decide +kernel
theorem dX5_islands_60 : decode cX5_islands 60 = .ok (.invokestatic 287, 3) := by decide +kernel
theorem dX5_islands_63 : decode cX5_islands 63 = .ok (.ireturn, 1) := by decide +kernel
theorem dX5_way_0 : decode cX5_way 0 = .ok (.iload_n 1, 1) := by decide +kernel
theorem dX5_way_1 : decode cX5_way 1 = .ok (.invokestatic 186, 3) := by decide +kernel
theorem dX5_way_4 : decode cX5_way 4 = .ok (.ifCond .eq 10, 3) := by decide +kernel
theorem dX5_way_7 : decode cX5_way 7 = .ok (.iload_n 2, 1) := by decide +kernel
theorem dX5_way_8 : decode cX5_way 8 = .ok (.invokestatic 186, 3) := by decide +kernel
theorem dX5_way_11 : decode cX5_way 11 = .ok (.ifCond .ne 9, 3) := by decide +kernel
theorem dX5_way_14 : decode cX5_way 14 = .ok (.aload_n 0, 1) := by decide +kernel
theorem dX5_way_15 : decode cX5_way 15 = .ok (.iconst (-1), 1) := by decide +kernel
theorem dX5_way_16 : decode cX5_way 16 = .ok (.invokevirtual 60, 3) := by decide +kernel
theorem dX5_way_19 : decode cX5_way 19 = .ok (.ireturn, 1) := by decide +kernel
theorem dX5_way_20 : decode cX5_way 20 = .ok (.aload_n 0, 1) := by decide +kernel
theorem dX5_way_21 : decode cX5_way 21 = .ok (.getfield 50, 3) := by decide +kernel
theorem dX5_way_24 : decode cX5_way 24 = .ok (.aload_n 0, 1) := by decide +kernel
theorem dX5_way_25 : decode cX5_way 25 = .ok (.getfield 10, 3) := by decide +kernel
theorem dX5_way_28 : decode cX5_way 28 = .ok (.invokevirtual 67, 3) := by decide +kernel
theorem dX5_way_31 : decode cX5_way 31 = .ok (.iload_n 1, 1) := by decide +kernel
theorem dX5_way_32 : decode cX5_way 32 = .ok (.iload_n 2, 1) := by decide +kernel
theorem dX5_way_33 : decode cX5_way 33 = .ok (.aload_n 0, 1) := by decide +kernel
theorem dX5_way_34 : decode cX5_way 34 = .ok (.getfield 50, 3) := by decide +kernel
theorem dX5_way_37 : decode cX5_way 37 = .ok (.invokevirtual 217, 3) := by decide +kernel
theorem dX5_way_40 : decode cX5_way 40 = .ok (.invokestatic 295, 3) := by decide +kernel
theorem dX5_way_43 : decode cX5_way 43 = .ok (.ireturn, 1) := by decide +kernel
theorem dX5_sight_0 : decode cX5_sight 0 = .ok (.iload_n 1, 1) := by decide +kernel
theorem dX5_sight_1 : decode cX5_sight 1 = .ok (.tableswitch 63 0 4 #[35, 40, 48, 53, 58], 35) := by decide +kernel
theorem dX5_sight_36 : decode cX5_sight 36 = .ok (.aload_n 0, 1) := by decide +kernel
theorem dX5_sight_37 : decode cX5_sight 37 = .ok (.invokevirtual 298, 3) := by decide +kernel
theorem dX5_sight_40 : decode cX5_sight 40 = .ok (.ireturn, 1) := by decide +kernel
theorem dX5_sight_41 : decode cX5_sight 41 = .ok (.aload_n 0, 1) := by decide +kernel
theorem dX5_sight_42 : decode cX5_sight 42 = .ok (.getfield 10, 3) := by decide +kernel
theorem dX5_sight_45 : decode cX5_sight 45 = .ok (.invokevirtual 230, 3) := by decide +kernel
theorem dX5_sight_48 : decode cX5_sight 48 = .ok (.ireturn, 1) := by decide +kernel
theorem dX5_sight_49 : decode cX5_sight 49 = .ok (.aload_n 0, 1) := by decide +kernel
theorem dX5_sight_50 : decode cX5_sight 50 = .ok (.invokevirtual 301, 3) := by decide +kernel
theorem dX5_sight_53 : decode cX5_sight 53 = .ok (.ireturn, 1) := by decide +kernel
theorem dX5_sight_54 : decode cX5_sight 54 = .ok (.aload_n 0, 1) := by decide +kernel
theorem dX5_sight_55 : decode cX5_sight 55 = .ok (.invokevirtual 304, 3) := by decide +kernel
theorem dX5_sight_58 : decode cX5_sight 58 = .ok (.ireturn, 1) := by decide +kernel
theorem dX5_sight_59 : decode cX5_sight 59 = .ok (.aload_n 0, 1) := by decide +kernel
theorem dX5_sight_60 : decode cX5_sight 60 = .ok (.invokevirtual 307, 3) := by decide +kernel
theorem dX5_sight_63 : decode cX5_sight 63 = .ok (.ireturn, 1) := by decide +kernel
theorem dX5_sight_64 : decode cX5_sight 64 = .ok (.aload_n 0, 1) := by decide +kernel
theorem dX5_sight_65 : decode cX5_sight 65 = .ok (.bipush (-2), 2) := by decide +kernel
theorem dX5_sight_67 : decode cX5_sight 67 = .ok (.invokevirtual 60, 3) := by decide +kernel
theorem dX5_sight_70 : decode cX5_sight 70 = .ok (.ireturn, 1) := by decide +kernel
theorem dX5_richest_0 : decode cX5_richest 0 = .ok (.bipush (-9), 2) := by decide +kernel
theorem dX5_richest_2 : decode cX5_richest 2 = .ok (.istore_n 1, 1) := by decide +kernel
theorem dX5_richest_3 : decode cX5_richest 3 = .ok (.iconst (-1), 1) := by decide +kernel
theorem dX5_richest_4 : decode cX5_richest 4 = .ok (.istore_n 2, 1) := by decide +kernel
theorem dX5_richest_5 : decode cX5_richest 5 = .ok (.iconst 0, 1) := by decide +kernel
theorem dX5_richest_6 : decode cX5_richest 6 = .ok (.istore_n 3, 1) := by decide +kernel
theorem dX5_richest_7 : decode cX5_richest 7 = .ok (.iload_n 3, 1) := by decide +kernel
theorem dX5_richest_8 : decode cX5_richest 8 = .ok (.aload_n 0, 1) := by decide +kernel
theorem dX5_richest_9 : decode cX5_richest 9 = .ok (.getfield 10, 3) := by decide +kernel
theorem dX5_richest_12 : decode cX5_richest 12 = .ok (.getfield 204, 3) := by decide +kernel
theorem dX5_richest_15 : decode cX5_richest 15 = .ok (.if_icmp .ge 30, 3) := by decide +kernel
theorem dX5_richest_18 : decode cX5_richest 18 = .ok (.aload_n 0, 1) := by decide +kernel
theorem dX5_richest_19 : decode cX5_richest 19 = .ok (.getfield 10, 3) := by decide +kernel
theorem dX5_richest_22 : decode cX5_richest 22 = .ok (.iload_n 3, 1) := by decide +kernel
theorem dX5_richest_23 : decode cX5_richest 23 = .ok (.invokevirtual 156, 3) := by decide +kernel
theorem dX5_richest_26 : decode cX5_richest 26 = .ok (.istore 4, 2) := by decide +kernel
