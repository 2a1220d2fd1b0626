theorem dX0_init_0 : decode cX0_init 0 = .ok (.aload_n 0, 1) := by decide +kernel
theorem dX0_init_1 : decode cX0_init 1 = .ok (.invokespecial 3, 3) := by decide +kernel
theorem dX0_init_4 : decode cX0_init 4 = .ok (.aload_n 0, 1) := by decide +kernel
theorem dX0_init_5 : decode cX0_init 5 = .ok (.new 9, 3) := by decide +kernel
theorem dX0_init_8 : decode cX0_init 8 = .ok (.dup, 1) := by decide +kernel
theorem dX0_init_9 : decode cX0_init 9 = .ok (.invokespecial 11, 3) := by decide +kernel
theorem dX0_init_12 : decode cX0_init 12 = .ok (.putfield 12, 3) := by decide +kernel
theorem dX0_init_15 : decode cX0_init 15 = .ok (.aload_n 0, 1) := by decide +kernel
theorem dX0_init_16 : decode cX0_init 16 = .ok (.new 18, 3) := by decide +kernel
theorem dX0_init_19 : decode cX0_init 19 = .ok (.dup, 1) := by decide +kernel
theorem dX0_init_20 : decode cX0_init 20 = .ok (.invokespecial 20, 3) := by decide +kernel
theorem dX0_init_23 : decode cX0_init 23 = .ok (.putfield 21, 3) := by decide +kernel
theorem dX0_init_26 : decode cX0_init 26 = .ok (.aload_n 0, 1) := by decide +kernel
theorem dX0_init_27 : decode cX0_init 27 = .ok (.iconst 0, 1) := by decide +kernel
theorem dX0_init_28 : decode cX0_init 28 = .ok (.putfield 25, 3) := by decide +kernel
theorem dX0_init_31 : decode cX0_init 31 = .ok (.aload_n 0, 1) := by decide +kernel
theorem dX0_init_32 : decode cX0_init 32 = .ok (.iconst (-1), 1) := by decide +kernel
theorem dX0_init_33 : decode cX0_init 33 = .ok (.putfield 29, 3) := by decide +kernel
theorem dX0_init_36 : decode cX0_init 36 = .ok (.aload_n 0, 1) := by decide +kernel
theorem dX0_init_37 : decode cX0_init 37 = .ok (.iconst 0, 1) := by decide +kernel
theorem dX0_init_38 : decode cX0_init 38 = .ok (.putfield 32, 3) := by decide +kernel
theorem dX0_init_41 : decode cX0_init 41 = .ok (.return_, 1) := by decide +kernel
theorem dX0_begin_0 : decode cX0_begin 0 = .ok (.aload_n 0, 1) := by decide +kernel
theorem dX0_begin_1 : decode cX0_begin 1 = .ok (.getfield 12, 3) := by decide +kernel
theorem dX0_begin_4 : decode cX0_begin 4 = .ok (.aload_n 1, 1) := by decide +kernel
theorem dX0_begin_5 : decode cX0_begin 5 = .ok (.invokevirtual 36, 3) := by decide +kernel
theorem dX0_begin_8 : decode cX0_begin 8 = .ok (.aload_n 0, 1) := by decide +kernel
theorem dX0_begin_9 : decode cX0_begin 9 = .ok (.iconst (-1), 1) := by decide +kernel
theorem dX0_begin_10 : decode cX0_begin 10 = .ok (.putfield 29, 3) := by decide +kernel
theorem dX0_begin_13 : decode cX0_begin 13 = .ok (.aload_n 0, 1) := by decide +kernel
theorem dX0_begin_14 : decode cX0_begin 14 = .ok (.iconst 0, 1) := by decide +kernel
theorem dX0_begin_15 : decode cX0_begin 15 = .ok (.putfield 32, 3) := by decide +kernel
theorem dX0_begin_18 : decode cX0_begin 18 = .ok (.aload_n 0, 1) := by decide +kernel
theorem dX0_begin_19 : decode cX0_begin 19 = .ok (.invokevirtual 40, 3) := by decide +kernel
theorem dX0_begin_22 : decode cX0_begin 22 = .ok (.return_, 1) := by decide +kernel
theorem dX0_look_0 : decode cX0_look 0 = .ok (.aload_n 0, 1) := by decide +kernel
theorem dX0_look_1 : decode cX0_look 1 = .ok (.aload_n 0, 1) := by decide +kernel
theorem dX0_look_2 : decode cX0_look 2 = .ok (.getfield 21, 3) := by decide +kernel
theorem dX0_look_5 : decode cX0_look 5 = .ok (.aload_n 0, 1) := by decide +kernel
theorem dX0_look_6 : decode cX0_look 6 = .ok (.getfield 12, 3) := by decide +kernel
theorem dX0_look_9 : decode cX0_look 9 = .ok (.aload_n 0, 1) := by decide +kernel
theorem dX0_look_10 : decode cX0_look 10 = .ok (.getfield 12, 3) := by decide +kernel
theorem dX0_look_13 : decode cX0_look 13 = .ok (.getfield 43, 3) := by decide +kernel
theorem dX0_look_16 : decode cX0_look 16 = .ok (.invokevirtual 46, 3) := by decide +kernel
theorem dX0_look_19 : decode cX0_look 19 = .ok (.putfield 25, 3) := by decide +kernel
theorem dX0_look_22 : decode cX0_look 22 = .ok (.return_, 1) := by decide +kernel
theorem dX0_airOn_0 : decode cX0_airOn 0 = .ok (.aload_n 0, 1) := by decide +kernel
theorem dX0_airOn_1 : decode cX0_airOn 1 = .ok (.getfield 32, 3) := by decide +kernel
theorem dX0_airOn_4 : decode cX0_airOn 4 = .ok (.ifCond .ne 13, 3) := by decide +kernel
theorem dX0_airOn_7 : decode cX0_airOn 7 = .ok (.iload_n 1, 1) := by decide +kernel
theorem dX0_airOn_8 : decode cX0_airOn 8 = .ok (.ifCond .lt 9, 3) := by decide +kernel
theorem dX0_airOn_11 : decode cX0_airOn 11 = .ok (.iload_n 1, 1) := by decide +kernel
theorem dX0_airOn_12 : decode cX0_airOn 12 = .ok (.bipush 24, 2) := by decide +kernel
theorem dX0_airOn_14 : decode cX0_airOn 14 = .ok (.if_icmp .lt 7, 3) := by decide +kernel
theorem dX0_airOn_17 : decode cX0_airOn 17 = .ok (.iconst 0, 1) := by decide +kernel
theorem dX0_airOn_18 : decode cX0_airOn 18 = .ok (.goto 17, 3) := by decide +kernel
theorem dX0_airOn_21 : decode cX0_airOn 21 = .ok (.aload_n 0, 1) := by decide +kernel
theorem dX0_airOn_22 : decode cX0_airOn 22 = .ok (.getfield 21, 3) := by decide +kernel
theorem dX0_airOn_25 : decode cX0_airOn 25 = .ok (.getfield 50, 3) := by decide +kernel
theorem dX0_airOn_28 : decode cX0_airOn 28 = .ok (.aload_n 0, 1) := by decide +kernel
theorem dX0_airOn_29 : decode cX0_airOn 29 = .ok (.getfield 25, 3) := by decide +kernel
theorem dX0_airOn_32 : decode cX0_airOn 32 = .ok (.iload_n 1, 1) := by decide +kernel
theorem dX0_airOn_33 : decode cX0_airOn 33 = .ok (.iadd, 1) := by decide +kernel
theorem dX0_airOn_34 : decode cX0_airOn 34 = .ok (.iaload, 1) := by decide +kernel
theorem dX0_airOn_35 : decode cX0_airOn 35 = .ok (.ireturn, 1) := by decide +kernel
theorem dX0_fogOn_0 : decode cX0_fogOn 0 = .ok (.iload_n 1, 1) := by decide +kernel
theorem dX0_fogOn_1 : decode cX0_fogOn 1 = .ok (.aload_n 0, 1) := by decide +kernel
theorem dX0_fogOn_2 : decode cX0_fogOn 2 = .ok (.getfield 29, 3) := by decide +kernel
theorem dX0_fogOn_5 : decode cX0_fogOn 5 = .ok (.if_icmp .ne 8, 3) := by decide +kernel
theorem dX0_fogOn_8 : decode cX0_fogOn 8 = .ok (.bipush 9, 2) := by decide +kernel
theorem dX0_fogOn_10 : decode cX0_fogOn 10 = .ok (.goto 8, 3) := by decide +kernel
theorem dX0_fogOn_13 : decode cX0_fogOn 13 = .ok (.aload_n 0, 1) := by decide +kernel
theorem dX0_fogOn_14 : decode cX0_fogOn 14 = .ok (.iload_n 1, 1) := by decide +kernel
theorem dX0_fogOn_15 : decode cX0_fogOn 15 = .ok (.invokevirtual 54, 3) := by decide +kernel
theorem dX0_fogOn_18 : decode cX0_fogOn 18 = .ok (.istore_n 2, 1) := by decide +kernel
theorem dX0_fogOn_19 : decode cX0_fogOn 19 = .ok (.iconst 0, 1) := by decide +kernel
theorem dX0_fogOn_20 : decode cX0_fogOn 20 = .ok (.istore_n 3, 1) := by decide +kernel
theorem dX0_fogOn_21 : decode cX0_fogOn 21 = .ok (.iload_n 3, 1) := by decide +kernel
theorem dX0_fogOn_22 : decode cX0_fogOn 22 = .ok (.aload_n 0, 1) := by decide +kernel
theorem dX0_fogOn_23 : decode cX0_fogOn 23 = .ok (.getfield 12, 3) := by decide +kernel
theorem dX0_fogOn_26 : decode cX0_fogOn 26 = .ok (.getfield 58, 3) := by decide +kernel
theorem dX0_fogOn_29 : decode cX0_fogOn 29 = .ok (.if_icmp .ge 48, 3) := by decide +kernel
theorem dX0_fogOn_32 : decode cX0_fogOn 32 = .ok (.aload_n 0, 1) := by decide +kernel
theorem dX0_fogOn_33 : decode cX0_fogOn 33 = .ok (.getfield 12, 3) := by decide +kernel
theorem dX0_fogOn_36 : decode cX0_fogOn 36 = .ok (.getfield 61, 3) := by decide +kernel
theorem dX0_fogOn_39 : decode cX0_fogOn 39 = .ok (.iload_n 3, 1) := by decide +kernel
theorem dX0_fogOn_40 : decode cX0_fogOn 40 = .ok (.iaload, 1) := by decide +kernel
theorem dX0_fogOn_41 : decode cX0_fogOn 41 = .ok (.iload_n 1, 1) := by decide +kernel
theorem dX0_fogOn_42 : decode cX0_fogOn 42 = .ok (.if_icmp .ne 29, 3) := by decide +kernel
theorem dX0_fogOn_45 : decode cX0_fogOn 45 = .ok (.iload_n 2, 1) := by decide +kernel
theorem dX0_fogOn_46 : decode cX0_fogOn 46 = .ok (.aload_n 0, 1) := by decide +kernel
theorem dX0_fogOn_47 : decode cX0_fogOn 47 = .ok (.getfield 12, 3) := by decide +kernel
theorem dX0_fogOn_50 : decode cX0_fogOn 50 = .ok (.getfield 64, 3) := by decide +kernel
theorem dX0_fogOn_53 : decode cX0_fogOn 53 = .ok (.iload_n 3, 1) := by decide +kernel
theorem dX0_fogOn_54 : decode cX0_fogOn 54 = .ok (.iaload, 1) := by decide +kernel
theorem dX0_fogOn_55 : decode cX0_fogOn 55 = .ok (.aload_n 0, 1) := by decide +kernel
theorem dX0_fogOn_56 : decode cX0_fogOn 56 = .ok (.getfield 12, 3) := by decide +kernel
theorem dX0_fogOn_59 : decode cX0_fogOn 59 = .ok (.getfield 67, 3) := by decide +kernel
theorem dX0_fogOn_62 : decode cX0_fogOn 62 = .ok (.iload_n 3, 1) := by decide +kernel
theorem dX0_fogOn_63 : decode cX0_fogOn 63 = .ok (.iaload, 1) := by decide +kernel
theorem dX0_fogOn_64 : decode cX0_fogOn 64 = .ok (.invokestatic 70, 3) := by decide +kernel
theorem dX0_fogOn_67 : decode cX0_fogOn 67 = .ok (.invokestatic 76, 3) := by decide +kernel
theorem dX0_fogOn_70 : decode cX0_fogOn 70 = .ok (.istore_n 2, 1) := by decide +kernel
theorem dX0_fogOn_71 : decode cX0_fogOn 71 = .ok (.iinc 3 1, 3) := by decide +kernel
theorem dX0_fogOn_74 : decode cX0_fogOn 74 = .ok (.goto (-53), 3) := by decide +kernel
theorem dX0_fogOn_77 : decode cX0_fogOn 77 = .ok (.iload_n 2, 1) := by decide +kernel
theorem dX0_fogOn_78 : decode cX0_fogOn 78 = .ok (.ireturn, 1) := by decide +kernel
theorem dX0_isInFog_0 : decode cX0_isInFog 0 = .ok (.aload_n 0, 1) := by decide +kernel
theorem dX0_isInFog_1 : decode cX0_isInFog 1 = .ok (.iload_n 1, 1) := by decide +kernel
theorem dX0_isInFog_2 : decode cX0_isInFog 2 = .ok (.invokevirtual 81, 3) := by decide +kernel
theorem dX0_isInFog_5 : decode cX0_isInFog 5 = .ok (.aload_n 0, 1) := by decide +kernel
theorem dX0_isInFog_6 : decode cX0_isInFog 6 = .ok (.getfield 12, 3) := by decide +kernel
theorem dX0_isInFog_9 : decode cX0_isInFog 9 = .ok (.getfield 84, 3) := by decide +kernel
theorem dX0_isInFog_12 : decode cX0_isInFog 12 = .ok (.if_icmp .lt 7, 3) := by decide +kernel
theorem dX0_isInFog_15 : decode cX0_isInFog 15 = .ok (.iconst 1, 1) := by decide +kernel
theorem dX0_isInFog_16 : decode cX0_isInFog 16 = .ok (.goto 4, 3) := by decide +kernel
theorem dX0_isInFog_19 : decode cX0_isInFog 19 = .ok (.iconst 0, 1) := by decide +kernel
theorem dX0_isInFog_20 : decode cX0_isInFog 20 = .ok (.ireturn, 1) := by decide +kernel
theorem dX0_foggyCells_0 : decode cX0_foggyCells 0 = .ok (.iconst 0, 1) := by decide +kernel
theorem dX0_foggyCells_1 : decode cX0_foggyCells 1 = .ok (.istore_n 1, 1) := by decide +kernel
theorem dX0_foggyCells_2 : decode cX0_foggyCells 2 = .ok (.iconst 0, 1) := by decide +kernel
theorem dX0_foggyCells_3 : decode cX0_foggyCells 3 = .ok (.istore_n 2, 1) := by decide +kernel
theorem dX0_foggyCells_4 : decode cX0_foggyCells 4 = .ok (.iload_n 2, 1) := by decide +kernel
theorem dX0_foggyCells_5 : decode cX0_foggyCells 5 = .ok (.bipush 24, 2) := by decide +kernel
theorem dX0_foggyCells_7 : decode cX0_foggyCells 7 = .ok (.if_icmp .ge 23, 3) := by decide +kernel
theorem dX0_foggyCells_10 : decode cX0_foggyCells 10 = .ok (.aload_n 0, 1) := by decide +kernel
theorem dX0_foggyCells_11 : decode cX0_foggyCells 11 = .ok (.iload_n 2, 1) := by decide +kernel
theorem dX0_foggyCells_12 : decode cX0_foggyCells 12 = .ok (.invokevirtual 87, 3) := by decide +kernel
theorem dX0_foggyCells_15 : decode cX0_foggyCells 15 = .ok (.ifCond .eq 9, 3) := by decide +kernel
theorem dX0_foggyCells_18 : decode cX0_foggyCells 18 = .ok (.iload_n 1, 1) := by decide +kernel
theorem dX0_foggyCells_19 : decode cX0_foggyCells 19 = .ok (.iconst 1, 1) := by decide +kernel
theorem dX0_foggyCells_20 : decode cX0_foggyCells 20 = .ok (.iload_n 2, 1) := by decide +kernel
theorem dX0_foggyCells_21 : decode cX0_foggyCells 21 = .ok (.ishl, 1) := by decide +kernel
theorem dX0_foggyCells_22 : decode cX0_foggyCells 22 = .ok (.ior, 1) := by decide +kernel
theorem dX0_foggyCells_23 : decode cX0_foggyCells 23 = .ok (.istore_n 1, 1) := by decide +kernel
theorem dX0_foggyCells_24 : decode cX0_foggyCells 24 = .ok (.iinc 2 1, 3) := by decide +kernel
theorem dX0_foggyCells_27 : decode cX0_foggyCells 27 = .ok (.goto (-23), 3) := by decide +kernel
theorem dX0_foggyCells_30 : decode cX0_foggyCells 30 = .ok (.iload_n 1, 1) := by decide +kernel
theorem dX0_foggyCells_31 : decode cX0_foggyCells 31 = .ok (.ireturn, 1) := by decide +kernel
theorem dX0_goOn_0 : decode cX0_goOn 0 = .ok (.aload_n 0, 1) := by decide +kernel
theorem dX0_goOn_1 : decode cX0_goOn 1 = .ok (.invokevirtual 40, 3) := by decide +kernel
theorem dX0_goOn_4 : decode cX0_goOn 4 = .ok (.iconst 0, 1) := by decide +kernel
theorem dX0_goOn_5 : decode cX0_goOn 5 = .ok (.istore_n 2, 1) := by decide +kernel
theorem dX0_goOn_6 : decode cX0_goOn 6 = .ok (.iload_n 2, 1) := by decide +kernel
theorem dX0_goOn_7 : decode cX0_goOn 7 = .ok (.iload_n 1, 1) := by decide +kernel
theorem dX0_goOn_8 : decode cX0_goOn 8 = .ok (.if_icmp .ge 80, 3) := by decide +kernel
theorem dX0_goOn_11 : decode cX0_goOn 11 = .ok (.aload_n 0, 1) := by decide +kernel
theorem dX0_goOn_12 : decode cX0_goOn 12 = .ok (.getfield 12, 3) := by decide +kernel
theorem dX0_goOn_15 : decode cX0_goOn 15 = .ok (.dup, 1) := by decide +kernel
theorem dX0_goOn_16 : decode cX0_goOn 16 = .ok (.getfield 43, 3) := by decide +kernel
theorem dX0_goOn_19 : decode cX0_goOn 19 = .ok (.iconst 1, 1) := by decide +kernel
theorem dX0_goOn_20 : decode cX0_goOn 20 = .ok (.iadd, 1) := by decide +kernel
theorem dX0_goOn_21 : decode cX0_goOn 21 = .ok (.putfield 43, 3) := by decide +kernel
theorem dX0_goOn_24 : decode cX0_goOn 24 = .ok (.aload_n 0, 1) := by decide +kernel
theorem dX0_goOn_25 : decode cX0_goOn 25 = .ok (.invokevirtual 40, 3) := by decide +kernel
theorem dX0_goOn_28 : decode cX0_goOn 28 = .ok (.aload_n 0, 1) := by decide +kernel
theorem dX0_goOn_29 : decode cX0_goOn 29 = .ok (.invokevirtual 91, 3) := by decide +kernel
theorem dX0_goOn_32 : decode cX0_goOn 32 = .ok (.iconst 0, 1) := by decide +kernel
theorem dX0_goOn_33 : decode cX0_goOn 33 = .ok (.istore_n 3, 1) := by decide +kernel
theorem dX0_goOn_34 : decode cX0_goOn 34 = .ok (.iload_n 3, 1) := by decide +kernel
theorem dX0_goOn_35 : decode cX0_goOn 35 = .ok (.aload_n 0, 1) := by decide +kernel
theorem dX0_goOn_36 : decode cX0_goOn 36 = .ok (.getfield 12, 3) := by decide +kernel
theorem dX0_goOn_39 : decode cX0_goOn 39 = .ok (.getfield 58, 3) := by decide +kernel
theorem dX0_goOn_42 : decode cX0_goOn 42 = .ok (.if_icmp .ge 40, 3) := by decide +kernel
theorem dX0_goOn_45 : decode cX0_goOn 45 = .ok (.aload_n 0, 1) := by decide +kernel
theorem dX0_goOn_46 : decode cX0_goOn 46 = .ok (.iload_n 3, 1) := by decide +kernel
theorem dX0_goOn_47 : decode cX0_goOn 47 = .ok (.aload_n 0, 1) := by decide +kernel
theorem dX0_goOn_48 : decode cX0_goOn 48 = .ok (.iload_n 3, 1) := by decide +kernel
theorem dX0_goOn_49 : decode cX0_goOn 49 = .ok (.invokevirtual 94, 3) := by decide +kernel
theorem dX0_goOn_52 : decode cX0_goOn 52 = .ok (.invokevirtual 97, 3) := by decide +kernel
theorem dX0_goOn_55 : decode cX0_goOn 55 = .ok (.aload_n 0, 1) := by decide +kernel
theorem dX0_goOn_56 : decode cX0_goOn 56 = .ok (.aload_n 0, 1) := by decide +kernel
theorem dX0_goOn_57 : decode cX0_goOn 57 = .ok (.getfield 12, 3) := by decide +kernel
theorem dX0_goOn_60 : decode cX0_goOn 60 = .ok (.getfield 61, 3) := by decide +kernel
theorem dX0_goOn_63 : decode cX0_goOn 63 = .ok (.iload_n 3, 1) := by decide +kernel
theorem dX0_goOn_64 : decode cX0_goOn 64 = .ok (.iaload, 1) := by decide +kernel
theorem dX0_goOn_65 : decode cX0_goOn 65 = .ok (.invokevirtual 87, 3) := by decide +kernel
theorem dX0_goOn_68 : decode cX0_goOn 68 = .ok (.ifCond .eq 8, 3) := by decide +kernel
theorem dX0_goOn_71 : decode cX0_goOn 71 = .ok (.aload_n 0, 1) := by decide +kernel
theorem dX0_goOn_72 : decode cX0_goOn 72 = .ok (.iload_n 3, 1) := by decide +kernel
theorem dX0_goOn_73 : decode cX0_goOn 73 = .ok (.invokevirtual 101, 3) := by decide +kernel
theorem dX0_goOn_76 : decode cX0_goOn 76 = .ok (.iinc 3 1, 3) := by decide +kernel
theorem dX0_goOn_79 : decode cX0_goOn 79 = .ok (.goto (-45), 3) := by decide +kernel
theorem dX0_goOn_82 : decode cX0_goOn 82 = .ok (.iinc 2 1, 3) := by decide +kernel
theorem dX0_goOn_85 : decode cX0_goOn 85 = .ok (.goto (-79), 3) := by decide +kernel
theorem dX0_goOn_88 : decode cX0_goOn 88 = .ok (.return_, 1) := by decide +kernel
theorem dX0_dropInTheClear_0 : decode cX0_dropInTheClear 0 = .ok (.iconst 0, 1) := by decide +kernel
theorem dX0_dropInTheClear_1 : decode cX0_dropInTheClear 1 = .ok (.istore_n 1, 1) := by decide +kernel
theorem dX0_dropInTheClear_2 : decode cX0_dropInTheClear 2 = .ok (.iload_n 1, 1) := by decide +kernel
theorem dX0_dropInTheClear_3 : decode cX0_dropInTheClear 3 = .ok (.aload_n 0, 1) := by decide +kernel
theorem dX0_dropInTheClear_4 : decode cX0_dropInTheClear 4 = .ok (.getfield 12, 3) := by decide +kernel
theorem dX0_dropInTheClear_7 : decode cX0_dropInTheClear 7 = .ok (.getfield 105, 3) := by decide +kernel
theorem dX0_dropInTheClear_10 : decode cX0_dropInTheClear 10 = .ok (.if_icmp .ge 35, 3) := by decide +kernel
theorem dX0_dropInTheClear_13 : decode cX0_dropInTheClear 13 = .ok (.aload_n 0, 1) := by decide +kernel
theorem dX0_dropInTheClear_14 : decode cX0_dropInTheClear 14 = .ok (.aload_n 0, 1) := by decide +kernel
theorem dX0_dropInTheClear_15 : decode cX0_dropInTheClear 15 = .ok (.getfield 12, 3) := by decide +kernel
theorem dX0_dropInTheClear_18 : decode cX0_dropInTheClear 18 = .ok (.getfield 108, 3) := by decide +kernel
theorem dX0_dropInTheClear_21 : decode cX0_dropInTheClear 21 = .ok (.iload_n 1, 1) := by decide +kernel
theorem dX0_dropInTheClear_22 : decode cX0_dropInTheClear 22 = .ok (.iaload, 1) := by decide +kernel
theorem dX0_dropInTheClear_23 : decode cX0_dropInTheClear 23 = .ok (.invokevirtual 87, 3) := by decide +kernel
theorem dX0_dropInTheClear_26 : decode cX0_dropInTheClear 26 = .ok (.ifCond .ne 13, 3) := by decide +kernel
theorem dX0_dropInTheClear_29 : decode cX0_dropInTheClear 29 = .ok (.aload_n 0, 1) := by decide +kernel
theorem dX0_dropInTheClear_30 : decode cX0_dropInTheClear 30 = .ok (.getfield 12, 3) := by decide +kernel
theorem dX0_dropInTheClear_33 : decode cX0_dropInTheClear 33 = .ok (.getfield 111, 3) := by decide +kernel
theorem dX0_dropInTheClear_36 : decode cX0_dropInTheClear 36 = .ok (.iload_n 1, 1) := by decide +kernel
theorem dX0_dropInTheClear_37 : decode cX0_dropInTheClear 37 = .ok (.iconst (-1), 1) := by decide +kernel
theorem dX0_dropInTheClear_38 : decode cX0_dropInTheClear 38 = .ok (.iastore, 1) := by decide +kernel
theorem dX0_dropInTheClear_39 : decode cX0_dropInTheClear 39 = .ok (.iinc 1 1, 3) := by decide +kernel
theorem dX0_dropInTheClear_42 : decode cX0_dropInTheClear 42 = .ok (.goto (-40), 3) := by decide +kernel
theorem dX0_dropInTheClear_45 : decode cX0_dropInTheClear 45 = .ok (.return_, 1) := by decide +kernel
theorem dX0_walk_0 : decode cX0_walk 0 = .ok (.aload_n 0, 1) := by decide +kernel
theorem dX0_walk_1 : decode cX0_walk 1 = .ok (.getfield 12, 3) := by decide +kernel
theorem dX0_walk_4 : decode cX0_walk 4 = .ok (.getfield 64, 3) := by decide +kernel
theorem dX0_walk_7 : decode cX0_walk 7 = .ok (.iload_n 1, 1) := by decide +kernel
theorem dX0_walk_8 : decode cX0_walk 8 = .ok (.iaload, 1) := by decide +kernel
theorem dX0_walk_9 : decode cX0_walk 9 = .ok (.aload_n 0, 1) := by decide +kernel
theorem dX0_walk_10 : decode cX0_walk 10 = .ok (.getfield 12, 3) := by decide +kernel
theorem dX0_walk_13 : decode cX0_walk 13 = .ok (.getfield 67, 3) := by decide +kernel
theorem dX0_walk_16 : decode cX0_walk 16 = .ok (.iload_n 1, 1) := by decide +kernel
theorem dX0_walk_17 : decode cX0_walk 17 = .ok (.iaload, 1) := by decide +kernel
theorem dX0_walk_18 : decode cX0_walk 18 = .ok (.invokestatic 114, 3) := by decide +kernel
theorem dX0_walk_21 : decode cX0_walk 21 = .ok (.istore_n 3, 1) := by decide +kernel
theorem dX0_walk_22 : decode cX0_walk 22 = .ok (.aload_n 0, 1) := by decide +kernel
theorem dX0_walk_23 : decode cX0_walk 23 = .ok (.getfield 12, 3) := by decide +kernel
theorem dX0_walk_26 : decode cX0_walk 26 = .ok (.getfield 61, 3) := by decide +kernel
theorem dX0_walk_29 : decode cX0_walk 29 = .ok (.iload_n 1, 1) := by decide +kernel
theorem dX0_walk_30 : decode cX0_walk 30 = .ok (.iaload, 1) := by decide +kernel
theorem dX0_walk_31 : decode cX0_walk 31 = .ok (.istore 4, 2) := by decide +kernel
theorem dX0_walk_33 : decode cX0_walk 33 = .ok (.iconst 0, 1) := by decide +kernel
theorem dX0_walk_34 : decode cX0_walk 34 = .ok (.istore 5, 2) := by decide +kernel
theorem dX0_walk_36 : decode cX0_walk 36 = .ok (.iload 5, 2) := by decide +kernel
theorem dX0_walk_38 : decode cX0_walk 38 = .ok (.iload_n 3, 1) := by decide +kernel
theorem dX0_walk_39 : decode cX0_walk 39 = .ok (.if_icmp .ge 68, 3) := by decide +kernel
theorem dX0_walk_42 : decode cX0_walk 42 = .ok (.iload 4, 2) := by decide +kernel
theorem dX0_walk_44 : decode cX0_walk 44 = .ok (.iload_n 2, 1) := by decide +kernel
theorem dX0_walk_45 : decode cX0_walk 45 = .ok (.if_icmp .eq 62, 3) := by decide +kernel
theorem dX0_walk_48 : decode cX0_walk 48 = .ok (.iload_n 2, 1) := by decide +kernel
theorem dX0_walk_49 : decode cX0_walk 49 = .ok (.bipush 6, 2) := by decide +kernel
theorem dX0_walk_51 : decode cX0_walk 51 = .ok (.idiv, 1) := by decide +kernel
theorem dX0_walk_52 : decode cX0_walk 52 = .ok (.iload 4, 2) := by decide +kernel
theorem dX0_walk_54 : decode cX0_walk 54 = .ok (.bipush 6, 2) := by decide +kernel
theorem dX0_walk_56 : decode cX0_walk 56 = .ok (.idiv, 1) := by decide +kernel
theorem dX0_walk_57 : decode cX0_walk 57 = .ok (.isub, 1) := by decide +kernel
theorem dX0_walk_58 : decode cX0_walk 58 = .ok (.istore 6, 2) := by decide +kernel
theorem dX0_walk_60 : decode cX0_walk 60 = .ok (.iload 6, 2) := by decide +kernel
theorem dX0_walk_62 : decode cX0_walk 62 = .ok (.ifCond .eq 23, 3) := by decide +kernel
theorem dX0_walk_65 : decode cX0_walk 65 = .ok (.iload 4, 2) := by decide +kernel
theorem dX0_walk_67 : decode cX0_walk 67 = .ok (.iload 6, 2) := by decide +kernel
theorem dX0_walk_69 : decode cX0_walk 69 = .ok (.ifCond .le 8, 3) := by decide +kernel
theorem dX0_walk_72 : decode cX0_walk 72 = .ok (.bipush 6, 2) := by decide +kernel
theorem dX0_walk_74 : decode cX0_walk 74 = .ok (.goto 5, 3) := by decide +kernel
theorem dX0_walk_77 : decode cX0_walk 77 = .ok (.bipush (-6), 2) := by decide +kernel
theorem dX0_walk_79 : decode cX0_walk 79 = .ok (.iadd, 1) := by decide +kernel
theorem dX0_walk_80 : decode cX0_walk 80 = .ok (.istore 4, 2) := by decide +kernel
theorem dX0_walk_82 : decode cX0_walk 82 = .ok (.goto 19, 3) := by decide +kernel
theorem dX0_walk_85 : decode cX0_walk 85 = .ok (.iload 4, 2) := by decide +kernel
theorem dX0_walk_87 : decode cX0_walk 87 = .ok (.iload_n 2, 1) := by decide +kernel
theorem dX0_walk_88 : decode cX0_walk 88 = .ok (.iload 4, 2) := by decide +kernel
theorem dX0_walk_90 : decode cX0_walk 90 = .ok (.if_icmp .le 7, 3) := by decide +kernel
theorem dX0_walk_93 : decode cX0_walk 93 = .ok (.iconst 1, 1) := by decide +kernel
theorem dX0_walk_94 : decode cX0_walk 94 = .ok (.goto 4, 3) := by decide +kernel
theorem dX0_walk_97 : decode cX0_walk 97 = .ok (.iconst (-1), 1) := by decide +kernel
theorem dX0_walk_98 : decode cX0_walk 98 = .ok (.iadd, 1) := by decide +kernel
theorem dX0_walk_99 : decode cX0_walk 99 = .ok (.istore 4, 2) := by decide +kernel
theorem dX0_walk_101 : decode cX0_walk 101 = .ok (.iinc 5 1, 3) := by decide +kernel
theorem dX0_walk_104 : decode cX0_walk 104 = .ok (.goto (-68), 3) := by decide +kernel
theorem dX0_walk_107 : decode cX0_walk 107 = .ok (.aload_n 0, 1) := by decide +kernel
theorem dX0_walk_108 : decode cX0_walk 108 = .ok (.getfield 12, 3) := by decide +kernel
theorem dX0_walk_111 : decode cX0_walk 111 = .ok (.getfield 61, 3) := by decide +kernel
theorem dX0_walk_114 : decode cX0_walk 114 = .ok (.iload_n 1, 1) := by decide +kernel
theorem dX0_walk_115 : decode cX0_walk 115 = .ok (.iload 4, 2) := by decide +kernel
theorem dX0_walk_117 : decode cX0_walk 117 = .ok (.iastore, 1) := by decide +kernel
theorem dX0_walk_118 : decode cX0_walk 118 = .ok (.return_, 1) := by decide +kernel
theorem dX0_grab_0 : decode cX0_grab 0 = .ok (.aload_n 0, 1) := by decide +kernel
theorem dX0_grab_1 : decode cX0_grab 1 = .ok (.getfield 12, 3) := by decide +kernel
theorem dX0_grab_4 : decode cX0_grab 4 = .ok (.getfield 64, 3) := by decide +kernel
theorem dX0_grab_7 : decode cX0_grab 7 = .ok (.iload_n 1, 1) := by decide +kernel
theorem dX0_grab_8 : decode cX0_grab 8 = .ok (.iaload, 1) := by decide +kernel
theorem dX0_grab_9 : decode cX0_grab 9 = .ok (.istore_n 2, 1) := by decide +kernel
theorem dX0_grab_10 : decode cX0_grab 10 = .ok (.aload_n 0, 1) := by decide +kernel
theorem dX0_grab_11 : decode cX0_grab 11 = .ok (.getfield 12, 3) := by decide +kernel
theorem dX0_grab_14 : decode cX0_grab 14 = .ok (.getfield 67, 3) := by decide +kernel
theorem dX0_grab_17 : decode cX0_grab 17 = .ok (.iload_n 1, 1) := by decide +kernel
theorem dX0_grab_18 : decode cX0_grab 18 = .ok (.iaload, 1) := by decide +kernel
theorem dX0_grab_19 : decode cX0_grab 19 = .ok (.istore_n 3, 1) := by decide +kernel
theorem dX0_grab_20 : decode cX0_grab 20 = .ok (.iload_n 2, 1) := by decide +kernel
theorem dX0_grab_21 : decode cX0_grab 21 = .ok (.iload_n 3, 1) := by decide +kernel
theorem dX0_grab_22 : decode cX0_grab 22 = .ok (.invokestatic 117, 3) := by decide +kernel
theorem dX0_grab_25 : decode cX0_grab 25 = .ok (.istore 4, 2) := by decide +kernel
theorem dX0_grab_27 : decode cX0_grab 27 = .ok (.iconst 0, 1) := by decide +kernel
theorem dX0_grab_28 : decode cX0_grab 28 = .ok (.istore 5, 2) := by decide +kernel
theorem dX0_grab_30 : decode cX0_grab 30 = .ok (.iload 5, 2) := by decide +kernel
theorem dX0_grab_32 : decode cX0_grab 32 = .ok (.aload_n 0, 1) := by decide +kernel
theorem dX0_grab_33 : decode cX0_grab 33 = .ok (.getfield 12, 3) := by decide +kernel
theorem dX0_grab_36 : decode cX0_grab 36 = .ok (.getfield 105, 3) := by decide +kernel
theorem dX0_grab_39 : decode cX0_grab 39 = .ok (.if_icmp .ge 92, 3) := by decide +kernel
theorem dX0_grab_42 : decode cX0_grab 42 = .ok (.iload 4, 2) := by decide +kernel
theorem dX0_grab_44 : decode cX0_grab 44 = .ok (.ifCond .le 87, 3) := by decide +kernel
theorem dX0_grab_47 : decode cX0_grab 47 = .ok (.aload_n 0, 1) := by decide +kernel
theorem dX0_grab_48 : decode cX0_grab 48 = .ok (.getfield 12, 3) := by decide +kernel
theorem dX0_grab_51 : decode cX0_grab 51 = .ok (.getfield 111, 3) := by decide +kernel
theorem dX0_grab_54 : decode cX0_grab 54 = .ok (.iload 5, 2) := by decide +kernel
theorem dX0_grab_56 : decode cX0_grab 56 = .ok (.iaload, 1) := by decide +kernel
theorem dX0_grab_57 : decode cX0_grab 57 = .ok (.istore 6, 2) := by decide +kernel
theorem dX0_grab_59 : decode cX0_grab 59 = .ok (.aload_n 0, 1) := by decide +kernel
theorem dX0_grab_60 : decode cX0_grab 60 = .ok (.getfield 12, 3) := by decide +kernel
theorem dX0_grab_63 : decode cX0_grab 63 = .ok (.getfield 108, 3) := by decide +kernel
theorem dX0_grab_66 : decode cX0_grab 66 = .ok (.iload 5, 2) := by decide +kernel
theorem dX0_grab_68 : decode cX0_grab 68 = .ok (.iaload, 1) := by decide +kernel
theorem dX0_grab_69 : decode cX0_grab 69 = .ok (.aload_n 0, 1) := by decide +kernel
theorem dX0_grab_70 : decode cX0_grab 70 = .ok (.getfield 12, 3) := by decide +kernel
theorem dX0_grab_73 : decode cX0_grab 73 = .ok (.getfield 61, 3) := by decide +kernel
theorem dX0_grab_76 : decode cX0_grab 76 = .ok (.iload_n 1, 1) := by decide +kernel
theorem dX0_grab_77 : decode cX0_grab 77 = .ok (.iaload, 1) := by decide +kernel
theorem dX0_grab_78 : decode cX0_grab 78 = .ok (.if_icmp .ne 47, 3) := by decide +kernel
theorem dX0_grab_81 : decode cX0_grab 81 = .ok (.iload 6, 2) := by decide +kernel
theorem dX0_grab_83 : decode cX0_grab 83 = .ok (.iload_n 1, 1) := by decide +kernel
theorem dX0_grab_84 : decode cX0_grab 84 = .ok (.if_icmp .eq 41, 3) := by decide +kernel
theorem dX0_grab_87 : decode cX0_grab 87 = .ok (.iload 6, 2) := by decide +kernel
theorem dX0_grab_89 : decode cX0_grab 89 = .ok (.iconst (-1), 1) := by decide +kernel
theorem dX0_grab_90 : decode cX0_grab 90 = .ok (.if_icmp .eq 21, 3) := by decide +kernel
theorem dX0_grab_93 : decode cX0_grab 93 = .ok (.iload_n 2, 1) := by decide +kernel
theorem dX0_grab_94 : decode cX0_grab 94 = .ok (.iload_n 3, 1) := by decide +kernel
theorem dX0_grab_95 : decode cX0_grab 95 = .ok (.aload_n 0, 1) := by decide +kernel
theorem dX0_grab_96 : decode cX0_grab 96 = .ok (.getfield 12, 3) := by decide +kernel
theorem dX0_grab_99 : decode cX0_grab 99 = .ok (.getfield 120, 3) := by decide +kernel
theorem dX0_grab_102 : decode cX0_grab 102 = .ok (.iload 5, 2) := by decide +kernel
theorem dX0_grab_104 : decode cX0_grab 104 = .ok (.iaload, 1) := by decide +kernel
theorem dX0_grab_105 : decode cX0_grab 105 = .ok (.invokestatic 123, 3) := by decide +kernel
theorem dX0_grab_108 : decode cX0_grab 108 = .ok (.ifCond .eq 17, 3) := by decide +kernel
theorem dX0_grab_111 : decode cX0_grab 111 = .ok (.aload_n 0, 1) := by decide +kernel
theorem dX0_grab_112 : decode cX0_grab 112 = .ok (.getfield 12, 3) := by decide +kernel
theorem dX0_grab_115 : decode cX0_grab 115 = .ok (.getfield 111, 3) := by decide +kernel
theorem dX0_grab_118 : decode cX0_grab 118 = .ok (.iload 5, 2) := by decide +kernel
theorem dX0_grab_120 : decode cX0_grab 120 = .ok (.iload_n 1, 1) := by decide +kernel
theorem dX0_grab_121 : decode cX0_grab 121 = .ok (.iastore, 1) := by decide +kernel
theorem dX0_grab_122 : decode cX0_grab 122 = .ok (.iinc 4 (-1), 3) := by decide +kernel
theorem dX0_grab_125 : decode cX0_grab 125 = .ok (.iinc 5 1, 3) := by decide +kernel
theorem dX0_grab_128 : decode cX0_grab 128 = .ok (.goto (-98), 3) := by decide +kernel
theorem dX0_grab_131 : decode cX0_grab 131 = .ok (.return_, 1) := by decide +kernel
theorem dX0_goal_0 : decode cX0_goal 0 = .ok (.aload_n 0, 1) := by decide +kernel
theorem dX0_goal_1 : decode cX0_goal 1 = .ok (.getfield 12, 3) := by decide +kernel
theorem dX0_goal_4 : decode cX0_goal 4 = .ok (.getfield 64, 3) := by decide +kernel
theorem dX0_goal_7 : decode cX0_goal 7 = .ok (.iload_n 1, 1) := by decide +kernel
theorem dX0_goal_8 : decode cX0_goal 8 = .ok (.iaload, 1) := by decide +kernel
theorem dX0_goal_9 : decode cX0_goal 9 = .ok (.istore_n 2, 1) := by decide +kernel
theorem dX0_goal_10 : decode cX0_goal 10 = .ok (.iload_n 2, 1) := by decide +kernel
theorem dX0_goal_11 : decode cX0_goal 11 = .ok (.iconst 5, 1) := by decide +kernel
theorem dX0_goal_12 : decode cX0_goal 12 = .ok (.if_icmp .eq 9, 3) := by decide +kernel
theorem dX0_goal_15 : decode cX0_goal 15 = .ok (.iload_n 2, 1) := by decide +kernel
theorem dX0_goal_16 : decode cX0_goal 16 = .ok (.bipush 6, 2) := by decide +kernel
theorem dX0_goal_18 : decode cX0_goal 18 = .ok (.if_icmp .ne 8, 3) := by decide +kernel
theorem dX0_goal_21 : decode cX0_goal 21 = .ok (.aload_n 0, 1) := by decide +kernel
theorem dX0_goal_22 : decode cX0_goal 22 = .ok (.invokevirtual 127, 3) := by decide +kernel
theorem dX0_goal_25 : decode cX0_goal 25 = .ok (.ireturn, 1) := by decide +kernel
theorem dX0_goal_26 : decode cX0_goal 26 = .ok (.iload_n 2, 1) := by decide +kernel
theorem dX0_goal_27 : decode cX0_goal 27 = .ok (.iconst 2, 1) := by decide +kernel
theorem dX0_goal_28 : decode cX0_goal 28 = .ok (.if_icmp .eq 21, 3) := by decide +kernel
theorem dX0_goal_31 : decode cX0_goal 31 = .ok (.iload_n 2, 1) := by decide +kernel
theorem dX0_goal_32 : decode cX0_goal 32 = .ok (.bipush 7, 2) := by decide +kernel
theorem dX0_goal_34 : decode cX0_goal 34 = .ok (.if_icmp .ne 19, 3) := by decide +kernel
theorem dX0_goal_37 : decode cX0_goal 37 = .ok (.aload_n 0, 1) := by decide +kernel
theorem dX0_goal_38 : decode cX0_goal 38 = .ok (.getfield 12, 3) := by decide +kernel
theorem dX0_goal_41 : decode cX0_goal 41 = .ok (.getfield 43, 3) := by decide +kernel
theorem dX0_goal_44 : decode cX0_goal 44 = .ok (.iconst 2, 1) := by decide +kernel
theorem dX0_goal_45 : decode cX0_goal 45 = .ok (.irem, 1) := by decide +kernel
theorem dX0_goal_46 : decode cX0_goal 46 = .ok (.ifCond .ne 7, 3) := by decide +kernel
theorem dX0_goal_49 : decode cX0_goal 49 = .ok (.iconst 1, 1) := by decide +kernel
theorem dX0_goal_50 : decode cX0_goal 50 = .ok (.goto 4, 3) := by decide +kernel
theorem dX0_goal_53 : decode cX0_goal 53 = .ok (.iconst 0, 1) := by decide +kernel
theorem dX0_goal_54 : decode cX0_goal 54 = .ok (.istore_n 3, 1) := by decide +kernel
theorem dX0_goal_55 : decode cX0_goal 55 = .ok (.iconst (-1), 1) := by decide +kernel
theorem dX0_goal_56 : decode cX0_goal 56 = .ok (.istore 4, 2) := by decide +kernel
theorem dX0_goal_58 : decode cX0_goal 58 = .ok (.iload_n 3, 1) := by decide +kernel
theorem dX0_goal_59 : decode cX0_goal 59 = .ok (.ifCond .eq 10, 3) := by decide +kernel
theorem dX0_goal_62 : decode cX0_goal 62 = .ok (.aload_n 0, 1) := by decide +kernel
theorem dX0_goal_63 : decode cX0_goal 63 = .ok (.iload_n 1, 1) := by decide +kernel
theorem dX0_goal_64 : decode cX0_goal 64 = .ok (.invokevirtual 131, 3) := by decide +kernel
theorem dX0_goal_67 : decode cX0_goal 67 = .ok (.istore 4, 2) := by decide +kernel
theorem dX0_goal_69 : decode cX0_goal 69 = .ok (.iload 4, 2) := by decide +kernel
theorem dX0_goal_71 : decode cX0_goal 71 = .ok (.iconst (-1), 1) := by decide +kernel
theorem dX0_goal_72 : decode cX0_goal 72 = .ok (.if_icmp .ne 19, 3) := by decide +kernel
theorem dX0_goal_75 : decode cX0_goal 75 = .ok (.iload_n 3, 1) := by decide +kernel
theorem dX0_goal_76 : decode cX0_goal 76 = .ok (.ifCond .ne 8, 3) := by decide +kernel
theorem dX0_goal_79 : decode cX0_goal 79 = .ok (.iload_n 2, 1) := by decide +kernel
theorem dX0_goal_80 : decode cX0_goal 80 = .ok (.iconst 1, 1) := by decide +kernel
theorem dX0_goal_81 : decode cX0_goal 81 = .ok (.if_icmp .ne 10, 3) := by decide +kernel
theorem dX0_goal_84 : decode cX0_goal 84 = .ok (.aload_n 0, 1) := by decide +kernel
theorem dX0_goal_85 : decode cX0_goal 85 = .ok (.iload_n 1, 1) := by decide +kernel
theorem dX0_goal_86 : decode cX0_goal 86 = .ok (.invokevirtual 134, 3) := by decide +kernel
theorem dX0_goal_89 : decode cX0_goal 89 = .ok (.istore 4, 2) := by decide +kernel
theorem dX0_goal_91 : decode cX0_goal 91 = .ok (.iload 4, 2) := by decide +kernel
theorem dX0_goal_93 : decode cX0_goal 93 = .ok (.iconst (-1), 1) := by decide +kernel
theorem dX0_goal_94 : decode cX0_goal 94 = .ok (.if_icmp .ne 15, 3) := by decide +kernel
theorem dX0_goal_97 : decode cX0_goal 97 = .ok (.aload_n 0, 1) := by decide +kernel
theorem dX0_goal_98 : decode cX0_goal 98 = .ok (.getfield 12, 3) := by decide +kernel
theorem dX0_goal_101 : decode cX0_goal 101 = .ok (.getfield 137, 3) := by decide +kernel
theorem dX0_goal_104 : decode cX0_goal 104 = .ok (.iload_n 1, 1) := by decide +kernel
theorem dX0_goal_105 : decode cX0_goal 105 = .ok (.iaload, 1) := by decide +kernel
theorem dX0_goal_106 : decode cX0_goal 106 = .ok (.goto 13, 3) := by decide +kernel
theorem dX0_goal_109 : decode cX0_goal 109 = .ok (.aload_n 0, 1) := by decide +kernel
theorem dX0_goal_110 : decode cX0_goal 110 = .ok (.getfield 12, 3) := by decide +kernel
theorem dX0_goal_113 : decode cX0_goal 113 = .ok (.getfield 108, 3) := by decide +kernel
theorem dX0_goal_116 : decode cX0_goal 116 = .ok (.iload 4, 2) := by decide +kernel
theorem dX0_goal_118 : decode cX0_goal 118 = .ok (.iaload, 1) := by decide +kernel
theorem dX0_goal_119 : decode cX0_goal 119 = .ok (.ireturn, 1) := by decide +kernel
theorem dX0_airiest_0 : decode cX0_airiest 0 = .ok (.iconst 0, 1) := by decide +kernel
theorem dX0_airiest_1 : decode cX0_airiest 1 = .ok (.istore_n 1, 1) := by decide +kernel
theorem dX0_airiest_2 : decode cX0_airiest 2 = .ok (.iconst 1, 1) := by decide +kernel
theorem dX0_airiest_3 : decode cX0_airiest 3 = .ok (.istore_n 2, 1) := by decide +kernel
theorem dX0_airiest_4 : decode cX0_airiest 4 = .ok (.iload_n 2, 1) := by decide +kernel
theorem dX0_airiest_5 : decode cX0_airiest 5 = .ok (.bipush 24, 2) := by decide +kernel
theorem dX0_airiest_7 : decode cX0_airiest 7 = .ok (.if_icmp .ge 24, 3) := by decide +kernel
theorem dX0_airiest_10 : decode cX0_airiest 10 = .ok (.aload_n 0, 1) := by decide +kernel
theorem dX0_airiest_11 : decode cX0_airiest 11 = .ok (.iload_n 2, 1) := by decide +kernel
theorem dX0_airiest_12 : decode cX0_airiest 12 = .ok (.invokevirtual 54, 3) := by decide +kernel
theorem dX0_airiest_15 : decode cX0_airiest 15 = .ok (.aload_n 0, 1) := by decide +kernel
theorem dX0_airiest_16 : decode cX0_airiest 16 = .ok (.iload_n 1, 1) := by decide +kernel
theorem dX0_airiest_17 : decode cX0_airiest 17 = .ok (.invokevirtual 54, 3) := by decide +kernel
theorem dX0_airiest_20 : decode cX0_airiest 20 = .ok (.if_icmp .le 5, 3) := by decide +kernel
theorem dX0_airiest_23 : decode cX0_airiest 23 = .ok (.iload_n 2, 1) := by decide +kernel
theorem dX0_airiest_24 : decode cX0_airiest 24 = .ok (.istore_n 1, 1) := by decide +kernel
theorem dX0_airiest_25 : decode cX0_airiest 25 = .ok (.iinc 2 1, 3) := by decide +kernel
theorem dX0_airiest_28 : decode cX0_airiest 28 = .ok (.goto (-24), 3) := by decide +kernel
theorem dX0_airiest_31 : decode cX0_airiest 31 = .ok (.iload_n 1, 1) := by decide +kernel
theorem dX0_airiest_32 : decode cX0_airiest 32 = .ok (.ireturn, 1) := by decide +kernel
theorem dX0_worthiest_0 : decode cX0_worthiest 0 = .ok (.iconst (-1), 1) := by decide +kernel
theorem dX0_worthiest_1 : decode cX0_worthiest 1 = .ok (.istore_n 2, 1) := by decide +kernel
theorem dX0_worthiest_2 : decode cX0_worthiest 2 = .ok (.iconst 0, 1) := by decide +kernel
theorem dX0_worthiest_3 : decode cX0_worthiest 3 = .ok (.istore_n 3, 1) := by decide +kernel
theorem dX0_worthiest_4 : decode cX0_worthiest 4 = .ok (.iload_n 3, 1) := by decide +kernel
theorem dX0_worthiest_5 : decode cX0_worthiest 5 = .ok (.aload_n 0, 1) := by decide +kernel
theorem dX0_worthiest_6 : decode cX0_worthiest 6 = .ok (.getfield 12, 3) := by decide +kernel
theorem dX0_worthiest_9 : decode cX0_worthiest 9 = .ok (.getfield 105, 3) := by decide +kernel
theorem dX0_worthiest_12 : decode cX0_worthiest 12 = .ok (.if_icmp .ge 62, 3) := by decide +kernel
theorem dX0_worthiest_15 : decode cX0_worthiest 15 = .ok (.aload_n 0, 1) := by decide +kernel
theorem dX0_worthiest_16 : decode cX0_worthiest 16 = .ok (.getfield 12, 3) := by decide +kernel
theorem dX0_worthiest_19 : decode cX0_worthiest 19 = .ok (.getfield 111, 3) := by decide +kernel
theorem dX0_worthiest_22 : decode cX0_worthiest 22 = .ok (.iload_n 3, 1) := by decide +kernel
theorem dX0_worthiest_23 : decode cX0_worthiest 23 = .ok (.iaload, 1) := by decide +kernel
theorem dX0_worthiest_24 : decode cX0_worthiest 24 = .ok (.iload_n 1, 1) := by decide +kernel
theorem dX0_worthiest_25 : decode cX0_worthiest 25 = .ok (.if_icmp .ne 7, 3) := by decide +kernel
theorem dX0_worthiest_28 : decode cX0_worthiest 28 = .ok (.iconst 1, 1) := by decide +kernel
theorem dX0_worthiest_29 : decode cX0_worthiest 29 = .ok (.goto 4, 3) := by decide +kernel
theorem dX0_worthiest_32 : decode cX0_worthiest 32 = .ok (.iconst 0, 1) := by decide +kernel
theorem dX0_worthiest_33 : decode cX0_worthiest 33 = .ok (.istore 4, 2) := by decide +kernel
theorem dX0_worthiest_35 : decode cX0_worthiest 35 = .ok (.iload 4, 2) := by decide +kernel
theorem dX0_worthiest_37 : decode cX0_worthiest 37 = .ok (.ifCond .ne 31, 3) := by decide +kernel
theorem dX0_worthiest_40 : decode cX0_worthiest 40 = .ok (.iload_n 2, 1) := by decide +kernel
theorem dX0_worthiest_41 : decode cX0_worthiest 41 = .ok (.iconst (-1), 1) := by decide +kernel
theorem dX0_worthiest_42 : decode cX0_worthiest 42 = .ok (.if_icmp .eq 24, 3) := by decide +kernel
theorem dX0_worthiest_45 : decode cX0_worthiest 45 = .ok (.aload_n 0, 1) := by decide +kernel
theorem dX0_worthiest_46 : decode cX0_worthiest 46 = .ok (.getfield 12, 3) := by decide +kernel
theorem dX0_worthiest_49 : decode cX0_worthiest 49 = .ok (.getfield 120, 3) := by decide +kernel
theorem dX0_worthiest_52 : decode cX0_worthiest 52 = .ok (.iload_n 3, 1) := by decide +kernel
theorem dX0_worthiest_53 : decode cX0_worthiest 53 = .ok (.iaload, 1) := by decide +kernel
theorem dX0_worthiest_54 : decode cX0_worthiest 54 = .ok (.aload_n 0, 1) := by decide +kernel
theorem dX0_worthiest_55 : decode cX0_worthiest 55 = .ok (.getfield 12, 3) := by decide +kernel
theorem dX0_worthiest_58 : decode cX0_worthiest 58 = .ok (.getfield 120, 3) := by decide +kernel
theorem dX0_worthiest_61 : decode cX0_worthiest 61 = .ok (.iload_n 2, 1) := by decide +kernel
theorem dX0_worthiest_62 : decode cX0_worthiest 62 = .ok (.iaload, 1) := by decide +kernel
theorem dX0_worthiest_63 : decode cX0_worthiest 63 = .ok (.if_icmp .le 5, 3) := by decide +kernel
theorem dX0_worthiest_66 : decode cX0_worthiest 66 = .ok (.iload_n 3, 1) := by decide +kernel
theorem dX0_worthiest_67 : decode cX0_worthiest 67 = .ok (.istore_n 2, 1) := by decide +kernel
theorem dX0_worthiest_68 : decode cX0_worthiest 68 = .ok (.iinc 3 1, 3) := by decide +kernel
theorem dX0_worthiest_71 : decode cX0_worthiest 71 = .ok (.goto (-67), 3) := by decide +kernel
theorem dX0_worthiest_74 : decode cX0_worthiest 74 = .ok (.iload_n 2, 1) := by decide +kernel
theorem dX0_worthiest_75 : decode cX0_worthiest 75 = .ok (.ireturn, 1) := by decide +kernel
theorem dX0_nearest_0 : decode cX0_nearest 0 = .ok (.iconst (-1), 1) := by decide +kernel
theorem dX0_nearest_1 : decode cX0_nearest 1 = .ok (.istore_n 2, 1) := by decide +kernel
theorem dX0_nearest_2 : decode cX0_nearest 2 = .ok (.iconst 0, 1) := by decide +kernel
theorem dX0_nearest_3 : decode cX0_nearest 3 = .ok (.istore_n 3, 1) := by decide +kernel
theorem dX0_nearest_4 : decode cX0_nearest 4 = .ok (.iconst 0, 1) := by decide +kernel
theorem dX0_nearest_5 : decode cX0_nearest 5 = .ok (.istore 4, 2) := by decide +kernel
theorem dX0_nearest_7 : decode cX0_nearest 7 = .ok (.iload 4, 2) := by decide +kernel
theorem dX0_nearest_9 : decode cX0_nearest 9 = .ok (.aload_n 0, 1) := by decide +kernel
theorem dX0_nearest_10 : decode cX0_nearest 10 = .ok (.getfield 12, 3) := by decide +kernel
theorem dX0_nearest_13 : decode cX0_nearest 13 = .ok (.getfield 105, 3) := by decide +kernel
theorem dX0_nearest_16 : decode cX0_nearest 16 = .ok (.if_icmp .ge 64, 3) := by decide +kernel
theorem dX0_nearest_19 : decode cX0_nearest 19 = .ok (.aload_n 0, 1) := by decide +kernel
theorem dX0_nearest_20 : decode cX0_nearest 20 = .ok (.getfield 12, 3) := by decide +kernel
theorem dX0_nearest_23 : decode cX0_nearest 23 = .ok (.getfield 111, 3) := by decide +kernel
theorem dX0_nearest_26 : decode cX0_nearest 26 = .ok (.iload 4, 2) := by decide +kernel
theorem dX0_nearest_28 : decode cX0_nearest 28 = .ok (.iaload, 1) := by decide +kernel
theorem dX0_nearest_29 : decode cX0_nearest 29 = .ok (.iconst (-1), 1) := by decide +kernel
theorem dX0_nearest_30 : decode cX0_nearest 30 = .ok (.if_icmp .ne 44, 3) := by decide +kernel
theorem dX0_nearest_33 : decode cX0_nearest 33 = .ok (.aload_n 0, 1) := by decide +kernel
theorem dX0_nearest_34 : decode cX0_nearest 34 = .ok (.getfield 12, 3) := by decide +kernel
theorem dX0_nearest_37 : decode cX0_nearest 37 = .ok (.getfield 61, 3) := by decide +kernel
theorem dX0_nearest_40 : decode cX0_nearest 40 = .ok (.iload_n 1, 1) := by decide +kernel
theorem dX0_nearest_41 : decode cX0_nearest 41 = .ok (.iaload, 1) := by decide +kernel
theorem dX0_nearest_42 : decode cX0_nearest 42 = .ok (.aload_n 0, 1) := by decide +kernel
theorem dX0_nearest_43 : decode cX0_nearest 43 = .ok (.getfield 12, 3) := by decide +kernel
theorem dX0_nearest_46 : decode cX0_nearest 46 = .ok (.getfield 108, 3) := by decide +kernel
theorem dX0_nearest_49 : decode cX0_nearest 49 = .ok (.iload 4, 2) := by decide +kernel
theorem dX0_nearest_51 : decode cX0_nearest 51 = .ok (.iaload, 1) := by decide +kernel
theorem dX0_nearest_52 : decode cX0_nearest 52 = .ok (.invokestatic 140, 3) := by decide +kernel
theorem dX0_nearest_55 : decode cX0_nearest 55 = .ok (.istore 5, 2) := by decide +kernel
theorem dX0_nearest_57 : decode cX0_nearest 57 = .ok (.iload_n 2, 1) := by decide +kernel
theorem dX0_nearest_58 : decode cX0_nearest 58 = .ok (.iconst (-1), 1) := by decide +kernel
theorem dX0_nearest_59 : decode cX0_nearest 59 = .ok (.if_icmp .eq 9, 3) := by decide +kernel
theorem dX0_nearest_62 : decode cX0_nearest 62 = .ok (.iload 5, 2) := by decide +kernel
theorem dX0_nearest_64 : decode cX0_nearest 64 = .ok (.iload_n 3, 1) := by decide +kernel
theorem dX0_nearest_65 : decode cX0_nearest 65 = .ok (.if_icmp .ge 9, 3) := by decide +kernel
theorem dX0_nearest_68 : decode cX0_nearest 68 = .ok (.iload 4, 2) := by decide +kernel
theorem dX0_nearest_70 : decode cX0_nearest 70 = .ok (.istore_n 2, 1) := by decide +kernel
theorem dX0_nearest_71 : decode cX0_nearest 71 = .ok (.iload 5, 2) := by decide +kernel
theorem dX0_nearest_73 : decode cX0_nearest 73 = .ok (.istore_n 3, 1) := by decide +kernel
theorem dX0_nearest_74 : decode cX0_nearest 74 = .ok (.iinc 4 1, 3) := by decide +kernel
theorem dX0_nearest_77 : decode cX0_nearest 77 = .ok (.goto (-70), 3) := by decide +kernel
theorem dX0_nearest_80 : decode cX0_nearest 80 = .ok (.iload_n 2, 1) := by decide +kernel
theorem dX0_nearest_81 : decode cX0_nearest 81 = .ok (.ireturn, 1) := by decide +kernel
theorem dX0_distance_0 : decode cX0_distance 0 = .ok (.iload_n 0, 1) := by decide +kernel
theorem dX0_distance_1 : decode cX0_distance 1 = .ok (.bipush 6, 2) := by decide +kernel
theorem dX0_distance_3 : decode cX0_distance 3 = .ok (.idiv, 1) := by decide +kernel
theorem dX0_distance_4 : decode cX0_distance 4 = .ok (.iload_n 1, 1) := by decide +kernel
theorem dX0_distance_5 : decode cX0_distance 5 = .ok (.bipush 6, 2) := by decide +kernel
theorem dX0_distance_7 : decode cX0_distance 7 = .ok (.idiv, 1) := by decide +kernel
theorem dX0_distance_8 : decode cX0_distance 8 = .ok (.isub, 1) := by decide +kernel
theorem dX0_distance_9 : decode cX0_distance 9 = .ok (.invokestatic 143, 3) := by decide +kernel
theorem dX0_distance_12 : decode cX0_distance 12 = .ok (.iload_n 0, 1) := by decide +kernel
theorem dX0_distance_13 : decode cX0_distance 13 = .ok (.bipush 6, 2) := by decide +kernel
theorem dX0_distance_15 : decode cX0_distance 15 = .ok (.irem, 1) := by decide +kernel
theorem dX0_distance_16 : decode cX0_distance 16 = .ok (.iload_n 1, 1) := by decide +kernel
theorem dX0_distance_17 : decode cX0_distance 17 = .ok (.bipush 6, 2) := by decide +kernel
theorem dX0_distance_19 : decode cX0_distance 19 = .ok (.irem, 1) := by decide +kernel
theorem dX0_distance_20 : decode cX0_distance 20 = .ok (.isub, 1) := by decide +kernel
theorem dX0_distance_21 : decode cX0_distance 21 = .ok (.invokestatic 143, 3) := by decide +kernel
theorem dX0_distance_24 : decode cX0_distance 24 = .ok (.iadd, 1) := by decide +kernel
theorem dX0_distance_25 : decode cX0_distance 25 = .ok (.ireturn, 1) := by decide +kernel
theorem dX1_pace_0 : decode cX1_pace 0 = .ok (.iload_n 0, 1) := by decide +kernel
theorem dX1_pace_1 : decode cX1_pace 1 = .ok (.tableswitch 59 1 7 #[43, 43, 45, 43, 47, 53, 57], 43) := by decide +kernel
theorem dX1_pace_44 : decode cX1_pace 44 = .ok (.iconst 2, 1) := by decide +kernel
theorem dX1_pace_45 : decode cX1_pace 45 = .ok (.ireturn, 1) := by decide +kernel
theorem dX1_pace_46 : decode cX1_pace 46 = .ok (.iconst 0, 1) := by decide +kernel
theorem dX1_pace_47 : decode cX1_pace 47 = .ok (.ireturn, 1) := by decide +kernel
theorem dX1_pace_48 : decode cX1_pace 48 = .ok (.iload_n 1, 1) := by decide +kernel
theorem dX1_pace_49 : decode cX1_pace 49 = .ok (.iconst 3, 1) := by decide +kernel
theorem dX1_pace_50 : decode cX1_pace 50 = .ok (.idiv, 1) := by decide +kernel
theorem dX1_pace_51 : decode cX1_pace 51 = .ok (.iconst 1, 1) := by decide +kernel
theorem dX1_pace_52 : decode cX1_pace 52 = .ok (.iadd, 1) := by decide +kernel
theorem dX1_pace_53 : decode cX1_pace 53 = .ok (.ireturn, 1) := by decide +kernel
theorem dX1_pace_54 : decode cX1_pace 54 = .ok (.iload_n 1, 1) := by decide +kernel
theorem dX1_pace_55 : decode cX1_pace 55 = .ok (.iconst 3, 1) := by decide +kernel
theorem dX1_pace_56 : decode cX1_pace 56 = .ok (.idiv, 1) := by decide +kernel
theorem dX1_pace_57 : decode cX1_pace 57 = .ok (.ireturn, 1) := by decide +kernel
theorem dX1_pace_58 : decode cX1_pace 58 = .ok (.iconst 3, 1) := by decide +kernel
theorem dX1_pace_59 : decode cX1_pace 59 = .ok (.ireturn, 1) := by decide +kernel
theorem dX1_pace_60 : decode cX1_pace 60 = .ok (.iconst 1, 1) := by decide +kernel
theorem dX1_pace_61 : decode cX1_pace 61 = .ok (.ireturn, 1) := by decide +kernel
theorem dX1_grabs_0 : decode cX1_grabs 0 = .ok (.iload_n 0, 1) := by decide +kernel
theorem dX1_grabs_1 : decode cX1_grabs 1 = .ok (.tableswitch 61 1 7 #[43, 49, 61, 55, 57, 59, 49], 43) := by decide +kernel
theorem dX1_grabs_44 : decode cX1_grabs 44 = .ok (.iload_n 1, 1) := by decide +kernel
theorem dX1_grabs_45 : decode cX1_grabs 45 = .ok (.iconst 2, 1) := by decide +kernel
theorem dX1_grabs_46 : decode cX1_grabs 46 = .ok (.idiv, 1) := by decide +kernel
theorem dX1_grabs_47 : decode cX1_grabs 47 = .ok (.iconst 1, 1) := by decide +kernel
theorem dX1_grabs_48 : decode cX1_grabs 48 = .ok (.iadd, 1) := by decide +kernel
theorem dX1_grabs_49 : decode cX1_grabs 49 = .ok (.ireturn, 1) := by decide +kernel
theorem dX1_grabs_50 : decode cX1_grabs 50 = .ok (.iload_n 1, 1) := by decide +kernel
theorem dX1_grabs_51 : decode cX1_grabs 51 = .ok (.iconst 2, 1) := by decide +kernel
theorem dX1_grabs_52 : decode cX1_grabs 52 = .ok (.idiv, 1) := by decide +kernel
theorem dX1_grabs_53 : decode cX1_grabs 53 = .ok (.iconst 2, 1) := by decide +kernel
theorem dX1_grabs_54 : decode cX1_grabs 54 = .ok (.iadd, 1) := by decide +kernel
theorem dX1_grabs_55 : decode cX1_grabs 55 = .ok (.ireturn, 1) := by decide +kernel
theorem dX1_grabs_56 : decode cX1_grabs 56 = .ok (.iconst 3, 1) := by decide +kernel
theorem dX1_grabs_57 : decode cX1_grabs 57 = .ok (.ireturn, 1) := by decide +kernel
theorem dX1_grabs_58 : decode cX1_grabs 58 = .ok (.iload_n 1, 1) := by decide +kernel
theorem dX1_grabs_59 : decode cX1_grabs 59 = .ok (.ireturn, 1) := by decide +kernel
theorem dX1_grabs_60 : decode cX1_grabs 60 = .ok (.iconst 0, 1) := by decide +kernel
theorem dX1_grabs_61 : decode cX1_grabs 61 = .ok (.ireturn, 1) := by decide +kernel
theorem dX1_grabs_62 : decode cX1_grabs 62 = .ok (.iconst 1, 1) := by decide +kernel
theorem dX1_grabs_63 : decode cX1_grabs 63 = .ok (.ireturn, 1) := by decide +kernel
theorem dX1_steam_0 : decode cX1_steam 0 = .ok (.iload_n 0, 1) := by decide +kernel
theorem dX1_steam_1 : decode cX1_steam 1 = .ok (.tableswitch 41 3 6 #[31, 33, 41, 39], 31) := by decide +kernel
theorem dX1_steam_32 : decode cX1_steam 32 = .ok (.iconst 5, 1) := by decide +kernel
theorem dX1_steam_33 : decode cX1_steam 33 = .ok (.ireturn, 1) := by decide +kernel
theorem dX1_steam_34 : decode cX1_steam 34 = .ok (.iload_n 1, 1) := by decide +kernel
theorem dX1_steam_35 : decode cX1_steam 35 = .ok (.iconst 2, 1) := by decide +kernel
theorem dX1_steam_36 : decode cX1_steam 36 = .ok (.idiv, 1) := by decide +kernel
theorem dX1_steam_37 : decode cX1_steam 37 = .ok (.iconst 5, 1) := by decide +kernel
theorem dX1_steam_38 : decode cX1_steam 38 = .ok (.iadd, 1) := by decide +kernel
theorem dX1_steam_39 : decode cX1_steam 39 = .ok (.ireturn, 1) := by decide +kernel
theorem dX1_steam_40 : decode cX1_steam 40 = .ok (.iconst 3, 1) := by decide +kernel
theorem dX1_steam_41 : decode cX1_steam 41 = .ok (.ireturn, 1) := by decide +kernel
theorem dX1_steam_42 : decode cX1_steam 42 = .ok (.iconst 0, 1) := by decide +kernel
theorem dX1_steam_43 : decode cX1_steam 43 = .ok (.ireturn, 1) := by decide +kernel
theorem dX1_mayTakeAnothers_0 : decode cX1_mayTakeAnothers 0 = .ok (.iload_n 0, 1) := by decide +kernel
theorem dX1_mayTakeAnothers_1 : decode cX1_mayTakeAnothers 1 = .ok (.lookupswitch 49 #[(2, 27), (7, 38)], 27) := by decide +kernel
theorem dX1_mayTakeAnothers_28 : decode cX1_mayTakeAnothers 28 = .ok (.iload_n 2, 1) := by decide +kernel
theorem dX1_mayTakeAnothers_29 : decode cX1_mayTakeAnothers 29 = .ok (.iload_n 1, 1) := by decide +kernel
theorem dX1_mayTakeAnothers_30 : decode cX1_mayTakeAnothers 30 = .ok (.if_icmp .ge 7, 3) := by decide +kernel
theorem dX1_mayTakeAnothers_33 : decode cX1_mayTakeAnothers 33 = .ok (.iconst 1, 1) := by decide +kernel
theorem dX1_mayTakeAnothers_34 : decode cX1_mayTakeAnothers 34 = .ok (.goto 4, 3) := by decide +kernel
theorem dX1_mayTakeAnothers_37 : decode cX1_mayTakeAnothers 37 = .ok (.iconst 0, 1) := by decide +kernel
theorem dX1_mayTakeAnothers_38 : decode cX1_mayTakeAnothers 38 = .ok (.ireturn, 1) := by decide +kernel
theorem dX1_mayTakeAnothers_39 : decode cX1_mayTakeAnothers 39 = .ok (.iload_n 2, 1) := by decide +kernel
theorem dX1_mayTakeAnothers_40 : decode cX1_mayTakeAnothers 40 = .ok (.iload_n 1, 1) := by decide +kernel
theorem dX1_mayTakeAnothers_41 : decode cX1_mayTakeAnothers 41 = .ok (.if_icmp .gt 7, 3) := by decide +kernel
theorem dX1_mayTakeAnothers_44 : decode cX1_mayTakeAnothers 44 = .ok (.iconst 1, 1) := by decide +kernel
theorem dX1_mayTakeAnothers_45 : decode cX1_mayTakeAnothers 45 = .ok (.goto 4, 3) := by decide +kernel
theorem dX1_mayTakeAnothers_48 : decode cX1_mayTakeAnothers 48 = .ok (.iconst 0, 1) := by decide +kernel
theorem dX1_mayTakeAnothers_49 : decode cX1_mayTakeAnothers 49 = .ok (.ireturn, 1) := by decide +kernel
theorem dX1_mayTakeAnothers_50 : decode cX1_mayTakeAnothers 50 = .ok (.iconst 0, 1) := by decide +kernel
theorem dX1_mayTakeAnothers_51 : decode cX1_mayTakeAnothers 51 = .ok (.ireturn, 1) := by decide +kernel
theorem dX2_spread_0 : decode cX2_spread 0 = .ok (.iload_n 0, 1) := by decide +kernel
theorem dX2_spread_1 : decode cX2_spread 1 = .ok (.ldc 11, 2) := by decide +kernel
theorem dX2_spread_3 : decode cX2_spread 3 = .ok (.iand, 1) := by decide +kernel
theorem dX2_spread_4 : decode cX2_spread 4 = .ok (.iconst 1, 1) := by decide +kernel
theorem dX2_spread_5 : decode cX2_spread 5 = .ok (.ishl, 1) := by decide +kernel
theorem dX2_spread_6 : decode cX2_spread 6 = .ok (.istore_n 2, 1) := by decide +kernel
theorem dX2_spread_7 : decode cX2_spread 7 = .ok (.iload_n 0, 1) := by decide +kernel
theorem dX2_spread_8 : decode cX2_spread 8 = .ok (.ldc 12, 2) := by decide +kernel
theorem dX2_spread_10 : decode cX2_spread 10 = .ok (.iand, 1) := by decide +kernel
theorem dX2_spread_11 : decode cX2_spread 11 = .ok (.iconst 1, 1) := by decide +kernel
theorem dX2_spread_12 : decode cX2_spread 12 = .ok (.ishr, 1) := by decide +kernel
theorem dX2_spread_13 : decode cX2_spread 13 = .ok (.istore_n 3, 1) := by decide +kernel
theorem dX2_spread_14 : decode cX2_spread 14 = .ok (.iload_n 0, 1) := by decide +kernel
theorem dX2_spread_15 : decode cX2_spread 15 = .ok (.iload_n 0, 1) := by decide +kernel
theorem dX2_spread_16 : decode cX2_spread 16 = .ok (.bipush 6, 2) := by decide +kernel
theorem dX2_spread_18 : decode cX2_spread 18 = .ok (.ishl, 1) := by decide +kernel
theorem dX2_spread_19 : decode cX2_spread 19 = .ok (.ior, 1) := by decide +kernel
theorem dX2_spread_20 : decode cX2_spread 20 = .ok (.iload_n 0, 1) := by decide +kernel
theorem dX2_spread_21 : decode cX2_spread 21 = .ok (.bipush 6, 2) := by decide +kernel
theorem dX2_spread_23 : decode cX2_spread 23 = .ok (.ishr, 1) := by decide +kernel
theorem dX2_spread_24 : decode cX2_spread 24 = .ok (.ior, 1) := by decide +kernel
theorem dX2_spread_25 : decode cX2_spread 25 = .ok (.iload_n 2, 1) := by decide +kernel
theorem dX2_spread_26 : decode cX2_spread 26 = .ok (.ior, 1) := by decide +kernel
theorem dX2_spread_27 : decode cX2_spread 27 = .ok (.iload_n 3, 1) := by decide +kernel
theorem dX2_spread_28 : decode cX2_spread 28 = .ok (.ior, 1) := by decide +kernel
theorem dX2_spread_29 : decode cX2_spread 29 = .ok (.iload_n 1, 1) := by decide +kernel
theorem dX2_spread_30 : decode cX2_spread 30 = .ok (.iand, 1) := by decide +kernel
theorem dX2_spread_31 : decode cX2_spread 31 = .ok (.ireturn, 1) := by decide +kernel
theorem dX2_pieceWith_0 : decode cX2_pieceWith 0 = .ok (.iload_n 1, 1) := by decide +kernel
theorem dX2_pieceWith_1 : decode cX2_pieceWith 1 = .ok (.iconst 1, 1) := by decide +kernel
theorem dX2_pieceWith_2 : decode cX2_pieceWith 2 = .ok (.iload_n 0, 1) := by decide +kernel
theorem dX2_pieceWith_3 : decode cX2_pieceWith 3 = .ok (.ishl, 1) := by decide +kernel
theorem dX2_pieceWith_4 : decode cX2_pieceWith 4 = .ok (.iand, 1) := by decide +kernel
theorem dX2_pieceWith_5 : decode cX2_pieceWith 5 = .ok (.istore_n 2, 1) := by decide +kernel
theorem dX2_pieceWith_6 : decode cX2_pieceWith 6 = .ok (.iconst 0, 1) := by decide +kernel
theorem dX2_pieceWith_7 : decode cX2_pieceWith 7 = .ok (.istore_n 3, 1) := by decide +kernel
theorem dX2_pieceWith_8 : decode cX2_pieceWith 8 = .ok (.iload_n 3, 1) := by decide +kernel
theorem dX2_pieceWith_9 : decode cX2_pieceWith 9 = .ok (.bipush 24, 2) := by decide +kernel
theorem dX2_pieceWith_11 : decode cX2_pieceWith 11 = .ok (.if_icmp .ge 15, 3) := by decide +kernel
theorem dX2_pieceWith_14 : decode cX2_pieceWith 14 = .ok (.iload_n 2, 1) := by decide +kernel
theorem dX2_pieceWith_15 : decode cX2_pieceWith 15 = .ok (.iload_n 1, 1) := by decide +kernel
theorem dX2_pieceWith_16 : decode cX2_pieceWith 16 = .ok (.invokestatic 13, 3) := by decide +kernel
theorem dX2_pieceWith_19 : decode cX2_pieceWith 19 = .ok (.istore_n 2, 1) := by decide +kernel
theorem dX2_pieceWith_20 : decode cX2_pieceWith 20 = .ok (.iinc 3 1, 3) := by decide +kernel
theorem dX2_pieceWith_23 : decode cX2_pieceWith 23 = .ok (.goto (-15), 3) := by decide +kernel
theorem dX2_pieceWith_26 : decode cX2_pieceWith 26 = .ok (.iload_n 2, 1) := by decide +kernel
theorem dX2_pieceWith_27 : decode cX2_pieceWith 27 = .ok (.ireturn, 1) := by decide +kernel
theorem dX2_howMany_0 : decode cX2_howMany 0 = .ok (.iconst 0, 1) := by decide +kernel
theorem dX2_howMany_1 : decode cX2_howMany 1 = .ok (.istore_n 1, 1) := by decide +kernel
theorem dX2_howMany_2 : decode cX2_howMany 2 = .ok (.iload_n 0, 1) := by decide +kernel
theorem dX2_howMany_3 : decode cX2_howMany 3 = .ok (.istore_n 2, 1) := by decide +kernel
theorem dX2_howMany_4 : decode cX2_howMany 4 = .ok (.iconst 0, 1) := by decide +kernel
theorem dX2_howMany_5 : decode cX2_howMany 5 = .ok (.istore_n 3, 1) := by decide +kernel
theorem dX2_howMany_6 : decode cX2_howMany 6 = .ok (.iload_n 3, 1) := by decide +kernel
theorem dX2_howMany_7 : decode cX2_howMany 7 = .ok (.bipush 24, 2) := by decide +kernel
theorem dX2_howMany_9 : decode cX2_howMany 9 = .ok (.if_icmp .ge 30, 3) := by decide +kernel
theorem dX2_howMany_12 : decode cX2_howMany 12 = .ok (.iload_n 2, 1) := by decide +kernel
theorem dX2_howMany_13 : decode cX2_howMany 13 = .ok (.iconst 1, 1) := by decide +kernel
theorem dX2_howMany_14 : decode cX2_howMany 14 = .ok (.iload_n 3, 1) := by decide +kernel
theorem dX2_howMany_15 : decode cX2_howMany 15 = .ok (.ishl, 1) := by decide +kernel
theorem dX2_howMany_16 : decode cX2_howMany 16 = .ok (.iand, 1) := by decide +kernel
theorem dX2_howMany_17 : decode cX2_howMany 17 = .ok (.ifCond .eq 16, 3) := by decide +kernel
theorem dX2_howMany_20 : decode cX2_howMany 20 = .ok (.iload_n 2, 1) := by decide +kernel
theorem dX2_howMany_21 : decode cX2_howMany 21 = .ok (.iload_n 3, 1) := by decide +kernel
theorem dX2_howMany_22 : decode cX2_howMany 22 = .ok (.iload_n 0, 1) := by decide +kernel
theorem dX2_howMany_23 : decode cX2_howMany 23 = .ok (.invokestatic 17, 3) := by decide +kernel
theorem dX2_howMany_26 : decode cX2_howMany 26 = .ok (.iconst (-1), 1) := by decide +kernel
theorem dX2_howMany_27 : decode cX2_howMany 27 = .ok (.ixor, 1) := by decide +kernel
theorem dX2_howMany_28 : decode cX2_howMany 28 = .ok (.iand, 1) := by decide +kernel
theorem dX2_howMany_29 : decode cX2_howMany 29 = .ok (.istore_n 2, 1) := by decide +kernel
theorem dX2_howMany_30 : decode cX2_howMany 30 = .ok (.iinc 1 1, 3) := by decide +kernel
theorem dX2_howMany_33 : decode cX2_howMany 33 = .ok (.iinc 3 1, 3) := by decide +kernel
theorem dX2_howMany_36 : decode cX2_howMany 36 = .ok (.goto (-30), 3) := by decide +kernel
theorem dX2_howMany_39 : decode cX2_howMany 39 = .ok (.iload_n 1, 1) := by decide +kernel
theorem dX2_howMany_40 : decode cX2_howMany 40 = .ok (.ireturn, 1) := by decide +kernel
theorem dX2_greatest_0 : decode cX2_greatest 0 = .ok (.iconst 0, 1) := by decide +kernel
theorem dX2_greatest_1 : decode cX2_greatest 1 = .ok (.istore_n 1, 1) := by decide +kernel
theorem dX2_greatest_2 : decode cX2_greatest 2 = .ok (.iconst 0, 1) := by decide +kernel
theorem dX2_greatest_3 : decode cX2_greatest 3 = .ok (.istore_n 2, 1) := by decide +kernel
theorem dX2_greatest_4 : decode cX2_greatest 4 = .ok (.iload_n 2, 1) := by decide +kernel
theorem dX2_greatest_5 : decode cX2_greatest 5 = .ok (.bipush 24, 2) := by decide +kernel
theorem dX2_greatest_7 : decode cX2_greatest 7 = .ok (.if_icmp .ge 22, 3) := by decide +kernel
theorem dX2_greatest_10 : decode cX2_greatest 10 = .ok (.iload_n 1, 1) := by decide +kernel
theorem dX2_greatest_11 : decode cX2_greatest 11 = .ok (.iload_n 2, 1) := by decide +kernel
theorem dX2_greatest_12 : decode cX2_greatest 12 = .ok (.iload_n 0, 1) := by decide +kernel
theorem dX2_greatest_13 : decode cX2_greatest 13 = .ok (.invokestatic 17, 3) := by decide +kernel
theorem dX2_greatest_16 : decode cX2_greatest 16 = .ok (.invokestatic 20, 3) := by decide +kernel
theorem dX2_greatest_19 : decode cX2_greatest 19 = .ok (.invokestatic 26, 3) := by decide +kernel
theorem dX2_greatest_22 : decode cX2_greatest 22 = .ok (.istore_n 1, 1) := by decide +kernel
theorem dX2_greatest_23 : decode cX2_greatest 23 = .ok (.iinc 2 1, 3) := by decide +kernel
theorem dX2_greatest_26 : decode cX2_greatest 26 = .ok (.goto (-22), 3) := by decide +kernel
theorem dX2_greatest_29 : decode cX2_greatest 29 = .ok (.iload_n 1, 1) := by decide +kernel
theorem dX2_greatest_30 : decode cX2_greatest 30 = .ok (.ireturn, 1) := by decide +kernel
theorem dX2_steps_0 : decode cX2_steps 0 = .ok (.iload_n 2, 1) := by decide +kernel
theorem dX2_steps_1 : decode cX2_steps 1 = .ok (.iconst 1, 1) := by decide +kernel
theorem dX2_steps_2 : decode cX2_steps 2 = .ok (.iload_n 0, 1) := by decide +kernel
theorem dX2_steps_3 : decode cX2_steps 3 = .ok (.ishl, 1) := by decide +kernel
theorem dX2_steps_4 : decode cX2_steps 4 = .ok (.iand, 1) := by decide +kernel
theorem dX2_steps_5 : decode cX2_steps 5 = .ok (.istore_n 3, 1) := by decide +kernel
theorem dX2_steps_6 : decode cX2_steps 6 = .ok (.iconst 0, 1) := by decide +kernel
theorem dX2_steps_7 : decode cX2_steps 7 = .ok (.istore 4, 2) := by decide +kernel
theorem dX2_steps_9 : decode cX2_steps 9 = .ok (.iload 4, 2) := by decide +kernel
theorem dX2_steps_11 : decode cX2_steps 11 = .ok (.bipush 24, 2) := by decide +kernel
theorem dX2_steps_13 : decode cX2_steps 13 = .ok (.if_icmp .ge 26, 3) := by decide +kernel
theorem dX2_steps_16 : decode cX2_steps 16 = .ok (.iload_n 3, 1) := by decide +kernel
theorem dX2_steps_17 : decode cX2_steps 17 = .ok (.iconst 1, 1) := by decide +kernel
theorem dX2_steps_18 : decode cX2_steps 18 = .ok (.iload_n 1, 1) := by decide +kernel
theorem dX2_steps_19 : decode cX2_steps 19 = .ok (.ishl, 1) := by decide +kernel
theorem dX2_steps_20 : decode cX2_steps 20 = .ok (.iand, 1) := by decide +kernel
theorem dX2_steps_21 : decode cX2_steps 21 = .ok (.ifCond .eq 6, 3) := by decide +kernel
theorem dX2_steps_24 : decode cX2_steps 24 = .ok (.iload 4, 2) := by decide +kernel
theorem dX2_steps_26 : decode cX2_steps 26 = .ok (.ireturn, 1) := by decide +kernel
theorem dX2_steps_27 : decode cX2_steps 27 = .ok (.iload_n 3, 1) := by decide +kernel
theorem dX2_steps_28 : decode cX2_steps 28 = .ok (.iload_n 2, 1) := by decide +kernel
theorem dX2_steps_29 : decode cX2_steps 29 = .ok (.invokestatic 13, 3) := by decide +kernel
theorem dX2_steps_32 : decode cX2_steps 32 = .ok (.istore_n 3, 1) := by decide +kernel
theorem dX2_steps_33 : decode cX2_steps 33 = .ok (.iinc 4 1, 3) := by decide +kernel
theorem dX2_steps_36 : decode cX2_steps 36 = .ok (.goto (-27), 3) := by decide +kernel
theorem dX2_steps_39 : decode cX2_steps 39 = .ok (.bipush (-9), 2) := by decide +kernel
theorem dX2_steps_41 : decode cX2_steps 41 = .ok (.ireturn, 1) := by decide +kernel
theorem dX3_init_0 : decode cX3_init 0 = .ok (.aload_n 0, 1) := by decide +kernel
theorem dX3_init_1 : decode cX3_init 1 = .ok (.invokespecial 3, 3) := by decide +kernel
theorem dX3_init_4 : decode cX3_init 4 = .ok (.aload_n 0, 1) := by decide +kernel
theorem dX3_init_5 : decode cX3_init 5 = .ok (.bipush 6, 2) := by decide +kernel
theorem dX3_init_7 : decode cX3_init 7 = .ok (.newarray .int, 2) := by decide +kernel
theorem dX3_init_9 : decode cX3_init 9 = .ok (.putfield 9, 3) := by decide +kernel
theorem dX3_init_12 : decode cX3_init 12 = .ok (.aload_n 0, 1) := by decide +kernel
theorem dX3_init_13 : decode cX3_init 13 = .ok (.bipush 6, 2) := by decide +kernel
theorem dX3_init_15 : decode cX3_init 15 = .ok (.newarray .int, 2) := by decide +kernel
theorem dX3_init_17 : decode cX3_init 17 = .ok (.putfield 15, 3) := by decide +kernel
theorem dX3_init_20 : decode cX3_init 20 = .ok (.aload_n 0, 1) := by decide +kernel
theorem dX3_init_21 : decode cX3_init 21 = .ok (.bipush 6, 2) := by decide +kernel
theorem dX3_init_23 : decode cX3_init 23 = .ok (.newarray .int, 2) := by decide +kernel
theorem dX3_init_25 : decode cX3_init 25 = .ok (.putfield 18, 3) := by decide +kernel
theorem dX3_init_28 : decode cX3_init 28 = .ok (.aload_n 0, 1) := by decide +kernel
theorem dX3_init_29 : decode cX3_init 29 = .ok (.iconst 0, 1) := by decide +kernel
theorem dX3_init_30 : decode cX3_init 30 = .ok (.putfield 21, 3) := by decide +kernel
theorem dX3_init_33 : decode cX3_init 33 = .ok (.aload_n 0, 1) := by decide +kernel
theorem dX3_init_34 : decode cX3_init 34 = .ok (.sipush 1536, 3) := by decide +kernel
theorem dX3_init_37 : decode cX3_init 37 = .ok (.newarray .int, 2) := by decide +kernel
theorem dX3_init_39 : decode cX3_init 39 = .ok (.putfield 25, 3) := by decide +kernel
theorem dX3_init_42 : decode cX3_init 42 = .ok (.aload_n 0, 1) := by decide +kernel
theorem dX3_init_43 : decode cX3_init 43 = .ok (.bipush 64, 2) := by decide +kernel
theorem dX3_init_45 : decode cX3_init 45 = .ok (.newarray .int, 2) := by decide +kernel
theorem dX3_init_47 : decode cX3_init 47 = .ok (.putfield 28, 3) := by decide +kernel
theorem dX3_init_50 : decode cX3_init 50 = .ok (.aload_n 0, 1) := by decide +kernel
theorem dX3_init_51 : decode cX3_init 51 = .ok (.bipush 6, 2) := by decide +kernel
theorem dX3_init_53 : decode cX3_init 53 = .ok (.newarray .int, 2) := by decide +kernel
theorem dX3_init_55 : decode cX3_init 55 = .ok (.putfield 31, 3) := by decide +kernel
theorem dX3_init_58 : decode cX3_init 58 = .ok (.aload_n 0, 1) := by decide +kernel
theorem dX3_init_59 : decode cX3_init 59 = .ok (.bipush 6, 2) := by decide +kernel
theorem dX3_init_61 : decode cX3_init 61 = .ok (.newarray .int, 2) := by decide +kernel
theorem dX3_init_63 : decode cX3_init 63 = .ok (.putfield 34, 3) := by decide +kernel
theorem dX3_init_66 : decode cX3_init 66 = .ok (.iconst 0, 1) := by decide +kernel
theorem dX3_init_67 : decode cX3_init 67 = .ok (.istore_n 1, 1) := by decide +kernel
theorem dX3_init_68 : decode cX3_init 68 = .ok (.iload_n 1, 1) := by decide +kernel
theorem dX3_init_69 : decode cX3_init 69 = .ok (.bipush 64, 2) := by decide +kernel
theorem dX3_init_71 : decode cX3_init 71 = .ok (.if_icmp .ge 16, 3) := by decide +kernel
theorem dX3_init_74 : decode cX3_init 74 = .ok (.aload_n 0, 1) := by decide +kernel
theorem dX3_init_75 : decode cX3_init 75 = .ok (.getfield 28, 3) := by decide +kernel
theorem dX3_init_78 : decode cX3_init 78 = .ok (.iload_n 1, 1) := by decide +kernel
theorem dX3_init_79 : decode cX3_init 79 = .ok (.iconst (-1), 1) := by decide +kernel
theorem dX3_init_80 : decode cX3_init 80 = .ok (.iastore, 1) := by decide +kernel
theorem dX3_init_81 : decode cX3_init 81 = .ok (.iinc 1 1, 3) := by decide +kernel
theorem dX3_init_84 : decode cX3_init 84 = .ok (.goto (-16), 3) := by decide +kernel
theorem dX3_init_87 : decode cX3_init 87 = .ok (.return_, 1) := by decide +kernel
theorem dX3_rowOf_0 : decode cX3_rowOf 0 = .ok (.aload_n 0, 1) := by decide +kernel
theorem dX3_rowOf_1 : decode cX3_rowOf 1 = .ok (.aload_n 1, 1) := by decide +kernel
theorem dX3_rowOf_2 : decode cX3_rowOf 2 = .ok (.invokevirtual 37, 3) := by decide +kernel
theorem dX3_rowOf_5 : decode cX3_rowOf 5 = .ok (.ifCond .ne 8, 3) := by decide +kernel
theorem dX3_rowOf_8 : decode cX3_rowOf 8 = .ok (.aload_n 0, 1) := by decide +kernel
theorem dX3_rowOf_9 : decode cX3_rowOf 9 = .ok (.aload_n 1, 1) := by decide +kernel
theorem dX3_rowOf_10 : decode cX3_rowOf 10 = .ok (.invokevirtual 41, 3) := by decide +kernel
theorem dX3_rowOf_13 : decode cX3_rowOf 13 = .ok (.iload_n 2, 1) := by decide +kernel
theorem dX3_rowOf_14 : decode cX3_rowOf 14 = .ok (.bipush 63, 2) := by decide +kernel
theorem dX3_rowOf_16 : decode cX3_rowOf 16 = .ok (.iand, 1) := by decide +kernel
theorem dX3_rowOf_17 : decode cX3_rowOf 17 = .ok (.istore_n 3, 1) := by decide +kernel
theorem dX3_rowOf_18 : decode cX3_rowOf 18 = .ok (.iload_n 3, 1) := by decide +kernel
theorem dX3_rowOf_19 : decode cX3_rowOf 19 = .ok (.bipush 24, 2) := by decide +kernel
theorem dX3_rowOf_21 : decode cX3_rowOf 21 = .ok (.imul, 1) := by decide +kernel
theorem dX3_rowOf_22 : decode cX3_rowOf 22 = .ok (.istore 4, 2) := by decide +kernel
theorem dX3_rowOf_24 : decode cX3_rowOf 24 = .ok (.aload_n 0, 1) := by decide +kernel
theorem dX3_rowOf_25 : decode cX3_rowOf 25 = .ok (.getfield 28, 3) := by decide +kernel
theorem dX3_rowOf_28 : decode cX3_rowOf 28 = .ok (.iload_n 3, 1) := by decide +kernel
theorem dX3_rowOf_29 : decode cX3_rowOf 29 = .ok (.iaload, 1) := by decide +kernel
theorem dX3_rowOf_30 : decode cX3_rowOf 30 = .ok (.iload_n 2, 1) := by decide +kernel
theorem dX3_rowOf_31 : decode cX3_rowOf 31 = .ok (.if_icmp .eq 43, 3) := by decide +kernel
theorem dX3_rowOf_34 : decode cX3_rowOf 34 = .ok (.iconst 0, 1) := by decide +kernel
theorem dX3_rowOf_35 : decode cX3_rowOf 35 = .ok (.istore 5, 2) := by decide +kernel
theorem dX3_rowOf_37 : decode cX3_rowOf 37 = .ok (.iload 5, 2) := by decide +kernel
theorem dX3_rowOf_39 : decode cX3_rowOf 39 = .ok (.bipush 24, 2) := by decide +kernel
theorem dX3_rowOf_41 : decode cX3_rowOf 41 = .ok (.if_icmp .ge 26, 3) := by decide +kernel
theorem dX3_rowOf_44 : decode cX3_rowOf 44 = .ok (.aload_n 0, 1) := by decide +kernel
theorem dX3_rowOf_45 : decode cX3_rowOf 45 = .ok (.getfield 25, 3) := by decide +kernel
theorem dX3_rowOf_48 : decode cX3_rowOf 48 = .ok (.iload 4, 2) := by decide +kernel
theorem dX3_rowOf_50 : decode cX3_rowOf 50 = .ok (.iload 5, 2) := by decide +kernel
theorem dX3_rowOf_52 : decode cX3_rowOf 52 = .ok (.iadd, 1) := by decide +kernel
theorem dX3_rowOf_53 : decode cX3_rowOf 53 = .ok (.aload_n 0, 1) := by decide +kernel
theorem dX3_rowOf_54 : decode cX3_rowOf 54 = .ok (.iload 5, 2) := by decide +kernel
theorem dX3_rowOf_56 : decode cX3_rowOf 56 = .ok (.iload_n 2, 1) := by decide +kernel
theorem dX3_rowOf_57 : decode cX3_rowOf 57 = .ok (.invokevirtual 45, 3) := by decide +kernel
theorem dX3_rowOf_60 : decode cX3_rowOf 60 = .ok (.iastore, 1) := by decide +kernel
theorem dX3_rowOf_61 : decode cX3_rowOf 61 = .ok (.iinc 5 1, 3) := by decide +kernel
theorem dX3_rowOf_64 : decode cX3_rowOf 64 = .ok (.goto (-27), 3) := by decide +kernel
theorem dX3_rowOf_67 : decode cX3_rowOf 67 = .ok (.aload_n 0, 1) := by decide +kernel
theorem dX3_rowOf_68 : decode cX3_rowOf 68 = .ok (.getfield 28, 3) := by decide +kernel
theorem dX3_rowOf_71 : decode cX3_rowOf 71 = .ok (.iload_n 3, 1) := by decide +kernel
theorem dX3_rowOf_72 : decode cX3_rowOf 72 = .ok (.iload_n 2, 1) := by decide +kernel
theorem dX3_rowOf_73 : decode cX3_rowOf 73 = .ok (.iastore, 1) := by decide +kernel
theorem dX3_rowOf_74 : decode cX3_rowOf 74 = .ok (.iload 4, 2) := by decide +kernel
theorem dX3_rowOf_76 : decode cX3_rowOf 76 = .ok (.ireturn, 1) := by decide +kernel
theorem dX3_isOf_0 : decode cX3_isOf 0 = .ok (.aload_n 0, 1) := by decide +kernel
theorem dX3_isOf_1 : decode cX3_isOf 1 = .ok (.getfield 21, 3) := by decide +kernel
theorem dX3_isOf_4 : decode cX3_isOf 4 = .ok (.aload_n 1, 1) := by decide +kernel
theorem dX3_isOf_5 : decode cX3_isOf 5 = .ok (.getfield 49, 3) := by decide +kernel
theorem dX3_isOf_8 : decode cX3_isOf 8 = .ok (.if_icmp .eq 5, 3) := by decide +kernel
theorem dX3_isOf_11 : decode cX3_isOf 11 = .ok (.iconst 0, 1) := by decide +kernel
theorem dX3_isOf_12 : decode cX3_isOf 12 = .ok (.ireturn, 1) := by decide +kernel
theorem dX3_isOf_13 : decode cX3_isOf 13 = .ok (.iconst 0, 1) := by decide +kernel
theorem dX3_isOf_14 : decode cX3_isOf 14 = .ok (.istore_n 2, 1) := by decide +kernel
theorem dX3_isOf_15 : decode cX3_isOf 15 = .ok (.iload_n 2, 1) := by decide +kernel
theorem dX3_isOf_16 : decode cX3_isOf 16 = .ok (.aload_n 0, 1) := by decide +kernel
theorem dX3_isOf_17 : decode cX3_isOf 17 = .ok (.getfield 21, 3) := by decide +kernel
theorem dX3_isOf_20 : decode cX3_isOf 20 = .ok (.if_icmp .ge 56, 3) := by decide +kernel
theorem dX3_isOf_23 : decode cX3_isOf 23 = .ok (.aload_n 0, 1) := by decide +kernel
theorem dX3_isOf_24 : decode cX3_isOf 24 = .ok (.getfield 9, 3) := by decide +kernel
theorem dX3_isOf_27 : decode cX3_isOf 27 = .ok (.iload_n 2, 1) := by decide +kernel
theorem dX3_isOf_28 : decode cX3_isOf 28 = .ok (.iaload, 1) := by decide +kernel
theorem dX3_isOf_29 : decode cX3_isOf 29 = .ok (.aload_n 1, 1) := by decide +kernel
theorem dX3_isOf_30 : decode cX3_isOf 30 = .ok (.getfield 52, 3) := by decide +kernel
theorem dX3_isOf_33 : decode cX3_isOf 33 = .ok (.iload_n 2, 1) := by decide +kernel
theorem dX3_isOf_34 : decode cX3_isOf 34 = .ok (.iaload, 1) := by decide +kernel
theorem dX3_isOf_35 : decode cX3_isOf 35 = .ok (.if_icmp .ne 33, 3) := by decide +kernel
theorem dX3_isOf_38 : decode cX3_isOf 38 = .ok (.aload_n 0, 1) := by decide +kernel
theorem dX3_isOf_39 : decode cX3_isOf 39 = .ok (.getfield 15, 3) := by decide +kernel
theorem dX3_isOf_42 : decode cX3_isOf 42 = .ok (.iload_n 2, 1) := by decide +kernel
theorem dX3_isOf_43 : decode cX3_isOf 43 = .ok (.iaload, 1) := by decide +kernel
theorem dX3_isOf_44 : decode cX3_isOf 44 = .ok (.aload_n 1, 1) := by decide +kernel
theorem dX3_isOf_45 : decode cX3_isOf 45 = .ok (.getfield 53, 3) := by decide +kernel
theorem dX3_isOf_48 : decode cX3_isOf 48 = .ok (.iload_n 2, 1) := by decide +kernel
theorem dX3_isOf_49 : decode cX3_isOf 49 = .ok (.iaload, 1) := by decide +kernel
theorem dX3_isOf_50 : decode cX3_isOf 50 = .ok (.if_icmp .ne 18, 3) := by decide +kernel
theorem dX3_isOf_53 : decode cX3_isOf 53 = .ok (.aload_n 0, 1) := by decide +kernel
theorem dX3_isOf_54 : decode cX3_isOf 54 = .ok (.getfield 18, 3) := by decide +kernel
theorem dX3_isOf_57 : decode cX3_isOf 57 = .ok (.iload_n 2, 1) := by decide +kernel
theorem dX3_isOf_58 : decode cX3_isOf 58 = .ok (.iaload, 1) := by decide +kernel
theorem dX3_isOf_59 : decode cX3_isOf 59 = .ok (.aload_n 1, 1) := by decide +kernel
theorem dX3_isOf_60 : decode cX3_isOf 60 = .ok (.getfield 54, 3) := by decide +kernel
theorem dX3_isOf_63 : decode cX3_isOf 63 = .ok (.iload_n 2, 1) := by decide +kernel
theorem dX3_isOf_64 : decode cX3_isOf 64 = .ok (.iaload, 1) := by decide +kernel
theorem dX3_isOf_65 : decode cX3_isOf 65 = .ok (.if_icmp .eq 5, 3) := by decide +kernel
theorem dX3_isOf_68 : decode cX3_isOf 68 = .ok (.iconst 0, 1) := by decide +kernel
theorem dX3_isOf_69 : decode cX3_isOf 69 = .ok (.ireturn, 1) := by decide +kernel
theorem dX3_isOf_70 : decode cX3_isOf 70 = .ok (.iinc 2 1, 3) := by decide +kernel
theorem dX3_isOf_73 : decode cX3_isOf 73 = .ok (.goto (-58), 3) := by decide +kernel
theorem dX3_isOf_76 : decode cX3_isOf 76 = .ok (.iconst 1, 1) := by decide +kernel
theorem dX3_isOf_77 : decode cX3_isOf 77 = .ok (.ireturn, 1) := by decide +kernel
theorem dX3_turnTo_0 : decode cX3_turnTo 0 = .ok (.aload_n 1, 1) := by decide +kernel
theorem dX3_turnTo_1 : decode cX3_turnTo 1 = .ok (.getfield 52, 3) := by decide +kernel
theorem dX3_turnTo_4 : decode cX3_turnTo 4 = .ok (.iconst 0, 1) := by decide +kernel
theorem dX3_turnTo_5 : decode cX3_turnTo 5 = .ok (.aload_n 0, 1) := by decide +kernel
theorem dX3_turnTo_6 : decode cX3_turnTo 6 = .ok (.getfield 9, 3) := by decide +kernel
theorem dX3_turnTo_9 : decode cX3_turnTo 9 = .ok (.iconst 0, 1) := by decide +kernel
theorem dX3_turnTo_10 : decode cX3_turnTo 10 = .ok (.bipush 6, 2) := by decide +kernel
theorem dX3_turnTo_12 : decode cX3_turnTo 12 = .ok (.invokestatic 55, 3) := by decide +kernel
theorem dX3_turnTo_15 : decode cX3_turnTo 15 = .ok (.aload_n 1, 1) := by decide +kernel
theorem dX3_turnTo_16 : decode cX3_turnTo 16 = .ok (.getfield 53, 3) := by decide +kernel
theorem dX3_turnTo_19 : decode cX3_turnTo 19 = .ok (.iconst 0, 1) := by decide +kernel
theorem dX3_turnTo_20 : decode cX3_turnTo 20 = .ok (.aload_n 0, 1) := by decide +kernel
theorem dX3_turnTo_21 : decode cX3_turnTo 21 = .ok (.getfield 15, 3) := by decide +kernel
theorem dX3_turnTo_24 : decode cX3_turnTo 24 = .ok (.iconst 0, 1) := by decide +kernel
theorem dX3_turnTo_25 : decode cX3_turnTo 25 = .ok (.bipush 6, 2) := by decide +kernel
theorem dX3_turnTo_27 : decode cX3_turnTo 27 = .ok (.invokestatic 55, 3) := by decide +kernel
theorem dX3_turnTo_30 : decode cX3_turnTo 30 = .ok (.aload_n 1, 1) := by decide +kernel
theorem dX3_turnTo_31 : decode cX3_turnTo 31 = .ok (.getfield 54, 3) := by decide +kernel
theorem dX3_turnTo_34 : decode cX3_turnTo 34 = .ok (.iconst 0, 1) := by decide +kernel
theorem dX3_turnTo_35 : decode cX3_turnTo 35 = .ok (.aload_n 0, 1) := by decide +kernel
theorem dX3_turnTo_36 : decode cX3_turnTo 36 = .ok (.getfield 18, 3) := by decide +kernel
theorem dX3_turnTo_39 : decode cX3_turnTo 39 = .ok (.iconst 0, 1) := by decide +kernel
theorem dX3_turnTo_40 : decode cX3_turnTo 40 = .ok (.bipush 6, 2) := by decide +kernel
theorem dX3_turnTo_42 : decode cX3_turnTo 42 = .ok (.invokestatic 55, 3) := by decide +kernel
theorem dX3_turnTo_45 : decode cX3_turnTo 45 = .ok (.aload_n 0, 1) := by decide +kernel
theorem dX3_turnTo_46 : decode cX3_turnTo 46 = .ok (.aload_n 1, 1) := by decide +kernel
theorem dX3_turnTo_47 : decode cX3_turnTo 47 = .ok (.getfield 49, 3) := by decide +kernel
theorem dX3_turnTo_50 : decode cX3_turnTo 50 = .ok (.putfield 21, 3) := by decide +kernel
theorem dX3_turnTo_53 : decode cX3_turnTo 53 = .ok (.iconst 0, 1) := by decide +kernel
theorem dX3_turnTo_54 : decode cX3_turnTo 54 = .ok (.istore_n 2, 1) := by decide +kernel
theorem dX3_turnTo_55 : decode cX3_turnTo 55 = .ok (.iload_n 2, 1) := by decide +kernel
theorem dX3_turnTo_56 : decode cX3_turnTo 56 = .ok (.bipush 64, 2) := by decide +kernel
theorem dX3_turnTo_58 : decode cX3_turnTo 58 = .ok (.if_icmp .ge 16, 3) := by decide +kernel
theorem dX3_turnTo_61 : decode cX3_turnTo 61 = .ok (.aload_n 0, 1) := by decide +kernel
theorem dX3_turnTo_62 : decode cX3_turnTo 62 = .ok (.getfield 28, 3) := by decide +kernel
theorem dX3_turnTo_65 : decode cX3_turnTo 65 = .ok (.iload_n 2, 1) := by decide +kernel
theorem dX3_turnTo_66 : decode cX3_turnTo 66 = .ok (.iconst (-1), 1) := by decide +kernel
theorem dX3_turnTo_67 : decode cX3_turnTo 67 = .ok (.iastore, 1) := by decide +kernel
theorem dX3_turnTo_68 : decode cX3_turnTo 68 = .ok (.iinc 2 1, 3) := by decide +kernel
theorem dX3_turnTo_71 : decode cX3_turnTo 71 = .ok (.goto (-16), 3) := by decide +kernel
theorem dX3_turnTo_74 : decode cX3_turnTo 74 = .ok (.return_, 1) := by decide +kernel
theorem dX3_airAt_0 : decode cX3_airAt 0 = .ok (.iload_n 1, 1) := by decide +kernel
theorem dX3_airAt_1 : decode cX3_airAt 1 = .ok (.istore_n 3, 1) := by decide +kernel
theorem dX3_airAt_2 : decode cX3_airAt 2 = .ok (.iload_n 2, 1) := by decide +kernel
theorem dX3_airAt_3 : decode cX3_airAt 3 = .ok (.istore 4, 2) := by decide +kernel
theorem dX3_airAt_5 : decode cX3_airAt 5 = .ok (.aload_n 0, 1) := by decide +kernel
theorem dX3_airAt_6 : decode cX3_airAt 6 = .ok (.getfield 21, 3) := by decide +kernel
theorem dX3_airAt_9 : decode cX3_airAt 9 = .ok (.iconst 1, 1) := by decide +kernel
theorem dX3_airAt_10 : decode cX3_airAt 10 = .ok (.isub, 1) := by decide +kernel
theorem dX3_airAt_11 : decode cX3_airAt 11 = .ok (.istore 5, 2) := by decide +kernel
theorem dX3_airAt_13 : decode cX3_airAt 13 = .ok (.iload 5, 2) := by decide +kernel
theorem dX3_airAt_15 : decode cX3_airAt 15 = .ok (.ifCond .lt 79, 3) := by decide +kernel
theorem dX3_airAt_18 : decode cX3_airAt 18 = .ok (.aload_n 0, 1) := by decide +kernel
theorem dX3_airAt_19 : decode cX3_airAt 19 = .ok (.getfield 31, 3) := by decide +kernel
theorem dX3_airAt_22 : decode cX3_airAt 22 = .ok (.iload 5, 2) := by decide +kernel
theorem dX3_airAt_24 : decode cX3_airAt 24 = .ok (.iload_n 3, 1) := by decide +kernel
theorem dX3_airAt_25 : decode cX3_airAt 25 = .ok (.iastore, 1) := by decide +kernel
theorem dX3_airAt_26 : decode cX3_airAt 26 = .ok (.aload_n 0, 1) := by decide +kernel
theorem dX3_airAt_27 : decode cX3_airAt 27 = .ok (.getfield 34, 3) := by decide +kernel
theorem dX3_airAt_30 : decode cX3_airAt 30 = .ok (.iload 5, 2) := by decide +kernel
theorem dX3_airAt_32 : decode cX3_airAt 32 = .ok (.iload 4, 2) := by decide +kernel
theorem dX3_airAt_34 : decode cX3_airAt 34 = .ok (.iastore, 1) := by decide +kernel
theorem dX3_airAt_35 : decode cX3_airAt 35 = .ok (.aload_n 0, 1) := by decide +kernel
theorem dX3_airAt_36 : decode cX3_airAt 36 = .ok (.getfield 9, 3) := by decide +kernel
theorem dX3_airAt_39 : decode cX3_airAt 39 = .ok (.iload 5, 2) := by decide +kernel
theorem dX3_airAt_41 : decode cX3_airAt 41 = .ok (.iaload, 1) := by decide +kernel
theorem dX3_airAt_42 : decode cX3_airAt 42 = .ok (.iconst 5, 1) := by decide +kernel
theorem dX3_airAt_43 : decode cX3_airAt 43 = .ok (.if_icmp .ne 17, 3) := by decide +kernel
theorem dX3_airAt_46 : decode cX3_airAt 46 = .ok (.iload_n 3, 1) := by decide +kernel
theorem dX3_airAt_47 : decode cX3_airAt 47 = .ok (.iconst 5, 1) := by decide +kernel
theorem dX3_airAt_48 : decode cX3_airAt 48 = .ok (.iadd, 1) := by decide +kernel
theorem dX3_airAt_49 : decode cX3_airAt 49 = .ok (.iconst 2, 1) := by decide +kernel
theorem dX3_airAt_50 : decode cX3_airAt 50 = .ok (.iload_n 3, 1) := by decide +kernel
theorem dX3_airAt_51 : decode cX3_airAt 51 = .ok (.bipush 6, 2) := by decide +kernel
theorem dX3_airAt_53 : decode cX3_airAt 53 = .ok (.irem, 1) := by decide +kernel
theorem dX3_airAt_54 : decode cX3_airAt 54 = .ok (.imul, 1) := by decide +kernel
theorem dX3_airAt_55 : decode cX3_airAt 55 = .ok (.isub, 1) := by decide +kernel
theorem dX3_airAt_56 : decode cX3_airAt 56 = .ok (.istore_n 3, 1) := by decide +kernel
theorem dX3_airAt_57 : decode cX3_airAt 57 = .ok (.goto 31, 3) := by decide +kernel
theorem dX3_airAt_60 : decode cX3_airAt 60 = .ok (.aload_n 0, 1) := by decide +kernel
theorem dX3_airAt_61 : decode cX3_airAt 61 = .ok (.getfield 9, 3) := by decide +kernel
theorem dX3_airAt_64 : decode cX3_airAt 64 = .ok (.iload 5, 2) := by decide +kernel
theorem dX3_airAt_66 : decode cX3_airAt 66 = .ok (.iaload, 1) := by decide +kernel
theorem dX3_airAt_67 : decode cX3_airAt 67 = .ok (.bipush 6, 2) := by decide +kernel
theorem dX3_airAt_69 : decode cX3_airAt 69 = .ok (.if_icmp .ne 19, 3) := by decide +kernel
theorem dX3_airAt_72 : decode cX3_airAt 72 = .ok (.iload 4, 2) := by decide +kernel
theorem dX3_airAt_74 : decode cX3_airAt 74 = .ok (.aload_n 0, 1) := by decide +kernel
theorem dX3_airAt_75 : decode cX3_airAt 75 = .ok (.getfield 18, 3) := by decide +kernel
theorem dX3_airAt_78 : decode cX3_airAt 78 = .ok (.iload 5, 2) := by decide +kernel
theorem dX3_airAt_80 : decode cX3_airAt 80 = .ok (.iaload, 1) := by decide +kernel
theorem dX3_airAt_81 : decode cX3_airAt 81 = .ok (.isub, 1) := by decide +kernel
theorem dX3_airAt_82 : decode cX3_airAt 82 = .ok (.iconst 0, 1) := by decide +kernel
theorem dX3_airAt_83 : decode cX3_airAt 83 = .ok (.invokestatic 61, 3) := by decide +kernel
theorem dX3_airAt_86 : decode cX3_airAt 86 = .ok (.istore 4, 2) := by decide +kernel
theorem dX3_airAt_88 : decode cX3_airAt 88 = .ok (.iinc 5 (-1), 3) := by decide +kernel
theorem dX3_airAt_91 : decode cX3_airAt 91 = .ok (.goto (-78), 3) := by decide +kernel
theorem dX3_airAt_94 : decode cX3_airAt 94 = .ok (.iconst 0, 1) := by decide +kernel
theorem dX3_airAt_95 : decode cX3_airAt 95 = .ok (.istore 5, 2) := by decide +kernel
theorem dX3_airAt_97 : decode cX3_airAt 97 = .ok (.iconst 0, 1) := by decide +kernel
theorem dX3_airAt_98 : decode cX3_airAt 98 = .ok (.istore 6, 2) := by decide +kernel
theorem dX3_airAt_100 : decode cX3_airAt 100 = .ok (.iload 6, 2) := by decide +kernel
theorem dX3_airAt_102 : decode cX3_airAt 102 = .ok (.aload_n 0, 1) := by decide +kernel
theorem dX3_airAt_103 : decode cX3_airAt 103 = .ok (.getfield 21, 3) := by decide +kernel
theorem dX3_airAt_106 : decode cX3_airAt 106 = .ok (.if_icmp .ge 33, 3) := by decide +kernel
theorem dX3_airAt_109 : decode cX3_airAt 109 = .ok (.aload_n 0, 1) := by decide +kernel
theorem dX3_airAt_110 : decode cX3_airAt 110 = .ok (.iload 6, 2) := by decide +kernel
theorem dX3_airAt_112 : decode cX3_airAt 112 = .ok (.iload 5, 2) := by decide +kernel
theorem dX3_airAt_114 : decode cX3_airAt 114 = .ok (.aload_n 0, 1) := by decide +kernel
theorem dX3_airAt_115 : decode cX3_airAt 115 = .ok (.getfield 31, 3) := by decide +kernel
theorem dX3_airAt_118 : decode cX3_airAt 118 = .ok (.iload 6, 2) := by decide +kernel
theorem dX3_airAt_120 : decode cX3_airAt 120 = .ok (.iaload, 1) := by decide +kernel
theorem dX3_airAt_121 : decode cX3_airAt 121 = .ok (.aload_n 0, 1) := by decide +kernel
theorem dX3_airAt_122 : decode cX3_airAt 122 = .ok (.getfield 34, 3) := by decide +kernel
theorem dX3_airAt_125 : decode cX3_airAt 125 = .ok (.iload 6, 2) := by decide +kernel
theorem dX3_airAt_127 : decode cX3_airAt 127 = .ok (.iaload, 1) := by decide +kernel
theorem dX3_airAt_128 : decode cX3_airAt 128 = .ok (.invokevirtual 66, 3) := by decide +kernel
theorem dX3_airAt_131 : decode cX3_airAt 131 = .ok (.istore 5, 2) := by decide +kernel
theorem dX3_airAt_133 : decode cX3_airAt 133 = .ok (.iinc 6 1, 3) := by decide +kernel
theorem dX3_airAt_136 : decode cX3_airAt 136 = .ok (.goto (-36), 3) := by decide +kernel
theorem dX3_airAt_139 : decode cX3_airAt 139 = .ok (.iload 5, 2) := by decide +kernel
theorem dX3_airAt_141 : decode cX3_airAt 141 = .ok (.ireturn, 1) := by decide +kernel
theorem dX3_airOfFront_0 : decode cX3_airOfFront 0 = .ok (.aload_n 0, 1) := by decide +kernel
theorem dX3_airOfFront_1 : decode cX3_airOfFront 1 = .ok (.getfield 15, 3) := by decide +kernel
theorem dX3_airOfFront_4 : decode cX3_airOfFront 4 = .ok (.iload_n 1, 1) := by decide +kernel
theorem dX3_airOfFront_5 : decode cX3_airOfFront 5 = .ok (.iaload, 1) := by decide +kernel
theorem dX3_airOfFront_6 : decode cX3_airOfFront 6 = .ok (.istore 5, 2) := by decide +kernel
theorem dX3_airOfFront_8 : decode cX3_airOfFront 8 = .ok (.iload_n 3, 1) := by decide +kernel
theorem dX3_airOfFront_9 : decode cX3_airOfFront 9 = .ok (.bipush 6, 2) := by decide +kernel
theorem dX3_airOfFront_11 : decode cX3_airOfFront 11 = .ok (.irem, 1) := by decide +kernel
theorem dX3_airOfFront_12 : decode cX3_airOfFront 12 = .ok (.istore 6, 2) := by decide +kernel
theorem dX3_airOfFront_14 : decode cX3_airOfFront 14 = .ok (.iconst 0, 1) := by decide +kernel
theorem dX3_airOfFront_15 : decode cX3_airOfFront 15 = .ok (.istore 7, 2) := by decide +kernel
theorem dX3_airOfFront_17 : decode cX3_airOfFront 17 = .ok (.aload_n 0, 1) := by decide +kernel
theorem dX3_airOfFront_18 : decode cX3_airOfFront 18 = .ok (.getfield 9, 3) := by decide +kernel
theorem dX3_airOfFront_21 : decode cX3_airOfFront 21 = .ok (.iload_n 1, 1) := by decide +kernel
theorem dX3_airOfFront_22 : decode cX3_airOfFront 22 = .ok (.iaload, 1) := by decide +kernel
theorem dX3_airOfFront_23 : decode cX3_airOfFront 23 = .ok (.tableswitch 175 0 4 #[33, 69, 95, 129, 160], 33) := by decide +kernel
theorem dX3_airOfFront_56 : decode cX3_airOfFront 56 = .ok (.aload_n 0, 1) := by decide +kernel
theorem dX3_airOfFront_57 : decode cX3_airOfFront 57 = .ok (.getfield 18, 3) := by decide +kernel
theorem dX3_airOfFront_60 : decode cX3_airOfFront 60 = .ok (.iload_n 1, 1) := by decide +kernel
theorem dX3_airOfFront_61 : decode cX3_airOfFront 61 = .ok (.iaload, 1) := by decide +kernel
theorem dX3_airOfFront_62 : decode cX3_airOfFront 62 = .ok (.iconst 2, 1) := by decide +kernel
theorem dX3_airOfFront_63 : decode cX3_airOfFront 63 = .ok (.iadd, 1) := by decide +kernel
theorem dX3_airOfFront_64 : decode cX3_airOfFront 64 = .ok (.istore 8, 2) := by decide +kernel
theorem dX3_airOfFront_66 : decode cX3_airOfFront 66 = .ok (.iload 8, 2) := by decide +kernel
theorem dX3_airOfFront_68 : decode cX3_airOfFront 68 = .ok (.ifCond .le 18, 3) := by decide +kernel
theorem dX3_airOfFront_71 : decode cX3_airOfFront 71 = .ok (.iload 6, 2) := by decide +kernel
theorem dX3_airOfFront_73 : decode cX3_airOfFront 73 = .ok (.iload 4, 2) := by decide +kernel
theorem dX3_airOfFront_75 : decode cX3_airOfFront 75 = .ok (.iload 8, 2) := by decide +kernel
theorem dX3_airOfFront_77 : decode cX3_airOfFront 77 = .ok (.irem, 1) := by decide +kernel
theorem dX3_airOfFront_78 : decode cX3_airOfFront 78 = .ok (.if_icmp .gt 8, 3) := by decide +kernel
theorem dX3_airOfFront_81 : decode cX3_airOfFront 81 = .ok (.iload 5, 2) := by decide +kernel
theorem dX3_airOfFront_83 : decode cX3_airOfFront 83 = .ok (.goto 4, 3) := by decide +kernel
theorem dX3_airOfFront_86 : decode cX3_airOfFront 86 = .ok (.iconst 0, 1) := by decide +kernel
theorem dX3_airOfFront_87 : decode cX3_airOfFront 87 = .ok (.istore 7, 2) := by decide +kernel
theorem dX3_airOfFront_89 : decode cX3_airOfFront 89 = .ok (.goto 109, 3) := by decide +kernel
theorem dX3_airOfFront_92 : decode cX3_airOfFront 92 = .ok (.iload_n 3, 1) := by decide +kernel
theorem dX3_airOfFront_93 : decode cX3_airOfFront 93 = .ok (.bipush 6, 2) := by decide +kernel
theorem dX3_airOfFront_95 : decode cX3_airOfFront 95 = .ok (.idiv, 1) := by decide +kernel
theorem dX3_airOfFront_96 : decode cX3_airOfFront 96 = .ok (.aload_n 0, 1) := by decide +kernel
theorem dX3_airOfFront_97 : decode cX3_airOfFront 97 = .ok (.getfield 18, 3) := by decide +kernel
theorem dX3_airOfFront_100 : decode cX3_airOfFront 100 = .ok (.iload_n 1, 1) := by decide +kernel
theorem dX3_airOfFront_101 : decode cX3_airOfFront 101 = .ok (.iaload, 1) := by decide +kernel
theorem dX3_airOfFront_102 : decode cX3_airOfFront 102 = .ok (.iconst 4, 1) := by decide +kernel
theorem dX3_airOfFront_103 : decode cX3_airOfFront 103 = .ok (.irem, 1) := by decide +kernel
theorem dX3_airOfFront_104 : decode cX3_airOfFront 104 = .ok (.if_icmp .ne 8, 3) := by decide +kernel
theorem dX3_airOfFront_107 : decode cX3_airOfFront 107 = .ok (.iload 5, 2) := by decide +kernel
theorem dX3_airOfFront_109 : decode cX3_airOfFront 109 = .ok (.goto 4, 3) := by decide +kernel
theorem dX3_airOfFront_112 : decode cX3_airOfFront 112 = .ok (.iconst 0, 1) := by decide +kernel
theorem dX3_airOfFront_113 : decode cX3_airOfFront 113 = .ok (.istore 7, 2) := by decide +kernel
theorem dX3_airOfFront_115 : decode cX3_airOfFront 115 = .ok (.goto 83, 3) := by decide +kernel
theorem dX3_airOfFront_118 : decode cX3_airOfFront 118 = .ok (.aload_n 0, 1) := by decide +kernel
theorem dX3_airOfFront_119 : decode cX3_airOfFront 119 = .ok (.getfield 18, 3) := by decide +kernel
theorem dX3_airOfFront_122 : decode cX3_airOfFront 122 = .ok (.iload_n 1, 1) := by decide +kernel
theorem dX3_airOfFront_123 : decode cX3_airOfFront 123 = .ok (.iaload, 1) := by decide +kernel
theorem dX3_airOfFront_124 : decode cX3_airOfFront 124 = .ok (.iconst 1, 1) := by decide +kernel
theorem dX3_airOfFront_125 : decode cX3_airOfFront 125 = .ok (.iadd, 1) := by decide +kernel
theorem dX3_airOfFront_126 : decode cX3_airOfFront 126 = .ok (.istore 9, 2) := by decide +kernel
theorem dX3_airOfFront_128 : decode cX3_airOfFront 128 = .ok (.iload 9, 2) := by decide +kernel
theorem dX3_airOfFront_130 : decode cX3_airOfFront 130 = .ok (.ifCond .le 16, 3) := by decide +kernel
theorem dX3_airOfFront_133 : decode cX3_airOfFront 133 = .ok (.iload 4, 2) := by decide +kernel
theorem dX3_airOfFront_135 : decode cX3_airOfFront 135 = .ok (.iload 9, 2) := by decide +kernel
theorem dX3_airOfFront_137 : decode cX3_airOfFront 137 = .ok (.irem, 1) := by decide +kernel
theorem dX3_airOfFront_138 : decode cX3_airOfFront 138 = .ok (.ifCond .ne 8, 3) := by decide +kernel
theorem dX3_airOfFront_141 : decode cX3_airOfFront 141 = .ok (.iload 5, 2) := by decide +kernel
theorem dX3_airOfFront_143 : decode cX3_airOfFront 143 = .ok (.goto 4, 3) := by decide +kernel
theorem dX3_airOfFront_146 : decode cX3_airOfFront 146 = .ok (.iconst 0, 1) := by decide +kernel
theorem dX3_airOfFront_147 : decode cX3_airOfFront 147 = .ok (.istore 7, 2) := by decide +kernel
theorem dX3_airOfFront_149 : decode cX3_airOfFront 149 = .ok (.goto 49, 3) := by decide +kernel
theorem dX3_airOfFront_152 : decode cX3_airOfFront 152 = .ok (.iload 6, 2) := by decide +kernel
theorem dX3_airOfFront_154 : decode cX3_airOfFront 154 = .ok (.iload 4, 2) := by decide +kernel
theorem dX3_airOfFront_156 : decode cX3_airOfFront 156 = .ok (.bipush 6, 2) := by decide +kernel
theorem dX3_airOfFront_158 : decode cX3_airOfFront 158 = .ok (.irem, 1) := by decide +kernel
theorem dX3_airOfFront_159 : decode cX3_airOfFront 159 = .ok (.isub, 1) := by decide +kernel
theorem dX3_airOfFront_160 : decode cX3_airOfFront 160 = .ok (.istore 10, 2) := by decide +kernel
theorem dX3_airOfFront_162 : decode cX3_airOfFront 162 = .ok (.iload 5, 2) := by decide +kernel
theorem dX3_airOfFront_164 : decode cX3_airOfFront 164 = .ok (.iload 10, 2) := by decide +kernel
theorem dX3_airOfFront_166 : decode cX3_airOfFront 166 = .ok (.ifCond .ge 9, 3) := by decide +kernel
theorem dX3_airOfFront_169 : decode cX3_airOfFront 169 = .ok (.iload 10, 2) := by decide +kernel
theorem dX3_airOfFront_171 : decode cX3_airOfFront 171 = .ok (.ineg, 1) := by decide +kernel
theorem dX3_airOfFront_172 : decode cX3_airOfFront 172 = .ok (.goto 5, 3) := by decide +kernel
theorem dX3_airOfFront_175 : decode cX3_airOfFront 175 = .ok (.iload 10, 2) := by decide +kernel
theorem dX3_airOfFront_177 : decode cX3_airOfFront 177 = .ok (.isub, 1) := by decide +kernel
theorem dX3_airOfFront_178 : decode cX3_airOfFront 178 = .ok (.istore 7, 2) := by decide +kernel
theorem dX3_airOfFront_180 : decode cX3_airOfFront 180 = .ok (.goto 18, 3) := by decide +kernel
theorem dX3_airOfFront_183 : decode cX3_airOfFront 183 = .ok (.iload_n 2, 1) := by decide +kernel
theorem dX3_airOfFront_184 : decode cX3_airOfFront 184 = .ok (.iload 5, 2) := by decide +kernel
theorem dX3_airOfFront_186 : decode cX3_airOfFront 186 = .ok (.if_icmp .le 10, 3) := by decide +kernel
theorem dX3_airOfFront_189 : decode cX3_airOfFront 189 = .ok (.iload_n 2, 1) := by decide +kernel
theorem dX3_airOfFront_190 : decode cX3_airOfFront 190 = .ok (.iload 5, 2) := by decide +kernel
theorem dX3_airOfFront_192 : decode cX3_airOfFront 192 = .ok (.isub, 1) := by decide +kernel
theorem dX3_airOfFront_193 : decode cX3_airOfFront 193 = .ok (.goto 4, 3) := by decide +kernel
theorem dX3_airOfFront_196 : decode cX3_airOfFront 196 = .ok (.iconst 0, 1) := by decide +kernel
theorem dX3_airOfFront_197 : decode cX3_airOfFront 197 = .ok (.ireturn, 1) := by decide +kernel
theorem dX3_airOfFront_198 : decode cX3_airOfFront 198 = .ok (.iload 7, 2) := by decide +kernel
theorem dX3_airOfFront_200 : decode cX3_airOfFront 200 = .ok (.iload_n 2, 1) := by decide +kernel
theorem dX3_airOfFront_201 : decode cX3_airOfFront 201 = .ok (.if_icmp .le 8, 3) := by decide +kernel
theorem dX3_airOfFront_204 : decode cX3_airOfFront 204 = .ok (.iload 7, 2) := by decide +kernel
theorem dX3_airOfFront_206 : decode cX3_airOfFront 206 = .ok (.goto 4, 3) := by decide +kernel
theorem dX3_airOfFront_209 : decode cX3_airOfFront 209 = .ok (.iload_n 2, 1) := by decide +kernel
theorem dX3_airOfFront_210 : decode cX3_airOfFront 210 = .ok (.ireturn, 1) := by decide +kernel
theorem dX4_init_0 : decode cX4_init 0 = .ok (.aload_n 0, 1) := by decide +kernel
theorem dX4_init_1 : decode cX4_init 1 = .ok (.invokespecial 3, 3) := by decide +kernel
theorem dX4_init_4 : decode cX4_init 4 = .ok (.aload_n 0, 1) := by decide +kernel
theorem dX4_init_5 : decode cX4_init 5 = .ok (.bipush 6, 2) := by decide +kernel
theorem dX4_init_7 : decode cX4_init 7 = .ok (.newarray .int, 2) := by decide +kernel
theorem dX4_init_9 : decode cX4_init 9 = .ok (.putfield 9, 3) := by decide +kernel
theorem dX4_init_12 : decode cX4_init 12 = .ok (.aload_n 0, 1) := by decide +kernel
theorem dX4_init_13 : decode cX4_init 13 = .ok (.bipush 6, 2) := by decide +kernel
theorem dX4_init_15 : decode cX4_init 15 = .ok (.newarray .int, 2) := by decide +kernel
theorem dX4_init_17 : decode cX4_init 17 = .ok (.putfield 15, 3) := by decide +kernel
theorem dX4_init_20 : decode cX4_init 20 = .ok (.aload_n 0, 1) := by decide +kernel
theorem dX4_init_21 : decode cX4_init 21 = .ok (.bipush 6, 2) := by decide +kernel
theorem dX4_init_23 : decode cX4_init 23 = .ok (.newarray .int, 2) := by decide +kernel
theorem dX4_init_25 : decode cX4_init 25 = .ok (.putfield 18, 3) := by decide +kernel
theorem dX4_init_28 : decode cX4_init 28 = .ok (.aload_n 0, 1) := by decide +kernel
theorem dX4_init_29 : decode cX4_init 29 = .ok (.iconst 0, 1) := by decide +kernel
theorem dX4_init_30 : decode cX4_init 30 = .ok (.putfield 21, 3) := by decide +kernel
theorem dX4_init_33 : decode cX4_init 33 = .ok (.aload_n 0, 1) := by decide +kernel
theorem dX4_init_34 : decode cX4_init 34 = .ok (.bipush 8, 2) := by decide +kernel
theorem dX4_init_36 : decode cX4_init 36 = .ok (.newarray .int, 2) := by decide +kernel
theorem dX4_init_38 : decode cX4_init 38 = .ok (.putfield 25, 3) := by decide +kernel
theorem dX4_init_41 : decode cX4_init 41 = .ok (.aload_n 0, 1) := by decide +kernel
theorem dX4_init_42 : decode cX4_init 42 = .ok (.bipush 8, 2) := by decide +kernel
theorem dX4_init_44 : decode cX4_init 44 = .ok (.newarray .int, 2) := by decide +kernel
theorem dX4_init_46 : decode cX4_init 46 = .ok (.putfield 28, 3) := by decide +kernel
theorem dX4_init_49 : decode cX4_init 49 = .ok (.aload_n 0, 1) := by decide +kernel
theorem dX4_init_50 : decode cX4_init 50 = .ok (.bipush 8, 2) := by decide +kernel
theorem dX4_init_52 : decode cX4_init 52 = .ok (.newarray .int, 2) := by decide +kernel
theorem dX4_init_54 : decode cX4_init 54 = .ok (.putfield 31, 3) := by decide +kernel
theorem dX4_init_57 : decode cX4_init 57 = .ok (.aload_n 0, 1) := by decide +kernel
theorem dX4_init_58 : decode cX4_init 58 = .ok (.iconst 0, 1) := by decide +kernel
theorem dX4_init_59 : decode cX4_init 59 = .ok (.putfield 34, 3) := by decide +kernel
theorem dX4_init_62 : decode cX4_init 62 = .ok (.aload_n 0, 1) := by decide +kernel
theorem dX4_init_63 : decode cX4_init 63 = .ok (.iconst 5, 1) := by decide +kernel
theorem dX4_init_64 : decode cX4_init 64 = .ok (.newarray .int, 2) := by decide +kernel
theorem dX4_init_66 : decode cX4_init 66 = .ok (.putfield 37, 3) := by decide +kernel
theorem dX4_init_69 : decode cX4_init 69 = .ok (.aload_n 0, 1) := by decide +kernel
theorem dX4_init_70 : decode cX4_init 70 = .ok (.iconst 5, 1) := by decide +kernel
theorem dX4_init_71 : decode cX4_init 71 = .ok (.newarray .int, 2) := by decide +kernel
theorem dX4_init_73 : decode cX4_init 73 = .ok (.putfield 40, 3) := by decide +kernel
theorem dX4_init_76 : decode cX4_init 76 = .ok (.aload_n 0, 1) := by decide +kernel
theorem dX4_init_77 : decode cX4_init 77 = .ok (.iconst 5, 1) := by decide +kernel
theorem dX4_init_78 : decode cX4_init 78 = .ok (.newarray .int, 2) := by decide +kernel
theorem dX4_init_80 : decode cX4_init 80 = .ok (.putfield 43, 3) := by decide +kernel
theorem dX4_init_83 : decode cX4_init 83 = .ok (.aload_n 0, 1) := by decide +kernel
theorem dX4_init_84 : decode cX4_init 84 = .ok (.iconst 5, 1) := by decide +kernel
theorem dX4_init_85 : decode cX4_init 85 = .ok (.newarray .int, 2) := by decide +kernel
theorem dX4_init_87 : decode cX4_init 87 = .ok (.putfield 46, 3) := by decide +kernel
theorem dX4_init_90 : decode cX4_init 90 = .ok (.aload_n 0, 1) := by decide +kernel
theorem dX4_init_91 : decode cX4_init 91 = .ok (.iconst 0, 1) := by decide +kernel
theorem dX4_init_92 : decode cX4_init 92 = .ok (.putfield 49, 3) := by decide +kernel
theorem dX4_init_95 : decode cX4_init 95 = .ok (.aload_n 0, 1) := by decide +kernel
theorem dX4_init_96 : decode cX4_init 96 = .ok (.iconst 0, 1) := by decide +kernel
theorem dX4_init_97 : decode cX4_init 97 = .ok (.putfield 52, 3) := by decide +kernel
theorem dX4_init_100 : decode cX4_init 100 = .ok (.aload_n 0, 1) := by decide +kernel
theorem dX4_init_101 : decode cX4_init 101 = .ok (.iconst 3, 1) := by decide +kernel
theorem dX4_init_102 : decode cX4_init 102 = .ok (.putfield 55, 3) := by decide +kernel
theorem dX4_init_105 : decode cX4_init 105 = .ok (.return_, 1) := by decide +kernel
theorem dX4_become_0 : decode cX4_become 0 = .ok (.aload_n 1, 1) := by decide +kernel
theorem dX4_become_1 : decode cX4_become 1 = .ok (.getfield 9, 3) := by decide +kernel
theorem dX4_become_4 : decode cX4_become 4 = .ok (.iconst 0, 1) := by decide +kernel
theorem dX4_become_5 : decode cX4_become 5 = .ok (.aload_n 0, 1) := by decide +kernel
theorem dX4_become_6 : decode cX4_become 6 = .ok (.getfield 9, 3) := by decide +kernel
theorem dX4_become_9 : decode cX4_become 9 = .ok (.iconst 0, 1) := by decide +kernel
theorem dX4_become_10 : decode cX4_become 10 = .ok (.bipush 6, 2) := by decide +kernel
theorem dX4_become_12 : decode cX4_become 12 = .ok (.invokestatic 58, 3) := by decide +kernel
theorem dX4_become_15 : decode cX4_become 15 = .ok (.aload_n 1, 1) := by decide +kernel
theorem dX4_become_16 : decode cX4_become 16 = .ok (.getfield 15, 3) := by decide +kernel
theorem dX4_become_19 : decode cX4_become 19 = .ok (.iconst 0, 1) := by decide +kernel
theorem dX4_become_20 : decode cX4_become 20 = .ok (.aload_n 0, 1) := by decide +kernel
theorem dX4_become_21 : decode cX4_become 21 = .ok (.getfield 15, 3) := by decide +kernel
theorem dX4_become_24 : decode cX4_become 24 = .ok (.iconst 0, 1) := by decide +kernel
theorem dX4_become_25 : decode cX4_become 25 = .ok (.bipush 6, 2) := by decide +kernel
theorem dX4_become_27 : decode cX4_become 27 = .ok (.invokestatic 58, 3) := by decide +kernel
theorem dX4_become_30 : decode cX4_become 30 = .ok (.aload_n 1, 1) := by decide +kernel
theorem dX4_become_31 : decode cX4_become 31 = .ok (.getfield 18, 3) := by decide +kernel
theorem dX4_become_34 : decode cX4_become 34 = .ok (.iconst 0, 1) := by decide +kernel
theorem dX4_become_35 : decode cX4_become 35 = .ok (.aload_n 0, 1) := by decide +kernel
theorem dX4_become_36 : decode cX4_become 36 = .ok (.getfield 18, 3) := by decide +kernel
theorem dX4_become_39 : decode cX4_become 39 = .ok (.iconst 0, 1) := by decide +kernel
theorem dX4_become_40 : decode cX4_become 40 = .ok (.bipush 6, 2) := by decide +kernel
theorem dX4_become_42 : decode cX4_become 42 = .ok (.invokestatic 58, 3) := by decide +kernel
theorem dX4_become_45 : decode cX4_become 45 = .ok (.aload_n 0, 1) := by decide +kernel
theorem dX4_become_46 : decode cX4_become 46 = .ok (.aload_n 1, 1) := by decide +kernel
theorem dX4_become_47 : decode cX4_become 47 = .ok (.getfield 21, 3) := by decide +kernel
theorem dX4_become_50 : decode cX4_become 50 = .ok (.putfield 21, 3) := by decide +kernel
theorem dX4_become_53 : decode cX4_become 53 = .ok (.aload_n 1, 1) := by decide +kernel
theorem dX4_become_54 : decode cX4_become 54 = .ok (.getfield 25, 3) := by decide +kernel
theorem dX4_become_57 : decode cX4_become 57 = .ok (.iconst 0, 1) := by decide +kernel
theorem dX4_become_58 : decode cX4_become 58 = .ok (.aload_n 0, 1) := by decide +kernel
theorem dX4_become_59 : decode cX4_become 59 = .ok (.getfield 25, 3) := by decide +kernel
theorem dX4_become_62 : decode cX4_become 62 = .ok (.iconst 0, 1) := by decide +kernel
theorem dX4_become_63 : decode cX4_become 63 = .ok (.bipush 8, 2) := by decide +kernel
theorem dX4_become_65 : decode cX4_become 65 = .ok (.invokestatic 58, 3) := by decide +kernel
theorem dX4_become_68 : decode cX4_become 68 = .ok (.aload_n 1, 1) := by decide +kernel
theorem dX4_become_69 : decode cX4_become 69 = .ok (.getfield 28, 3) := by decide +kernel
theorem dX4_become_72 : decode cX4_become 72 = .ok (.iconst 0, 1) := by decide +kernel
theorem dX4_become_73 : decode cX4_become 73 = .ok (.aload_n 0, 1) := by decide +kernel
theorem dX4_become_74 : decode cX4_become 74 = .ok (.getfield 28, 3) := by decide +kernel
theorem dX4_become_77 : decode cX4_become 77 = .ok (.iconst 0, 1) := by decide +kernel
theorem dX4_become_78 : decode cX4_become 78 = .ok (.bipush 8, 2) := by decide +kernel
theorem dX4_become_80 : decode cX4_become 80 = .ok (.invokestatic 58, 3) := by decide +kernel
theorem dX4_become_83 : decode cX4_become 83 = .ok (.aload_n 1, 1) := by decide +kernel
theorem dX4_become_84 : decode cX4_become 84 = .ok (.getfield 31, 3) := by decide +kernel
theorem dX4_become_87 : decode cX4_become 87 = .ok (.iconst 0, 1) := by decide +kernel
theorem dX4_become_88 : decode cX4_become 88 = .ok (.aload_n 0, 1) := by decide +kernel
theorem dX4_become_89 : decode cX4_become 89 = .ok (.getfield 31, 3) := by decide +kernel
theorem dX4_become_92 : decode cX4_become 92 = .ok (.iconst 0, 1) := by decide +kernel
theorem dX4_become_93 : decode cX4_become 93 = .ok (.bipush 8, 2) := by decide +kernel
theorem dX4_become_95 : decode cX4_become 95 = .ok (.invokestatic 58, 3) := by decide +kernel
theorem dX4_become_98 : decode cX4_become 98 = .ok (.aload_n 0, 1) := by decide +kernel
theorem dX4_become_99 : decode cX4_become 99 = .ok (.aload_n 1, 1) := by decide +kernel
theorem dX4_become_100 : decode cX4_become 100 = .ok (.getfield 34, 3) := by decide +kernel
theorem dX4_become_103 : decode cX4_become 103 = .ok (.putfield 34, 3) := by decide +kernel
theorem dX4_become_106 : decode cX4_become 106 = .ok (.aload_n 1, 1) := by decide +kernel
theorem dX4_become_107 : decode cX4_become 107 = .ok (.getfield 37, 3) := by decide +kernel
theorem dX4_become_110 : decode cX4_become 110 = .ok (.iconst 0, 1) := by decide +kernel
theorem dX4_become_111 : decode cX4_become 111 = .ok (.aload_n 0, 1) := by decide +kernel
