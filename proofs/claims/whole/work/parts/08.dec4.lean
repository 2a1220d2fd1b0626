theorem dX6_fogOf_0 : decode cX6_fogOf 0 = .ok (.aload_n 0, 1) := by decide +kernel
theorem dX6_fogOf_1 : decode cX6_fogOf 1 = .ok (.iload_n 1, 1) := by decide +kernel
theorem dX6_fogOf_2 : decode cX6_fogOf 2 = .ok (.aload_n 0, 1) := by decide +kernel
theorem dX6_fogOf_3 : decode cX6_fogOf 3 = .ok (.getfield 114, 3) := by decide +kernel
theorem dX6_fogOf_6 : decode cX6_fogOf 6 = .ok (.invokevirtual 117, 3) := by decide +kernel
theorem dX6_fogOf_9 : decode cX6_fogOf 9 = .ok (.istore_n 2, 1) := by decide +kernel
theorem dX6_fogOf_10 : decode cX6_fogOf 10 = .ok (.iconst 0, 1) := by decide +kernel
theorem dX6_fogOf_11 : decode cX6_fogOf 11 = .ok (.istore_n 3, 1) := by decide +kernel
theorem dX6_fogOf_12 : decode cX6_fogOf 12 = .ok (.iload_n 3, 1) := by decide +kernel
theorem dX6_fogOf_13 : decode cX6_fogOf 13 = .ok (.aload_n 0, 1) := by decide +kernel
theorem dX6_fogOf_14 : decode cX6_fogOf 14 = .ok (.getfield 89, 3) := by decide +kernel
theorem dX6_fogOf_17 : decode cX6_fogOf 17 = .ok (.if_icmp .ge 33, 3) := by decide +kernel
theorem dX6_fogOf_20 : decode cX6_fogOf 20 = .ok (.aload_n 0, 1) := by decide +kernel
theorem dX6_fogOf_21 : decode cX6_fogOf 21 = .ok (.getfield 40, 3) := by decide +kernel
theorem dX6_fogOf_24 : decode cX6_fogOf 24 = .ok (.iload_n 3, 1) := by decide +kernel
theorem dX6_fogOf_25 : decode cX6_fogOf 25 = .ok (.iaload, 1) := by decide +kernel
theorem dX6_fogOf_26 : decode cX6_fogOf 26 = .ok (.iload_n 1, 1) := by decide +kernel
theorem dX6_fogOf_27 : decode cX6_fogOf 27 = .ok (.if_icmp .ne 15, 3) := by decide +kernel
theorem dX6_fogOf_30 : decode cX6_fogOf 30 = .ok (.iload_n 2, 1) := by decide +kernel
theorem dX6_fogOf_31 : decode cX6_fogOf 31 = .ok (.aload_n 0, 1) := by decide +kernel
theorem dX6_fogOf_32 : decode cX6_fogOf 32 = .ok (.iload_n 3, 1) := by decide +kernel
theorem dX6_fogOf_33 : decode cX6_fogOf 33 = .ok (.invokevirtual 120, 3) := by decide +kernel
theorem dX6_fogOf_36 : decode cX6_fogOf 36 = .ok (.invokestatic 96, 3) := by decide +kernel
theorem dX6_fogOf_39 : decode cX6_fogOf 39 = .ok (.goto 4, 3) := by decide +kernel
theorem dX6_fogOf_42 : decode cX6_fogOf 42 = .ok (.iload_n 2, 1) := by decide +kernel
theorem dX6_fogOf_43 : decode cX6_fogOf 43 = .ok (.istore_n 2, 1) := by decide +kernel
theorem dX6_fogOf_44 : decode cX6_fogOf 44 = .ok (.iinc 3 1, 3) := by decide +kernel
theorem dX6_fogOf_47 : decode cX6_fogOf 47 = .ok (.goto (-35), 3) := by decide +kernel
theorem dX6_fogOf_50 : decode cX6_fogOf 50 = .ok (.aload_n 0, 1) := by decide +kernel
theorem dX6_fogOf_51 : decode cX6_fogOf 51 = .ok (.getfield 49, 3) := by decide +kernel
theorem dX6_fogOf_54 : decode cX6_fogOf 54 = .ok (.iload_n 1, 1) := by decide +kernel
theorem dX6_fogOf_55 : decode cX6_fogOf 55 = .ok (.if_icmp .ne 12, 3) := by decide +kernel
theorem dX6_fogOf_58 : decode cX6_fogOf 58 = .ok (.iload_n 2, 1) := by decide +kernel
theorem dX6_fogOf_59 : decode cX6_fogOf 59 = .ok (.bipush 9, 2) := by decide +kernel
theorem dX6_fogOf_61 : decode cX6_fogOf 61 = .ok (.invokestatic 96, 3) := by decide +kernel
theorem dX6_fogOf_64 : decode cX6_fogOf 64 = .ok (.goto 4, 3) := by decide +kernel
theorem dX6_fogOf_67 : decode cX6_fogOf 67 = .ok (.iload_n 2, 1) := by decide +kernel
theorem dX6_fogOf_68 : decode cX6_fogOf 68 = .ok (.ireturn, 1) := by decide +kernel
theorem dX6_isFoggy_0 : decode cX6_isFoggy 0 = .ok (.aload_n 0, 1) := by decide +kernel
theorem dX6_isFoggy_1 : decode cX6_isFoggy 1 = .ok (.iload_n 1, 1) := by decide +kernel
theorem dX6_isFoggy_2 : decode cX6_isFoggy 2 = .ok (.invokevirtual 124, 3) := by decide +kernel
theorem dX6_isFoggy_5 : decode cX6_isFoggy 5 = .ok (.aload_n 0, 1) := by decide +kernel
theorem dX6_isFoggy_6 : decode cX6_isFoggy 6 = .ok (.getfield 74, 3) := by decide +kernel
theorem dX6_isFoggy_9 : decode cX6_isFoggy 9 = .ok (.if_icmp .lt 7, 3) := by decide +kernel
theorem dX6_isFoggy_12 : decode cX6_isFoggy 12 = .ok (.iconst 1, 1) := by decide +kernel
theorem dX6_isFoggy_13 : decode cX6_isFoggy 13 = .ok (.goto 4, 3) := by decide +kernel
theorem dX6_isFoggy_16 : decode cX6_isFoggy 16 = .ok (.iconst 0, 1) := by decide +kernel
theorem dX6_isFoggy_17 : decode cX6_isFoggy 17 = .ok (.ireturn, 1) := by decide +kernel
theorem dX6_foggyCells_0 : decode cX6_foggyCells 0 = .ok (.iconst 0, 1) := by decide +kernel
theorem dX6_foggyCells_1 : decode cX6_foggyCells 1 = .ok (.istore_n 1, 1) := by decide +kernel
theorem dX6_foggyCells_2 : decode cX6_foggyCells 2 = .ok (.iconst 0, 1) := by decide +kernel
theorem dX6_foggyCells_3 : decode cX6_foggyCells 3 = .ok (.istore_n 2, 1) := by decide +kernel
theorem dX6_foggyCells_4 : decode cX6_foggyCells 4 = .ok (.iload_n 2, 1) := by decide +kernel
theorem dX6_foggyCells_5 : decode cX6_foggyCells 5 = .ok (.bipush 24, 2) := by decide +kernel
theorem dX6_foggyCells_7 : decode cX6_foggyCells 7 = .ok (.if_icmp .ge 27, 3) := by decide +kernel
theorem dX6_foggyCells_10 : decode cX6_foggyCells 10 = .ok (.iload_n 1, 1) := by decide +kernel
theorem dX6_foggyCells_11 : decode cX6_foggyCells 11 = .ok (.aload_n 0, 1) := by decide +kernel
theorem dX6_foggyCells_12 : decode cX6_foggyCells 12 = .ok (.iload_n 2, 1) := by decide +kernel
theorem dX6_foggyCells_13 : decode cX6_foggyCells 13 = .ok (.invokevirtual 127, 3) := by decide +kernel
theorem dX6_foggyCells_16 : decode cX6_foggyCells 16 = .ok (.ifCond .eq 9, 3) := by decide +kernel
theorem dX6_foggyCells_19 : decode cX6_foggyCells 19 = .ok (.iconst 1, 1) := by decide +kernel
theorem dX6_foggyCells_20 : decode cX6_foggyCells 20 = .ok (.iload_n 2, 1) := by decide +kernel
theorem dX6_foggyCells_21 : decode cX6_foggyCells 21 = .ok (.ishl, 1) := by decide +kernel
theorem dX6_foggyCells_22 : decode cX6_foggyCells 22 = .ok (.goto 4, 3) := by decide +kernel
theorem dX6_foggyCells_25 : decode cX6_foggyCells 25 = .ok (.iconst 0, 1) := by decide +kernel
theorem dX6_foggyCells_26 : decode cX6_foggyCells 26 = .ok (.ior, 1) := by decide +kernel
theorem dX6_foggyCells_27 : decode cX6_foggyCells 27 = .ok (.istore_n 1, 1) := by decide +kernel
theorem dX6_foggyCells_28 : decode cX6_foggyCells 28 = .ok (.iinc 2 1, 3) := by decide +kernel
theorem dX6_foggyCells_31 : decode cX6_foggyCells 31 = .ok (.goto (-27), 3) := by decide +kernel
theorem dX6_foggyCells_34 : decode cX6_foggyCells 34 = .ok (.iload_n 1, 1) := by decide +kernel
theorem dX6_foggyCells_35 : decode cX6_foggyCells 35 = .ok (.ireturn, 1) := by decide +kernel
theorem dX6_pace_0 : decode cX6_pace 0 = .ok (.aload_n 0, 1) := by decide +kernel
theorem dX6_pace_1 : decode cX6_pace 1 = .ok (.getfield 31, 3) := by decide +kernel
theorem dX6_pace_4 : decode cX6_pace 4 = .ok (.iload_n 1, 1) := by decide +kernel
theorem dX6_pace_5 : decode cX6_pace 5 = .ok (.iaload, 1) := by decide +kernel
theorem dX6_pace_6 : decode cX6_pace 6 = .ok (.tableswitch 68 1 7 #[42, 42, 44, 42, 46, 57, 66], 42) := by decide +kernel
theorem dX6_pace_48 : decode cX6_pace 48 = .ok (.iconst 2, 1) := by decide +kernel
theorem dX6_pace_49 : decode cX6_pace 49 = .ok (.ireturn, 1) := by decide +kernel
theorem dX6_pace_50 : decode cX6_pace 50 = .ok (.iconst 0, 1) := by decide +kernel
theorem dX6_pace_51 : decode cX6_pace 51 = .ok (.ireturn, 1) := by decide +kernel
theorem dX6_pace_52 : decode cX6_pace 52 = .ok (.aload_n 0, 1) := by decide +kernel
theorem dX6_pace_53 : decode cX6_pace 53 = .ok (.getfield 34, 3) := by decide +kernel
theorem dX6_pace_56 : decode cX6_pace 56 = .ok (.iload_n 1, 1) := by decide +kernel
theorem dX6_pace_57 : decode cX6_pace 57 = .ok (.iaload, 1) := by decide +kernel
theorem dX6_pace_58 : decode cX6_pace 58 = .ok (.iconst 3, 1) := by decide +kernel
theorem dX6_pace_59 : decode cX6_pace 59 = .ok (.idiv, 1) := by decide +kernel
theorem dX6_pace_60 : decode cX6_pace 60 = .ok (.iconst 1, 1) := by decide +kernel
theorem dX6_pace_61 : decode cX6_pace 61 = .ok (.iadd, 1) := by decide +kernel
theorem dX6_pace_62 : decode cX6_pace 62 = .ok (.ireturn, 1) := by decide +kernel
theorem dX6_pace_63 : decode cX6_pace 63 = .ok (.aload_n 0, 1) := by decide +kernel
theorem dX6_pace_64 : decode cX6_pace 64 = .ok (.getfield 34, 3) := by decide +kernel
theorem dX6_pace_67 : decode cX6_pace 67 = .ok (.iload_n 1, 1) := by decide +kernel
theorem dX6_pace_68 : decode cX6_pace 68 = .ok (.iaload, 1) := by decide +kernel
theorem dX6_pace_69 : decode cX6_pace 69 = .ok (.iconst 3, 1) := by decide +kernel
theorem dX6_pace_70 : decode cX6_pace 70 = .ok (.idiv, 1) := by decide +kernel
theorem dX6_pace_71 : decode cX6_pace 71 = .ok (.ireturn, 1) := by decide +kernel
theorem dX6_pace_72 : decode cX6_pace 72 = .ok (.iconst 3, 1) := by decide +kernel
theorem dX6_pace_73 : decode cX6_pace 73 = .ok (.ireturn, 1) := by decide +kernel
theorem dX6_pace_74 : decode cX6_pace 74 = .ok (.iconst 1, 1) := by decide +kernel
theorem dX6_pace_75 : decode cX6_pace 75 = .ok (.ireturn, 1) := by decide +kernel
theorem dX6_grabs_0 : decode cX6_grabs 0 = .ok (.aload_n 0, 1) := by decide +kernel
theorem dX6_grabs_1 : decode cX6_grabs 1 = .ok (.getfield 31, 3) := by decide +kernel
theorem dX6_grabs_4 : decode cX6_grabs 4 = .ok (.iload_n 1, 1) := by decide +kernel
theorem dX6_grabs_5 : decode cX6_grabs 5 = .ok (.iaload, 1) := by decide +kernel
theorem dX6_grabs_6 : decode cX6_grabs 6 = .ok (.tableswitch 75 1 7 #[42, 53, 75, 64, 66, 73, 53], 42) := by decide +kernel
theorem dX6_grabs_48 : decode cX6_grabs 48 = .ok (.aload_n 0, 1) := by decide +kernel
theorem dX6_grabs_49 : decode cX6_grabs 49 = .ok (.getfield 34, 3) := by decide +kernel
theorem dX6_grabs_52 : decode cX6_grabs 52 = .ok (.iload_n 1, 1) := by decide +kernel
theorem dX6_grabs_53 : decode cX6_grabs 53 = .ok (.iaload, 1) := by decide +kernel
theorem dX6_grabs_54 : decode cX6_grabs 54 = .ok (.iconst 2, 1) := by decide +kernel
theorem dX6_grabs_55 : decode cX6_grabs 55 = .ok (.idiv, 1) := by decide +kernel
theorem dX6_grabs_56 : decode cX6_grabs 56 = .ok (.iconst 1, 1) := by decide +kernel
theorem dX6_grabs_57 : decode cX6_grabs 57 = .ok (.iadd, 1) := by decide +kernel
theorem dX6_grabs_58 : decode cX6_grabs 58 = .ok (.ireturn, 1) := by decide +kernel
theorem dX6_grabs_59 : decode cX6_grabs 59 = .ok (.aload_n 0, 1) := by decide +kernel
theorem dX6_grabs_60 : decode cX6_grabs 60 = .ok (.getfield 34, 3) := by decide +kernel
theorem dX6_grabs_63 : decode cX6_grabs 63 = .ok (.iload_n 1, 1) := by decide +kernel
theorem dX6_grabs_64 : decode cX6_grabs 64 = .ok (.iaload, 1) := by decide +kernel
theorem dX6_grabs_65 : decode cX6_grabs 65 = .ok (.iconst 2, 1) := by decide +kernel
theorem dX6_grabs_66 : decode cX6_grabs 66 = .ok (.idiv, 1) := by decide +kernel
theorem dX6_grabs_67 : decode cX6_grabs 67 = .ok (.iconst 2, 1) := by decide +kernel
theorem dX6_grabs_68 : decode cX6_grabs 68 = .ok (.iadd, 1) := by decide +kernel
theorem dX6_grabs_69 : decode cX6_grabs 69 = .ok (.ireturn, 1) := by decide +kernel
theorem dX6_grabs_70 : decode cX6_grabs 70 = .ok (.iconst 3, 1) := by decide +kernel
theorem dX6_grabs_71 : decode cX6_grabs 71 = .ok (.ireturn, 1) := by decide +kernel
theorem dX6_grabs_72 : decode cX6_grabs 72 = .ok (.aload_n 0, 1) := by decide +kernel
theorem dX6_grabs_73 : decode cX6_grabs 73 = .ok (.getfield 34, 3) := by decide +kernel
theorem dX6_grabs_76 : decode cX6_grabs 76 = .ok (.iload_n 1, 1) := by decide +kernel
theorem dX6_grabs_77 : decode cX6_grabs 77 = .ok (.iaload, 1) := by decide +kernel
theorem dX6_grabs_78 : decode cX6_grabs 78 = .ok (.ireturn, 1) := by decide +kernel
theorem dX6_grabs_79 : decode cX6_grabs 79 = .ok (.iconst 0, 1) := by decide +kernel
theorem dX6_grabs_80 : decode cX6_grabs 80 = .ok (.ireturn, 1) := by decide +kernel
theorem dX6_grabs_81 : decode cX6_grabs 81 = .ok (.iconst 1, 1) := by decide +kernel
theorem dX6_grabs_82 : decode cX6_grabs 82 = .ok (.ireturn, 1) := by decide +kernel
theorem dX6_far_0 : decode cX6_far 0 = .ok (.iload_n 0, 1) := by decide +kernel
theorem dX6_far_1 : decode cX6_far 1 = .ok (.bipush 6, 2) := by decide +kernel
theorem dX6_far_3 : decode cX6_far 3 = .ok (.idiv, 1) := by decide +kernel
theorem dX6_far_4 : decode cX6_far 4 = .ok (.iload_n 1, 1) := by decide +kernel
theorem dX6_far_5 : decode cX6_far 5 = .ok (.bipush 6, 2) := by decide +kernel
theorem dX6_far_7 : decode cX6_far 7 = .ok (.idiv, 1) := by decide +kernel
theorem dX6_far_8 : decode cX6_far 8 = .ok (.invokestatic 100, 3) := by decide +kernel
theorem dX6_far_11 : decode cX6_far 11 = .ok (.iload_n 0, 1) := by decide +kernel
theorem dX6_far_12 : decode cX6_far 12 = .ok (.bipush 6, 2) := by decide +kernel
theorem dX6_far_14 : decode cX6_far 14 = .ok (.irem, 1) := by decide +kernel
theorem dX6_far_15 : decode cX6_far 15 = .ok (.iload_n 1, 1) := by decide +kernel
theorem dX6_far_16 : decode cX6_far 16 = .ok (.bipush 6, 2) := by decide +kernel
theorem dX6_far_18 : decode cX6_far 18 = .ok (.irem, 1) := by decide +kernel
theorem dX6_far_19 : decode cX6_far 19 = .ok (.invokestatic 100, 3) := by decide +kernel
theorem dX6_far_22 : decode cX6_far 22 = .ok (.iadd, 1) := by decide +kernel
theorem dX6_far_23 : decode cX6_far 23 = .ok (.ireturn, 1) := by decide +kernel
theorem dX6_goalAsChild_0 : decode cX6_goalAsChild 0 = .ok (.bipush (-9), 2) := by decide +kernel
theorem dX6_goalAsChild_2 : decode cX6_goalAsChild 2 = .ok (.istore_n 2, 1) := by decide +kernel
theorem dX6_goalAsChild_3 : decode cX6_goalAsChild 3 = .ok (.iconst 0, 1) := by decide +kernel
theorem dX6_goalAsChild_4 : decode cX6_goalAsChild 4 = .ok (.istore_n 3, 1) := by decide +kernel
theorem dX6_goalAsChild_5 : decode cX6_goalAsChild 5 = .ok (.iload_n 3, 1) := by decide +kernel
theorem dX6_goalAsChild_6 : decode cX6_goalAsChild 6 = .ok (.aload_n 0, 1) := by decide +kernel
theorem dX6_goalAsChild_7 : decode cX6_goalAsChild 7 = .ok (.getfield 86, 3) := by decide +kernel
theorem dX6_goalAsChild_10 : decode cX6_goalAsChild 10 = .ok (.if_icmp .ge 57, 3) := by decide +kernel
theorem dX6_goalAsChild_13 : decode cX6_goalAsChild 13 = .ok (.aload_n 0, 1) := by decide +kernel
theorem dX6_goalAsChild_14 : decode cX6_goalAsChild 14 = .ok (.getfield 28, 3) := by decide +kernel
theorem dX6_goalAsChild_17 : decode cX6_goalAsChild 17 = .ok (.iload_n 3, 1) := by decide +kernel
theorem dX6_goalAsChild_18 : decode cX6_goalAsChild 18 = .ok (.iaload, 1) := by decide +kernel
theorem dX6_goalAsChild_19 : decode cX6_goalAsChild 19 = .ok (.ifCond .ge 42, 3) := by decide +kernel
theorem dX6_goalAsChild_22 : decode cX6_goalAsChild 22 = .ok (.iload_n 2, 1) := by decide +kernel
theorem dX6_goalAsChild_23 : decode cX6_goalAsChild 23 = .ok (.ifCond .lt 36, 3) := by decide +kernel
theorem dX6_goalAsChild_26 : decode cX6_goalAsChild 26 = .ok (.aload_n 0, 1) := by decide +kernel
theorem dX6_goalAsChild_27 : decode cX6_goalAsChild 27 = .ok (.getfield 25, 3) := by decide +kernel
theorem dX6_goalAsChild_30 : decode cX6_goalAsChild 30 = .ok (.iload_n 3, 1) := by decide +kernel
theorem dX6_goalAsChild_31 : decode cX6_goalAsChild 31 = .ok (.iaload, 1) := by decide +kernel
theorem dX6_goalAsChild_32 : decode cX6_goalAsChild 32 = .ok (.aload_n 0, 1) := by decide +kernel
theorem dX6_goalAsChild_33 : decode cX6_goalAsChild 33 = .ok (.getfield 40, 3) := by decide +kernel
theorem dX6_goalAsChild_36 : decode cX6_goalAsChild 36 = .ok (.iload_n 1, 1) := by decide +kernel
theorem dX6_goalAsChild_37 : decode cX6_goalAsChild 37 = .ok (.iaload, 1) := by decide +kernel
theorem dX6_goalAsChild_38 : decode cX6_goalAsChild 38 = .ok (.invokestatic 130, 3) := by decide +kernel
theorem dX6_goalAsChild_41 : decode cX6_goalAsChild 41 = .ok (.aload_n 0, 1) := by decide +kernel
theorem dX6_goalAsChild_42 : decode cX6_goalAsChild 42 = .ok (.getfield 25, 3) := by decide +kernel
theorem dX6_goalAsChild_45 : decode cX6_goalAsChild 45 = .ok (.iload_n 2, 1) := by decide +kernel
theorem dX6_goalAsChild_46 : decode cX6_goalAsChild 46 = .ok (.iaload, 1) := by decide +kernel
theorem dX6_goalAsChild_47 : decode cX6_goalAsChild 47 = .ok (.aload_n 0, 1) := by decide +kernel
theorem dX6_goalAsChild_48 : decode cX6_goalAsChild 48 = .ok (.getfield 40, 3) := by decide +kernel
theorem dX6_goalAsChild_51 : decode cX6_goalAsChild 51 = .ok (.iload_n 1, 1) := by decide +kernel
theorem dX6_goalAsChild_52 : decode cX6_goalAsChild 52 = .ok (.iaload, 1) := by decide +kernel
theorem dX6_goalAsChild_53 : decode cX6_goalAsChild 53 = .ok (.invokestatic 130, 3) := by decide +kernel
theorem dX6_goalAsChild_56 : decode cX6_goalAsChild 56 = .ok (.if_icmp .ge 5, 3) := by decide +kernel
theorem dX6_goalAsChild_59 : decode cX6_goalAsChild 59 = .ok (.iload_n 3, 1) := by decide +kernel
theorem dX6_goalAsChild_60 : decode cX6_goalAsChild 60 = .ok (.istore_n 2, 1) := by decide +kernel
theorem dX6_goalAsChild_61 : decode cX6_goalAsChild 61 = .ok (.iinc 3 1, 3) := by decide +kernel
theorem dX6_goalAsChild_64 : decode cX6_goalAsChild 64 = .ok (.goto (-59), 3) := by decide +kernel
theorem dX6_goalAsChild_67 : decode cX6_goalAsChild 67 = .ok (.iload_n 2, 1) := by decide +kernel
theorem dX6_goalAsChild_68 : decode cX6_goalAsChild 68 = .ok (.ifCond .ge 12, 3) := by decide +kernel
theorem dX6_goalAsChild_71 : decode cX6_goalAsChild 71 = .ok (.aload_n 0, 1) := by decide +kernel
theorem dX6_goalAsChild_72 : decode cX6_goalAsChild 72 = .ok (.getfield 37, 3) := by decide +kernel
theorem dX6_goalAsChild_75 : decode cX6_goalAsChild 75 = .ok (.iload_n 1, 1) := by decide +kernel
theorem dX6_goalAsChild_76 : decode cX6_goalAsChild 76 = .ok (.iaload, 1) := by decide +kernel
theorem dX6_goalAsChild_77 : decode cX6_goalAsChild 77 = .ok (.goto 9, 3) := by decide +kernel
theorem dX6_goalAsChild_80 : decode cX6_goalAsChild 80 = .ok (.aload_n 0, 1) := by decide +kernel
theorem dX6_goalAsChild_81 : decode cX6_goalAsChild 81 = .ok (.getfield 25, 3) := by decide +kernel
theorem dX6_goalAsChild_84 : decode cX6_goalAsChild 84 = .ok (.iload_n 2, 1) := by decide +kernel
theorem dX6_goalAsChild_85 : decode cX6_goalAsChild 85 = .ok (.iaload, 1) := by decide +kernel
theorem dX6_goalAsChild_86 : decode cX6_goalAsChild 86 = .ok (.ireturn, 1) := by decide +kernel
theorem dX6_goalAsThief_0 : decode cX6_goalAsThief 0 = .ok (.bipush (-9), 2) := by decide +kernel
theorem dX6_goalAsThief_2 : decode cX6_goalAsThief 2 = .ok (.istore_n 2, 1) := by decide +kernel
theorem dX6_goalAsThief_3 : decode cX6_goalAsThief 3 = .ok (.iconst 0, 1) := by decide +kernel
theorem dX6_goalAsThief_4 : decode cX6_goalAsThief 4 = .ok (.istore_n 3, 1) := by decide +kernel
theorem dX6_goalAsThief_5 : decode cX6_goalAsThief 5 = .ok (.iload_n 3, 1) := by decide +kernel
theorem dX6_goalAsThief_6 : decode cX6_goalAsThief 6 = .ok (.aload_n 0, 1) := by decide +kernel
theorem dX6_goalAsThief_7 : decode cX6_goalAsThief 7 = .ok (.getfield 86, 3) := by decide +kernel
theorem dX6_goalAsThief_10 : decode cX6_goalAsThief 10 = .ok (.if_icmp .ge 40, 3) := by decide +kernel
theorem dX6_goalAsThief_13 : decode cX6_goalAsThief 13 = .ok (.aload_n 0, 1) := by decide +kernel
theorem dX6_goalAsThief_14 : decode cX6_goalAsThief 14 = .ok (.getfield 28, 3) := by decide +kernel
theorem dX6_goalAsThief_17 : decode cX6_goalAsThief 17 = .ok (.iload_n 3, 1) := by decide +kernel
theorem dX6_goalAsThief_18 : decode cX6_goalAsThief 18 = .ok (.iaload, 1) := by decide +kernel
theorem dX6_goalAsThief_19 : decode cX6_goalAsThief 19 = .ok (.iload_n 1, 1) := by decide +kernel
theorem dX6_goalAsThief_20 : decode cX6_goalAsThief 20 = .ok (.if_icmp .eq 24, 3) := by decide +kernel
theorem dX6_goalAsThief_23 : decode cX6_goalAsThief 23 = .ok (.iload_n 2, 1) := by decide +kernel
theorem dX6_goalAsThief_24 : decode cX6_goalAsThief 24 = .ok (.ifCond .lt 18, 3) := by decide +kernel
theorem dX6_goalAsThief_27 : decode cX6_goalAsThief 27 = .ok (.aload_n 0, 1) := by decide +kernel
theorem dX6_goalAsThief_28 : decode cX6_goalAsThief 28 = .ok (.getfield 22, 3) := by decide +kernel
theorem dX6_goalAsThief_31 : decode cX6_goalAsThief 31 = .ok (.iload_n 3, 1) := by decide +kernel
theorem dX6_goalAsThief_32 : decode cX6_goalAsThief 32 = .ok (.iaload, 1) := by decide +kernel
theorem dX6_goalAsThief_33 : decode cX6_goalAsThief 33 = .ok (.aload_n 0, 1) := by decide +kernel
theorem dX6_goalAsThief_34 : decode cX6_goalAsThief 34 = .ok (.getfield 22, 3) := by decide +kernel
theorem dX6_goalAsThief_37 : decode cX6_goalAsThief 37 = .ok (.iload_n 2, 1) := by decide +kernel
theorem dX6_goalAsThief_38 : decode cX6_goalAsThief 38 = .ok (.iaload, 1) := by decide +kernel
theorem dX6_goalAsThief_39 : decode cX6_goalAsThief 39 = .ok (.if_icmp .le 5, 3) := by decide +kernel
theorem dX6_goalAsThief_42 : decode cX6_goalAsThief 42 = .ok (.iload_n 3, 1) := by decide +kernel
theorem dX6_goalAsThief_43 : decode cX6_goalAsThief 43 = .ok (.istore_n 2, 1) := by decide +kernel
theorem dX6_goalAsThief_44 : decode cX6_goalAsThief 44 = .ok (.iinc 3 1, 3) := by decide +kernel
theorem dX6_goalAsThief_47 : decode cX6_goalAsThief 47 = .ok (.goto (-42), 3) := by decide +kernel
theorem dX6_goalAsThief_50 : decode cX6_goalAsThief 50 = .ok (.iload_n 2, 1) := by decide +kernel
theorem dX6_goalAsThief_51 : decode cX6_goalAsThief 51 = .ok (.ifCond .ge 11, 3) := by decide +kernel
theorem dX6_goalAsThief_54 : decode cX6_goalAsThief 54 = .ok (.aload_n 0, 1) := by decide +kernel
theorem dX6_goalAsThief_55 : decode cX6_goalAsThief 55 = .ok (.iload_n 1, 1) := by decide +kernel
theorem dX6_goalAsThief_56 : decode cX6_goalAsThief 56 = .ok (.invokevirtual 133, 3) := by decide +kernel
theorem dX6_goalAsThief_59 : decode cX6_goalAsThief 59 = .ok (.goto 9, 3) := by decide +kernel
theorem dX6_goalAsThief_62 : decode cX6_goalAsThief 62 = .ok (.aload_n 0, 1) := by decide +kernel
theorem dX6_goalAsThief_63 : decode cX6_goalAsThief 63 = .ok (.getfield 25, 3) := by decide +kernel
theorem dX6_goalAsThief_66 : decode cX6_goalAsThief 66 = .ok (.iload_n 2, 1) := by decide +kernel
theorem dX6_goalAsThief_67 : decode cX6_goalAsThief 67 = .ok (.iaload, 1) := by decide +kernel
theorem dX6_goalAsThief_68 : decode cX6_goalAsThief 68 = .ok (.ireturn, 1) := by decide +kernel
theorem dX6_goalAsLawyer_0 : decode cX6_goalAsLawyer 0 = .ok (.iconst 0, 1) := by decide +kernel
theorem dX6_goalAsLawyer_1 : decode cX6_goalAsLawyer 1 = .ok (.istore_n 2, 1) := by decide +kernel
theorem dX6_goalAsLawyer_2 : decode cX6_goalAsLawyer 2 = .ok (.iconst 1, 1) := by decide +kernel
theorem dX6_goalAsLawyer_3 : decode cX6_goalAsLawyer 3 = .ok (.istore_n 3, 1) := by decide +kernel
theorem dX6_goalAsLawyer_4 : decode cX6_goalAsLawyer 4 = .ok (.iload_n 3, 1) := by decide +kernel
theorem dX6_goalAsLawyer_5 : decode cX6_goalAsLawyer 5 = .ok (.bipush 24, 2) := by decide +kernel
theorem dX6_goalAsLawyer_7 : decode cX6_goalAsLawyer 7 = .ok (.if_icmp .ge 30, 3) := by decide +kernel
theorem dX6_goalAsLawyer_10 : decode cX6_goalAsLawyer 10 = .ok (.aload_n 0, 1) := by decide +kernel
theorem dX6_goalAsLawyer_11 : decode cX6_goalAsLawyer 11 = .ok (.iload_n 3, 1) := by decide +kernel
theorem dX6_goalAsLawyer_12 : decode cX6_goalAsLawyer 12 = .ok (.iload_n 1, 1) := by decide +kernel
theorem dX6_goalAsLawyer_13 : decode cX6_goalAsLawyer 13 = .ok (.invokevirtual 117, 3) := by decide +kernel
theorem dX6_goalAsLawyer_16 : decode cX6_goalAsLawyer 16 = .ok (.aload_n 0, 1) := by decide +kernel
theorem dX6_goalAsLawyer_17 : decode cX6_goalAsLawyer 17 = .ok (.iload_n 2, 1) := by decide +kernel
theorem dX6_goalAsLawyer_18 : decode cX6_goalAsLawyer 18 = .ok (.iload_n 1, 1) := by decide +kernel
theorem dX6_goalAsLawyer_19 : decode cX6_goalAsLawyer 19 = .ok (.invokevirtual 117, 3) := by decide +kernel
theorem dX6_goalAsLawyer_22 : decode cX6_goalAsLawyer 22 = .ok (.if_icmp .le 7, 3) := by decide +kernel
theorem dX6_goalAsLawyer_25 : decode cX6_goalAsLawyer 25 = .ok (.iload_n 3, 1) := by decide +kernel
theorem dX6_goalAsLawyer_26 : decode cX6_goalAsLawyer 26 = .ok (.goto 4, 3) := by decide +kernel
theorem dX6_goalAsLawyer_29 : decode cX6_goalAsLawyer 29 = .ok (.iload_n 2, 1) := by decide +kernel
theorem dX6_goalAsLawyer_30 : decode cX6_goalAsLawyer 30 = .ok (.istore_n 2, 1) := by decide +kernel
theorem dX6_goalAsLawyer_31 : decode cX6_goalAsLawyer 31 = .ok (.iinc 3 1, 3) := by decide +kernel
theorem dX6_goalAsLawyer_34 : decode cX6_goalAsLawyer 34 = .ok (.goto (-30), 3) := by decide +kernel
theorem dX6_goalAsLawyer_37 : decode cX6_goalAsLawyer 37 = .ok (.iload_n 2, 1) := by decide +kernel
theorem dX6_goalAsLawyer_38 : decode cX6_goalAsLawyer 38 = .ok (.ireturn, 1) := by decide +kernel
theorem dX6_goal_0 : decode cX6_goal 0 = .ok (.aload_n 0, 1) := by decide +kernel
theorem dX6_goal_1 : decode cX6_goal 1 = .ok (.getfield 31, 3) := by decide +kernel
theorem dX6_goal_4 : decode cX6_goal 4 = .ok (.iload_n 1, 1) := by decide +kernel
theorem dX6_goal_5 : decode cX6_goal 5 = .ok (.iaload, 1) := by decide +kernel
theorem dX6_goal_6 : decode cX6_goal 6 = .ok (.tableswitch 81 1 7 #[42, 48, 81, 81, 54, 54, 60], 42) := by decide +kernel
theorem dX6_goal_48 : decode cX6_goal 48 = .ok (.aload_n 0, 1) := by decide +kernel
theorem dX6_goal_49 : decode cX6_goal 49 = .ok (.iload_n 1, 1) := by decide +kernel
theorem dX6_goal_50 : decode cX6_goal 50 = .ok (.invokevirtual 133, 3) := by decide +kernel
theorem dX6_goal_53 : decode cX6_goal 53 = .ok (.ireturn, 1) := by decide +kernel
theorem dX6_goal_54 : decode cX6_goal 54 = .ok (.aload_n 0, 1) := by decide +kernel
theorem dX6_goal_55 : decode cX6_goal 55 = .ok (.iload_n 1, 1) := by decide +kernel
theorem dX6_goal_56 : decode cX6_goal 56 = .ok (.invokevirtual 136, 3) := by decide +kernel
theorem dX6_goal_59 : decode cX6_goal 59 = .ok (.ireturn, 1) := by decide +kernel
theorem dX6_goal_60 : decode cX6_goal 60 = .ok (.aload_n 0, 1) := by decide +kernel
theorem dX6_goal_61 : decode cX6_goal 61 = .ok (.iload_n 2, 1) := by decide +kernel
theorem dX6_goal_62 : decode cX6_goal 62 = .ok (.invokevirtual 139, 3) := by decide +kernel
theorem dX6_goal_65 : decode cX6_goal 65 = .ok (.ireturn, 1) := by decide +kernel
theorem dX6_goal_66 : decode cX6_goal 66 = .ok (.iload_n 2, 1) := by decide +kernel
theorem dX6_goal_67 : decode cX6_goal 67 = .ok (.iconst 2, 1) := by decide +kernel
theorem dX6_goal_68 : decode cX6_goal 68 = .ok (.irem, 1) := by decide +kernel
theorem dX6_goal_69 : decode cX6_goal 69 = .ok (.ifCond .ne 11, 3) := by decide +kernel
theorem dX6_goal_72 : decode cX6_goal 72 = .ok (.aload_n 0, 1) := by decide +kernel
theorem dX6_goal_73 : decode cX6_goal 73 = .ok (.iload_n 1, 1) := by decide +kernel
theorem dX6_goal_74 : decode cX6_goal 74 = .ok (.invokevirtual 136, 3) := by decide +kernel
theorem dX6_goal_77 : decode cX6_goal 77 = .ok (.goto 9, 3) := by decide +kernel
theorem dX6_goal_80 : decode cX6_goal 80 = .ok (.aload_n 0, 1) := by decide +kernel
theorem dX6_goal_81 : decode cX6_goal 81 = .ok (.getfield 37, 3) := by decide +kernel
theorem dX6_goal_84 : decode cX6_goal 84 = .ok (.iload_n 1, 1) := by decide +kernel
theorem dX6_goal_85 : decode cX6_goal 85 = .ok (.iaload, 1) := by decide +kernel
theorem dX6_goal_86 : decode cX6_goal 86 = .ok (.ireturn, 1) := by decide +kernel
theorem dX6_goal_87 : decode cX6_goal 87 = .ok (.aload_n 0, 1) := by decide +kernel
theorem dX6_goal_88 : decode cX6_goal 88 = .ok (.getfield 37, 3) := by decide +kernel
theorem dX6_goal_91 : decode cX6_goal 91 = .ok (.iload_n 1, 1) := by decide +kernel
theorem dX6_goal_92 : decode cX6_goal 92 = .ok (.iaload, 1) := by decide +kernel
theorem dX6_goal_93 : decode cX6_goal 93 = .ok (.ireturn, 1) := by decide +kernel
theorem dX6_mayTake_0 : decode cX6_mayTake 0 = .ok (.aload_n 0, 1) := by decide +kernel
theorem dX6_mayTake_1 : decode cX6_mayTake 1 = .ok (.getfield 28, 3) := by decide +kernel
theorem dX6_mayTake_4 : decode cX6_mayTake 4 = .ok (.iload_n 2, 1) := by decide +kernel
theorem dX6_mayTake_5 : decode cX6_mayTake 5 = .ok (.iaload, 1) := by decide +kernel
theorem dX6_mayTake_6 : decode cX6_mayTake 6 = .ok (.iload_n 1, 1) := by decide +kernel
theorem dX6_mayTake_7 : decode cX6_mayTake 7 = .ok (.if_icmp .ne 5, 3) := by decide +kernel
theorem dX6_mayTake_10 : decode cX6_mayTake 10 = .ok (.iconst 0, 1) := by decide +kernel
theorem dX6_mayTake_11 : decode cX6_mayTake 11 = .ok (.ireturn, 1) := by decide +kernel
theorem dX6_mayTake_12 : decode cX6_mayTake 12 = .ok (.aload_n 0, 1) := by decide +kernel
theorem dX6_mayTake_13 : decode cX6_mayTake 13 = .ok (.getfield 28, 3) := by decide +kernel
theorem dX6_mayTake_16 : decode cX6_mayTake 16 = .ok (.iload_n 2, 1) := by decide +kernel
theorem dX6_mayTake_17 : decode cX6_mayTake 17 = .ok (.iaload, 1) := by decide +kernel
theorem dX6_mayTake_18 : decode cX6_mayTake 18 = .ok (.ifCond .ge 5, 3) := by decide +kernel
theorem dX6_mayTake_21 : decode cX6_mayTake 21 = .ok (.iconst 1, 1) := by decide +kernel
theorem dX6_mayTake_22 : decode cX6_mayTake 22 = .ok (.ireturn, 1) := by decide +kernel
theorem dX6_mayTake_23 : decode cX6_mayTake 23 = .ok (.aload_n 0, 1) := by decide +kernel
theorem dX6_mayTake_24 : decode cX6_mayTake 24 = .ok (.getfield 31, 3) := by decide +kernel
theorem dX6_mayTake_27 : decode cX6_mayTake 27 = .ok (.iload_n 1, 1) := by decide +kernel
theorem dX6_mayTake_28 : decode cX6_mayTake 28 = .ok (.iaload, 1) := by decide +kernel
theorem dX6_mayTake_29 : decode cX6_mayTake 29 = .ok (.iconst 2, 1) := by decide +kernel
theorem dX6_mayTake_30 : decode cX6_mayTake 30 = .ok (.if_icmp .ne 18, 3) := by decide +kernel
theorem dX6_mayTake_33 : decode cX6_mayTake 33 = .ok (.aload_n 0, 1) := by decide +kernel
theorem dX6_mayTake_34 : decode cX6_mayTake 34 = .ok (.getfield 22, 3) := by decide +kernel
theorem dX6_mayTake_37 : decode cX6_mayTake 37 = .ok (.iload_n 2, 1) := by decide +kernel
theorem dX6_mayTake_38 : decode cX6_mayTake 38 = .ok (.iaload, 1) := by decide +kernel
theorem dX6_mayTake_39 : decode cX6_mayTake 39 = .ok (.aload_n 0, 1) := by decide +kernel
theorem dX6_mayTake_40 : decode cX6_mayTake 40 = .ok (.getfield 34, 3) := by decide +kernel
theorem dX6_mayTake_43 : decode cX6_mayTake 43 = .ok (.iload_n 1, 1) := by decide +kernel
theorem dX6_mayTake_44 : decode cX6_mayTake 44 = .ok (.iaload, 1) := by decide +kernel
theorem dX6_mayTake_45 : decode cX6_mayTake 45 = .ok (.if_icmp .lt 29, 3) := by decide +kernel
theorem dX6_mayTake_48 : decode cX6_mayTake 48 = .ok (.aload_n 0, 1) := by decide +kernel
theorem dX6_mayTake_49 : decode cX6_mayTake 49 = .ok (.getfield 31, 3) := by decide +kernel
theorem dX6_mayTake_52 : decode cX6_mayTake 52 = .ok (.iload_n 1, 1) := by decide +kernel
theorem dX6_mayTake_53 : decode cX6_mayTake 53 = .ok (.iaload, 1) := by decide +kernel
theorem dX6_mayTake_54 : decode cX6_mayTake 54 = .ok (.bipush 7, 2) := by decide +kernel
theorem dX6_mayTake_56 : decode cX6_mayTake 56 = .ok (.if_icmp .ne 22, 3) := by decide +kernel
theorem dX6_mayTake_59 : decode cX6_mayTake 59 = .ok (.aload_n 0, 1) := by decide +kernel
theorem dX6_mayTake_60 : decode cX6_mayTake 60 = .ok (.getfield 22, 3) := by decide +kernel
theorem dX6_mayTake_63 : decode cX6_mayTake 63 = .ok (.iload_n 2, 1) := by decide +kernel
theorem dX6_mayTake_64 : decode cX6_mayTake 64 = .ok (.iaload, 1) := by decide +kernel
theorem dX6_mayTake_65 : decode cX6_mayTake 65 = .ok (.aload_n 0, 1) := by decide +kernel
theorem dX6_mayTake_66 : decode cX6_mayTake 66 = .ok (.getfield 34, 3) := by decide +kernel
theorem dX6_mayTake_69 : decode cX6_mayTake 69 = .ok (.iload_n 1, 1) := by decide +kernel
theorem dX6_mayTake_70 : decode cX6_mayTake 70 = .ok (.iaload, 1) := by decide +kernel
theorem dX6_mayTake_71 : decode cX6_mayTake 71 = .ok (.if_icmp .gt 7, 3) := by decide +kernel
theorem dX6_mayTake_74 : decode cX6_mayTake 74 = .ok (.iconst 1, 1) := by decide +kernel
theorem dX6_mayTake_75 : decode cX6_mayTake 75 = .ok (.goto 4, 3) := by decide +kernel
theorem dX6_mayTake_78 : decode cX6_mayTake 78 = .ok (.iconst 0, 1) := by decide +kernel
theorem dX6_mayTake_79 : decode cX6_mayTake 79 = .ok (.ireturn, 1) := by decide +kernel
theorem dX6_nearer_0 : decode cX6_nearer 0 = .ok (.iload_n 0, 1) := by decide +kernel
theorem dX6_nearer_1 : decode cX6_nearer 1 = .ok (.bipush 6, 2) := by decide +kernel
theorem dX6_nearer_3 : decode cX6_nearer 3 = .ok (.idiv, 1) := by decide +kernel
theorem dX6_nearer_4 : decode cX6_nearer 4 = .ok (.iload_n 1, 1) := by decide +kernel
theorem dX6_nearer_5 : decode cX6_nearer 5 = .ok (.bipush 6, 2) := by decide +kernel
theorem dX6_nearer_7 : decode cX6_nearer 7 = .ok (.idiv, 1) := by decide +kernel
theorem dX6_nearer_8 : decode cX6_nearer 8 = .ok (.if_icmp .eq 26, 3) := by decide +kernel
theorem dX6_nearer_11 : decode cX6_nearer 11 = .ok (.iload_n 0, 1) := by decide +kernel
theorem dX6_nearer_12 : decode cX6_nearer 12 = .ok (.bipush 6, 2) := by decide +kernel
theorem dX6_nearer_14 : decode cX6_nearer 14 = .ok (.idiv, 1) := by decide +kernel
theorem dX6_nearer_15 : decode cX6_nearer 15 = .ok (.iload_n 1, 1) := by decide +kernel
theorem dX6_nearer_16 : decode cX6_nearer 16 = .ok (.bipush 6, 2) := by decide +kernel
theorem dX6_nearer_18 : decode cX6_nearer 18 = .ok (.idiv, 1) := by decide +kernel
theorem dX6_nearer_19 : decode cX6_nearer 19 = .ok (.if_icmp .ge 10, 3) := by decide +kernel
theorem dX6_nearer_22 : decode cX6_nearer 22 = .ok (.iload_n 0, 1) := by decide +kernel
theorem dX6_nearer_23 : decode cX6_nearer 23 = .ok (.bipush 6, 2) := by decide +kernel
theorem dX6_nearer_25 : decode cX6_nearer 25 = .ok (.iadd, 1) := by decide +kernel
theorem dX6_nearer_26 : decode cX6_nearer 26 = .ok (.goto 7, 3) := by decide +kernel
theorem dX6_nearer_29 : decode cX6_nearer 29 = .ok (.iload_n 0, 1) := by decide +kernel
theorem dX6_nearer_30 : decode cX6_nearer 30 = .ok (.bipush 6, 2) := by decide +kernel
theorem dX6_nearer_32 : decode cX6_nearer 32 = .ok (.isub, 1) := by decide +kernel
theorem dX6_nearer_33 : decode cX6_nearer 33 = .ok (.ireturn, 1) := by decide +kernel
theorem dX6_nearer_34 : decode cX6_nearer 34 = .ok (.iload_n 0, 1) := by decide +kernel
theorem dX6_nearer_35 : decode cX6_nearer 35 = .ok (.iload_n 1, 1) := by decide +kernel
theorem dX6_nearer_36 : decode cX6_nearer 36 = .ok (.if_icmp .ne 7, 3) := by decide +kernel
theorem dX6_nearer_39 : decode cX6_nearer 39 = .ok (.iload_n 0, 1) := by decide +kernel
theorem dX6_nearer_40 : decode cX6_nearer 40 = .ok (.goto 17, 3) := by decide +kernel
theorem dX6_nearer_43 : decode cX6_nearer 43 = .ok (.iload_n 0, 1) := by decide +kernel
theorem dX6_nearer_44 : decode cX6_nearer 44 = .ok (.iload_n 1, 1) := by decide +kernel
theorem dX6_nearer_45 : decode cX6_nearer 45 = .ok (.if_icmp .ge 9, 3) := by decide +kernel
theorem dX6_nearer_48 : decode cX6_nearer 48 = .ok (.iload_n 0, 1) := by decide +kernel
theorem dX6_nearer_49 : decode cX6_nearer 49 = .ok (.iconst 1, 1) := by decide +kernel
theorem dX6_nearer_50 : decode cX6_nearer 50 = .ok (.iadd, 1) := by decide +kernel
theorem dX6_nearer_51 : decode cX6_nearer 51 = .ok (.goto 6, 3) := by decide +kernel
theorem dX6_nearer_54 : decode cX6_nearer 54 = .ok (.iload_n 0, 1) := by decide +kernel
theorem dX6_nearer_55 : decode cX6_nearer 55 = .ok (.iconst 1, 1) := by decide +kernel
theorem dX6_nearer_56 : decode cX6_nearer 56 = .ok (.isub, 1) := by decide +kernel
theorem dX6_nearer_57 : decode cX6_nearer 57 = .ok (.ireturn, 1) := by decide +kernel
theorem dX6_goesPerson_0 : decode cX6_goesPerson 0 = .ok (.aload_n 0, 1) := by decide +kernel
theorem dX6_goesPerson_1 : decode cX6_goesPerson 1 = .ok (.iload_n 1, 1) := by decide +kernel
theorem dX6_goesPerson_2 : decode cX6_goesPerson 2 = .ok (.aload_n 0, 1) := by decide +kernel
theorem dX6_goesPerson_3 : decode cX6_goesPerson 3 = .ok (.getfield 114, 3) := by decide +kernel
theorem dX6_goesPerson_6 : decode cX6_goesPerson 6 = .ok (.invokevirtual 142, 3) := by decide +kernel
theorem dX6_goesPerson_9 : decode cX6_goesPerson 9 = .ok (.istore_n 2, 1) := by decide +kernel
theorem dX6_goesPerson_10 : decode cX6_goesPerson 10 = .ok (.aload_n 0, 1) := by decide +kernel
theorem dX6_goesPerson_11 : decode cX6_goesPerson 11 = .ok (.iload_n 1, 1) := by decide +kernel
theorem dX6_goesPerson_12 : decode cX6_goesPerson 12 = .ok (.invokevirtual 145, 3) := by decide +kernel
theorem dX6_goesPerson_15 : decode cX6_goesPerson 15 = .ok (.istore_n 3, 1) := by decide +kernel
theorem dX6_goesPerson_16 : decode cX6_goesPerson 16 = .ok (.iload_n 3, 1) := by decide +kernel
theorem dX6_goesPerson_17 : decode cX6_goesPerson 17 = .ok (.ifCond .le 25, 3) := by decide +kernel
theorem dX6_goesPerson_20 : decode cX6_goesPerson 20 = .ok (.aload_n 0, 1) := by decide +kernel
theorem dX6_goesPerson_21 : decode cX6_goesPerson 21 = .ok (.getfield 40, 3) := by decide +kernel
theorem dX6_goesPerson_24 : decode cX6_goesPerson 24 = .ok (.iload_n 1, 1) := by decide +kernel
theorem dX6_goesPerson_25 : decode cX6_goesPerson 25 = .ok (.aload_n 0, 1) := by decide +kernel
theorem dX6_goesPerson_26 : decode cX6_goesPerson 26 = .ok (.getfield 40, 3) := by decide +kernel
theorem dX6_goesPerson_29 : decode cX6_goesPerson 29 = .ok (.iload_n 1, 1) := by decide +kernel
theorem dX6_goesPerson_30 : decode cX6_goesPerson 30 = .ok (.iaload, 1) := by decide +kernel
theorem dX6_goesPerson_31 : decode cX6_goesPerson 31 = .ok (.iload_n 2, 1) := by decide +kernel
theorem dX6_goesPerson_32 : decode cX6_goesPerson 32 = .ok (.invokestatic 148, 3) := by decide +kernel
theorem dX6_goesPerson_35 : decode cX6_goesPerson 35 = .ok (.iastore, 1) := by decide +kernel
theorem dX6_goesPerson_36 : decode cX6_goesPerson 36 = .ok (.iinc 3 (-1), 3) := by decide +kernel
theorem dX6_goesPerson_39 : decode cX6_goesPerson 39 = .ok (.goto (-23), 3) := by decide +kernel
theorem dX6_goesPerson_42 : decode cX6_goesPerson 42 = .ok (.aload_n 0, 1) := by decide +kernel
theorem dX6_goesPerson_43 : decode cX6_goesPerson 43 = .ok (.aload_n 0, 1) := by decide +kernel
theorem dX6_goesPerson_44 : decode cX6_goesPerson 44 = .ok (.getfield 40, 3) := by decide +kernel
theorem dX6_goesPerson_47 : decode cX6_goesPerson 47 = .ok (.iload_n 1, 1) := by decide +kernel
theorem dX6_goesPerson_48 : decode cX6_goesPerson 48 = .ok (.iaload, 1) := by decide +kernel
theorem dX6_goesPerson_49 : decode cX6_goesPerson 49 = .ok (.invokevirtual 127, 3) := by decide +kernel
theorem dX6_goesPerson_52 : decode cX6_goesPerson 52 = .ok (.ifCond .eq 11, 3) := by decide +kernel
theorem dX6_goesPerson_55 : decode cX6_goesPerson 55 = .ok (.aload_n 0, 1) := by decide +kernel
theorem dX6_goesPerson_56 : decode cX6_goesPerson 56 = .ok (.iload_n 1, 1) := by decide +kernel
theorem dX6_goesPerson_57 : decode cX6_goesPerson 57 = .ok (.invokevirtual 151, 3) := by decide +kernel
theorem dX6_goesPerson_60 : decode cX6_goesPerson 60 = .ok (.goto 4, 3) := by decide +kernel
theorem dX6_goesPerson_63 : decode cX6_goesPerson 63 = .ok (.iconst 0, 1) := by decide +kernel
theorem dX6_goesPerson_64 : decode cX6_goesPerson 64 = .ok (.istore_n 3, 1) := by decide +kernel
theorem dX6_goesPerson_65 : decode cX6_goesPerson 65 = .ok (.iconst 0, 1) := by decide +kernel
theorem dX6_goesPerson_66 : decode cX6_goesPerson 66 = .ok (.istore 4, 2) := by decide +kernel
theorem dX6_goesPerson_68 : decode cX6_goesPerson 68 = .ok (.iload 4, 2) := by decide +kernel
theorem dX6_goesPerson_70 : decode cX6_goesPerson 70 = .ok (.aload_n 0, 1) := by decide +kernel
theorem dX6_goesPerson_71 : decode cX6_goesPerson 71 = .ok (.getfield 86, 3) := by decide +kernel
theorem dX6_goesPerson_74 : decode cX6_goesPerson 74 = .ok (.if_icmp .ge 53, 3) := by decide +kernel
theorem dX6_goesPerson_77 : decode cX6_goesPerson 77 = .ok (.iload_n 3, 1) := by decide +kernel
theorem dX6_goesPerson_78 : decode cX6_goesPerson 78 = .ok (.ifCond .le 49, 3) := by decide +kernel
theorem dX6_goesPerson_81 : decode cX6_goesPerson 81 = .ok (.aload_n 0, 1) := by decide +kernel
theorem dX6_goesPerson_82 : decode cX6_goesPerson 82 = .ok (.getfield 25, 3) := by decide +kernel
theorem dX6_goesPerson_85 : decode cX6_goesPerson 85 = .ok (.iload 4, 2) := by decide +kernel
theorem dX6_goesPerson_87 : decode cX6_goesPerson 87 = .ok (.iaload, 1) := by decide +kernel
theorem dX6_goesPerson_88 : decode cX6_goesPerson 88 = .ok (.aload_n 0, 1) := by decide +kernel
theorem dX6_goesPerson_89 : decode cX6_goesPerson 89 = .ok (.getfield 40, 3) := by decide +kernel
theorem dX6_goesPerson_92 : decode cX6_goesPerson 92 = .ok (.iload_n 1, 1) := by decide +kernel
theorem dX6_goesPerson_93 : decode cX6_goesPerson 93 = .ok (.iaload, 1) := by decide +kernel
theorem dX6_goesPerson_94 : decode cX6_goesPerson 94 = .ok (.if_icmp .ne 27, 3) := by decide +kernel
theorem dX6_goesPerson_97 : decode cX6_goesPerson 97 = .ok (.aload_n 0, 1) := by decide +kernel
theorem dX6_goesPerson_98 : decode cX6_goesPerson 98 = .ok (.iload_n 1, 1) := by decide +kernel
theorem dX6_goesPerson_99 : decode cX6_goesPerson 99 = .ok (.iload 4, 2) := by decide +kernel
theorem dX6_goesPerson_101 : decode cX6_goesPerson 101 = .ok (.invokevirtual 154, 3) := by decide +kernel
theorem dX6_goesPerson_104 : decode cX6_goesPerson 104 = .ok (.ifCond .ne 6, 3) := by decide +kernel
theorem dX6_goesPerson_107 : decode cX6_goesPerson 107 = .ok (.goto 14, 3) := by decide +kernel
theorem dX6_goesPerson_110 : decode cX6_goesPerson 110 = .ok (.aload_n 0, 1) := by decide +kernel
theorem dX6_goesPerson_111 : decode cX6_goesPerson 111 = .ok (.getfield 28, 3) := by decide +kernel
theorem dX6_goesPerson_114 : decode cX6_goesPerson 114 = .ok (.iload 4, 2) := by decide +kernel
theorem dX6_goesPerson_116 : decode cX6_goesPerson 116 = .ok (.iload_n 1, 1) := by decide +kernel
theorem dX6_goesPerson_117 : decode cX6_goesPerson 117 = .ok (.iastore, 1) := by decide +kernel
theorem dX6_goesPerson_118 : decode cX6_goesPerson 118 = .ok (.iinc 3 (-1), 3) := by decide +kernel
theorem dX6_goesPerson_121 : decode cX6_goesPerson 121 = .ok (.iinc 4 1, 3) := by decide +kernel
theorem dX6_goesPerson_124 : decode cX6_goesPerson 124 = .ok (.goto (-56), 3) := by decide +kernel
theorem dX6_goesPerson_127 : decode cX6_goesPerson 127 = .ok (.return_, 1) := by decide +kernel
theorem dX6_goesHour_0 : decode cX6_goesHour 0 = .ok (.aload_n 0, 1) := by decide +kernel
theorem dX6_goesHour_1 : decode cX6_goesHour 1 = .ok (.dup, 1) := by decide +kernel
theorem dX6_goesHour_2 : decode cX6_goesHour 2 = .ok (.getfield 114, 3) := by decide +kernel
theorem dX6_goesHour_5 : decode cX6_goesHour 5 = .ok (.iconst 1, 1) := by decide +kernel
theorem dX6_goesHour_6 : decode cX6_goesHour 6 = .ok (.iadd, 1) := by decide +kernel
theorem dX6_goesHour_7 : decode cX6_goesHour 7 = .ok (.putfield 114, 3) := by decide +kernel
theorem dX6_goesHour_10 : decode cX6_goesHour 10 = .ok (.iconst 0, 1) := by decide +kernel
theorem dX6_goesHour_11 : decode cX6_goesHour 11 = .ok (.istore_n 1, 1) := by decide +kernel
theorem dX6_goesHour_12 : decode cX6_goesHour 12 = .ok (.iload_n 1, 1) := by decide +kernel
theorem dX6_goesHour_13 : decode cX6_goesHour 13 = .ok (.aload_n 0, 1) := by decide +kernel
theorem dX6_goesHour_14 : decode cX6_goesHour 14 = .ok (.getfield 86, 3) := by decide +kernel
theorem dX6_goesHour_17 : decode cX6_goesHour 17 = .ok (.if_icmp .ge 39, 3) := by decide +kernel
theorem dX6_goesHour_20 : decode cX6_goesHour 20 = .ok (.aload_n 0, 1) := by decide +kernel
theorem dX6_goesHour_21 : decode cX6_goesHour 21 = .ok (.getfield 28, 3) := by decide +kernel
theorem dX6_goesHour_24 : decode cX6_goesHour 24 = .ok (.iload_n 1, 1) := by decide +kernel
theorem dX6_goesHour_25 : decode cX6_goesHour 25 = .ok (.aload_n 0, 1) := by decide +kernel
theorem dX6_goesHour_26 : decode cX6_goesHour 26 = .ok (.aload_n 0, 1) := by decide +kernel
theorem dX6_goesHour_27 : decode cX6_goesHour 27 = .ok (.getfield 25, 3) := by decide +kernel
theorem dX6_goesHour_30 : decode cX6_goesHour 30 = .ok (.iload_n 1, 1) := by decide +kernel
theorem dX6_goesHour_31 : decode cX6_goesHour 31 = .ok (.iaload, 1) := by decide +kernel
theorem dX6_goesHour_32 : decode cX6_goesHour 32 = .ok (.invokevirtual 127, 3) := by decide +kernel
theorem dX6_goesHour_35 : decode cX6_goesHour 35 = .ok (.ifCond .eq 12, 3) := by decide +kernel
theorem dX6_goesHour_38 : decode cX6_goesHour 38 = .ok (.aload_n 0, 1) := by decide +kernel
theorem dX6_goesHour_39 : decode cX6_goesHour 39 = .ok (.getfield 28, 3) := by decide +kernel
theorem dX6_goesHour_42 : decode cX6_goesHour 42 = .ok (.iload_n 1, 1) := by decide +kernel
theorem dX6_goesHour_43 : decode cX6_goesHour 43 = .ok (.iaload, 1) := by decide +kernel
theorem dX6_goesHour_44 : decode cX6_goesHour 44 = .ok (.goto 5, 3) := by decide +kernel
theorem dX6_goesHour_47 : decode cX6_goesHour 47 = .ok (.bipush (-9), 2) := by decide +kernel
theorem dX6_goesHour_49 : decode cX6_goesHour 49 = .ok (.iastore, 1) := by decide +kernel
theorem dX6_goesHour_50 : decode cX6_goesHour 50 = .ok (.iinc 1 1, 3) := by decide +kernel
theorem dX6_goesHour_53 : decode cX6_goesHour 53 = .ok (.goto (-41), 3) := by decide +kernel
theorem dX6_goesHour_56 : decode cX6_goesHour 56 = .ok (.iconst 0, 1) := by decide +kernel
theorem dX6_goesHour_57 : decode cX6_goesHour 57 = .ok (.istore_n 1, 1) := by decide +kernel
theorem dX6_goesHour_58 : decode cX6_goesHour 58 = .ok (.iload_n 1, 1) := by decide +kernel
theorem dX6_goesHour_59 : decode cX6_goesHour 59 = .ok (.aload_n 0, 1) := by decide +kernel
theorem dX6_goesHour_60 : decode cX6_goesHour 60 = .ok (.getfield 89, 3) := by decide +kernel
theorem dX6_goesHour_63 : decode cX6_goesHour 63 = .ok (.if_icmp .ge 14, 3) := by decide +kernel
theorem dX6_goesHour_66 : decode cX6_goesHour 66 = .ok (.aload_n 0, 1) := by decide +kernel
theorem dX6_goesHour_67 : decode cX6_goesHour 67 = .ok (.iload_n 1, 1) := by decide +kernel
theorem dX6_goesHour_68 : decode cX6_goesHour 68 = .ok (.invokevirtual 158, 3) := by decide +kernel
theorem dX6_goesHour_71 : decode cX6_goesHour 71 = .ok (.iinc 1 1, 3) := by decide +kernel
theorem dX6_goesHour_74 : decode cX6_goesHour 74 = .ok (.goto (-16), 3) := by decide +kernel
theorem dX6_goesHour_77 : decode cX6_goesHour 77 = .ok (.return_, 1) := by decide +kernel
theorem dX6_goes_0 : decode cX6_goes 0 = .ok (.iconst 0, 1) := by decide +kernel
theorem dX6_goes_1 : decode cX6_goes 1 = .ok (.istore_n 2, 1) := by decide +kernel
theorem dX6_goes_2 : decode cX6_goes 2 = .ok (.iload_n 2, 1) := by decide +kernel
theorem dX6_goes_3 : decode cX6_goes 3 = .ok (.iload_n 1, 1) := by decide +kernel
theorem dX6_goes_4 : decode cX6_goes 4 = .ok (.if_icmp .ge 13, 3) := by decide +kernel
theorem dX6_goes_7 : decode cX6_goes 7 = .ok (.aload_n 0, 1) := by decide +kernel
theorem dX6_goes_8 : decode cX6_goes 8 = .ok (.invokevirtual 162, 3) := by decide +kernel
theorem dX6_goes_11 : decode cX6_goes 11 = .ok (.iinc 2 1, 3) := by decide +kernel
theorem dX6_goes_14 : decode cX6_goes 14 = .ok (.goto (-12), 3) := by decide +kernel
theorem dX6_goes_17 : decode cX6_goes 17 = .ok (.return_, 1) := by decide +kernel
theorem dX6_manyOwned_0 : decode cX6_manyOwned 0 = .ok (.iconst 0, 1) := by decide +kernel
theorem dX6_manyOwned_1 : decode cX6_manyOwned 1 = .ok (.istore_n 1, 1) := by decide +kernel
theorem dX6_manyOwned_2 : decode cX6_manyOwned 2 = .ok (.iconst 0, 1) := by decide +kernel
theorem dX6_manyOwned_3 : decode cX6_manyOwned 3 = .ok (.istore_n 2, 1) := by decide +kernel
theorem dX6_manyOwned_4 : decode cX6_manyOwned 4 = .ok (.iload_n 2, 1) := by decide +kernel
theorem dX6_manyOwned_5 : decode cX6_manyOwned 5 = .ok (.aload_n 0, 1) := by decide +kernel
theorem dX6_manyOwned_6 : decode cX6_manyOwned 6 = .ok (.getfield 86, 3) := by decide +kernel
theorem dX6_manyOwned_9 : decode cX6_manyOwned 9 = .ok (.if_icmp .ge 26, 3) := by decide +kernel
theorem dX6_manyOwned_12 : decode cX6_manyOwned 12 = .ok (.iload_n 1, 1) := by decide +kernel
theorem dX6_manyOwned_13 : decode cX6_manyOwned 13 = .ok (.aload_n 0, 1) := by decide +kernel
theorem dX6_manyOwned_14 : decode cX6_manyOwned 14 = .ok (.getfield 28, 3) := by decide +kernel
theorem dX6_manyOwned_17 : decode cX6_manyOwned 17 = .ok (.iload_n 2, 1) := by decide +kernel
theorem dX6_manyOwned_18 : decode cX6_manyOwned 18 = .ok (.iaload, 1) := by decide +kernel
theorem dX6_manyOwned_19 : decode cX6_manyOwned 19 = .ok (.ifCond .lt 7, 3) := by decide +kernel
theorem dX6_manyOwned_22 : decode cX6_manyOwned 22 = .ok (.iconst 1, 1) := by decide +kernel
theorem dX6_manyOwned_23 : decode cX6_manyOwned 23 = .ok (.goto 4, 3) := by decide +kernel
theorem dX6_manyOwned_26 : decode cX6_manyOwned 26 = .ok (.iconst 0, 1) := by decide +kernel
theorem dX6_manyOwned_27 : decode cX6_manyOwned 27 = .ok (.iadd, 1) := by decide +kernel
theorem dX6_manyOwned_28 : decode cX6_manyOwned 28 = .ok (.istore_n 1, 1) := by decide +kernel
theorem dX6_manyOwned_29 : decode cX6_manyOwned 29 = .ok (.iinc 2 1, 3) := by decide +kernel
theorem dX6_manyOwned_32 : decode cX6_manyOwned 32 = .ok (.goto (-28), 3) := by decide +kernel
theorem dX6_manyOwned_35 : decode cX6_manyOwned 35 = .ok (.iload_n 1, 1) := by decide +kernel
theorem dX6_manyOwned_36 : decode cX6_manyOwned 36 = .ok (.ireturn, 1) := by decide +kernel
theorem dX6_worthsOf_0 : decode cX6_worthsOf 0 = .ok (.iconst 0, 1) := by decide +kernel
theorem dX6_worthsOf_1 : decode cX6_worthsOf 1 = .ok (.istore_n 2, 1) := by decide +kernel
theorem dX6_worthsOf_2 : decode cX6_worthsOf 2 = .ok (.iconst 0, 1) := by decide +kernel
theorem dX6_worthsOf_3 : decode cX6_worthsOf 3 = .ok (.istore_n 3, 1) := by decide +kernel
theorem dX6_worthsOf_4 : decode cX6_worthsOf 4 = .ok (.iload_n 3, 1) := by decide +kernel
theorem dX6_worthsOf_5 : decode cX6_worthsOf 5 = .ok (.aload_n 0, 1) := by decide +kernel
theorem dX6_worthsOf_6 : decode cX6_worthsOf 6 = .ok (.getfield 86, 3) := by decide +kernel
theorem dX6_worthsOf_9 : decode cX6_worthsOf 9 = .ok (.if_icmp .ge 32, 3) := by decide +kernel
theorem dX6_worthsOf_12 : decode cX6_worthsOf 12 = .ok (.iload_n 2, 1) := by decide +kernel
theorem dX6_worthsOf_13 : decode cX6_worthsOf 13 = .ok (.aload_n 0, 1) := by decide +kernel
theorem dX6_worthsOf_14 : decode cX6_worthsOf 14 = .ok (.getfield 28, 3) := by decide +kernel
theorem dX6_worthsOf_17 : decode cX6_worthsOf 17 = .ok (.iload_n 3, 1) := by decide +kernel
theorem dX6_worthsOf_18 : decode cX6_worthsOf 18 = .ok (.iaload, 1) := by decide +kernel
theorem dX6_worthsOf_19 : decode cX6_worthsOf 19 = .ok (.iload_n 1, 1) := by decide +kernel
theorem dX6_worthsOf_20 : decode cX6_worthsOf 20 = .ok (.if_icmp .ne 12, 3) := by decide +kernel
theorem dX6_worthsOf_23 : decode cX6_worthsOf 23 = .ok (.aload_n 0, 1) := by decide +kernel
theorem dX6_worthsOf_24 : decode cX6_worthsOf 24 = .ok (.getfield 22, 3) := by decide +kernel
theorem dX6_worthsOf_27 : decode cX6_worthsOf 27 = .ok (.iload_n 3, 1) := by decide +kernel
theorem dX6_worthsOf_28 : decode cX6_worthsOf 28 = .ok (.iaload, 1) := by decide +kernel
theorem dX6_worthsOf_29 : decode cX6_worthsOf 29 = .ok (.goto 4, 3) := by decide +kernel
theorem dX6_worthsOf_32 : decode cX6_worthsOf 32 = .ok (.iconst 0, 1) := by decide +kernel
theorem dX6_worthsOf_33 : decode cX6_worthsOf 33 = .ok (.iadd, 1) := by decide +kernel
theorem dX6_worthsOf_34 : decode cX6_worthsOf 34 = .ok (.istore_n 2, 1) := by decide +kernel
theorem dX6_worthsOf_35 : decode cX6_worthsOf 35 = .ok (.iinc 3 1, 3) := by decide +kernel
theorem dX6_worthsOf_38 : decode cX6_worthsOf 38 = .ok (.goto (-34), 3) := by decide +kernel
theorem dX6_worthsOf_41 : decode cX6_worthsOf 41 = .ok (.iload_n 2, 1) := by decide +kernel
theorem dX6_worthsOf_42 : decode cX6_worthsOf 42 = .ok (.ireturn, 1) := by decide +kernel
theorem dX6_feed_0 : decode cX6_feed 0 = .ok (.iload_n 1, 1) := by decide +kernel
theorem dX6_feed_1 : decode cX6_feed 1 = .ok (.iconst 0, 1) := by decide +kernel
theorem dX6_feed_2 : decode cX6_feed 2 = .ok (.sipush 255, 3) := by decide +kernel
theorem dX6_feed_5 : decode cX6_feed 5 = .ok (.invokestatic 165, 3) := by decide +kernel
theorem dX6_feed_8 : decode cX6_feed 8 = .ok (.istore_n 2, 1) := by decide +kernel
theorem dX6_feed_9 : decode cX6_feed 9 = .ok (.iload_n 2, 1) := by decide +kernel
theorem dX6_feed_10 : decode cX6_feed 10 = .ok (.ifCond .ne 15, 3) := by decide +kernel
theorem dX6_feed_13 : decode cX6_feed 13 = .ok (.aload_n 0, 1) := by decide +kernel
theorem dX6_feed_14 : decode cX6_feed 14 = .ok (.getfield 169, 3) := by decide +kernel
theorem dX6_feed_17 : decode cX6_feed 17 = .ok (.bipush 96, 2) := by decide +kernel
theorem dX6_feed_19 : decode cX6_feed 19 = .ok (.if_icmp .ne 6, 3) := by decide +kernel
theorem dX6_feed_22 : decode cX6_feed 22 = .ok (.bipush (-6), 2) := by decide +kernel
theorem dX6_feed_24 : decode cX6_feed 24 = .ok (.istore_n 2, 1) := by decide +kernel
theorem dX6_feed_25 : decode cX6_feed 25 = .ok (.iload_n 2, 1) := by decide +kernel
theorem dX6_feed_26 : decode cX6_feed 26 = .ok (.ifCond .eq 9, 3) := by decide +kernel
theorem dX6_feed_29 : decode cX6_feed 29 = .ok (.aload_n 0, 1) := by decide +kernel
theorem dX6_feed_30 : decode cX6_feed 30 = .ok (.iload_n 2, 1) := by decide +kernel
theorem dX6_feed_31 : decode cX6_feed 31 = .ok (.invokevirtual 172, 3) := by decide +kernel
theorem dX6_feed_34 : decode cX6_feed 34 = .ok (.ireturn, 1) := by decide +kernel
theorem dX6_feed_35 : decode cX6_feed 35 = .ok (.aload_n 0, 1) := by decide +kernel
theorem dX6_feed_36 : decode cX6_feed 36 = .ok (.getfield 53, 3) := by decide +kernel
theorem dX6_feed_39 : decode cX6_feed 39 = .ok (.aload_n 0, 1) := by decide +kernel
theorem dX6_feed_40 : decode cX6_feed 40 = .ok (.getfield 169, 3) := by decide +kernel
theorem dX6_feed_43 : decode cX6_feed 43 = .ok (.iload_n 1, 1) := by decide +kernel
theorem dX6_feed_44 : decode cX6_feed 44 = .ok (.iastore, 1) := by decide +kernel
theorem dX6_feed_45 : decode cX6_feed 45 = .ok (.aload_n 0, 1) := by decide +kernel
theorem dX6_feed_46 : decode cX6_feed 46 = .ok (.dup, 1) := by decide +kernel
theorem dX6_feed_47 : decode cX6_feed 47 = .ok (.getfield 169, 3) := by decide +kernel
theorem dX6_feed_50 : decode cX6_feed 50 = .ok (.iconst 1, 1) := by decide +kernel
theorem dX6_feed_51 : decode cX6_feed 51 = .ok (.iadd, 1) := by decide +kernel
theorem dX6_feed_52 : decode cX6_feed 52 = .ok (.putfield 169, 3) := by decide +kernel
theorem dX6_feed_55 : decode cX6_feed 55 = .ok (.aload_n 0, 1) := by decide +kernel
theorem dX6_feed_56 : decode cX6_feed 56 = .ok (.getfield 169, 3) := by decide +kernel
theorem dX6_feed_59 : decode cX6_feed 59 = .ok (.ireturn, 1) := by decide +kernel
theorem dX6_sign_0 : decode cX6_sign 0 = .ok (.aload_n 0, 1) := by decide +kernel
theorem dX6_sign_1 : decode cX6_sign 1 = .ok (.getfield 175, 3) := by decide +kernel
theorem dX6_sign_4 : decode cX6_sign 4 = .ok (.aload_n 0, 1) := by decide +kernel
theorem dX6_sign_5 : decode cX6_sign 5 = .ok (.getfield 169, 3) := by decide +kernel
theorem dX6_sign_8 : decode cX6_sign 8 = .ok (.if_icmp .ge 15, 3) := by decide +kernel
theorem dX6_sign_11 : decode cX6_sign 11 = .ok (.aload_n 0, 1) := by decide +kernel
theorem dX6_sign_12 : decode cX6_sign 12 = .ok (.getfield 53, 3) := by decide +kernel
theorem dX6_sign_15 : decode cX6_sign 15 = .ok (.aload_n 0, 1) := by decide +kernel
theorem dX6_sign_16 : decode cX6_sign 16 = .ok (.getfield 175, 3) := by decide +kernel
theorem dX6_sign_19 : decode cX6_sign 19 = .ok (.iaload, 1) := by decide +kernel
theorem dX6_sign_20 : decode cX6_sign 20 = .ok (.goto 4, 3) := by decide +kernel
theorem dX6_sign_23 : decode cX6_sign 23 = .ok (.iconst (-1), 1) := by decide +kernel
theorem dX6_sign_24 : decode cX6_sign 24 = .ok (.ireturn, 1) := by decide +kernel
theorem dX6_readsDigits_0 : decode cX6_readsDigits 0 = .ok (.iconst 0, 1) := by decide +kernel
theorem dX6_readsDigits_1 : decode cX6_readsDigits 1 = .ok (.istore_n 2, 1) := by decide +kernel
theorem dX6_readsDigits_2 : decode cX6_readsDigits 2 = .ok (.iconst 0, 1) := by decide +kernel
theorem dX6_readsDigits_3 : decode cX6_readsDigits 3 = .ok (.istore_n 3, 1) := by decide +kernel
theorem dX6_readsDigits_4 : decode cX6_readsDigits 4 = .ok (.iload_n 3, 1) := by decide +kernel
theorem dX6_readsDigits_5 : decode cX6_readsDigits 5 = .ok (.iload_n 1, 1) := by decide +kernel
theorem dX6_readsDigits_6 : decode cX6_readsDigits 6 = .ok (.if_icmp .ge 48, 3) := by decide +kernel
theorem dX6_readsDigits_9 : decode cX6_readsDigits 9 = .ok (.aload_n 0, 1) := by decide +kernel
theorem dX6_readsDigits_10 : decode cX6_readsDigits 10 = .ok (.invokevirtual 178, 3) := by decide +kernel
theorem dX6_readsDigits_13 : decode cX6_readsDigits 13 = .ok (.bipush 48, 2) := by decide +kernel
theorem dX6_readsDigits_15 : decode cX6_readsDigits 15 = .ok (.bipush 57, 2) := by decide +kernel
theorem dX6_readsDigits_17 : decode cX6_readsDigits 17 = .ok (.invokestatic 82, 3) := by decide +kernel
theorem dX6_readsDigits_20 : decode cX6_readsDigits 20 = .ok (.ifCond .ne 5, 3) := by decide +kernel
theorem dX6_readsDigits_23 : decode cX6_readsDigits 23 = .ok (.iconst 0, 1) := by decide +kernel
theorem dX6_readsDigits_24 : decode cX6_readsDigits 24 = .ok (.ireturn, 1) := by decide +kernel
theorem dX6_readsDigits_25 : decode cX6_readsDigits 25 = .ok (.bipush 10, 2) := by decide +kernel
theorem dX6_readsDigits_27 : decode cX6_readsDigits 27 = .ok (.iload_n 2, 1) := by decide +kernel
theorem dX6_readsDigits_28 : decode cX6_readsDigits 28 = .ok (.imul, 1) := by decide +kernel
theorem dX6_readsDigits_29 : decode cX6_readsDigits 29 = .ok (.aload_n 0, 1) := by decide +kernel
theorem dX6_readsDigits_30 : decode cX6_readsDigits 30 = .ok (.invokevirtual 178, 3) := by decide +kernel
theorem dX6_readsDigits_33 : decode cX6_readsDigits 33 = .ok (.iadd, 1) := by decide +kernel
theorem dX6_readsDigits_34 : decode cX6_readsDigits 34 = .ok (.bipush 48, 2) := by decide +kernel
theorem dX6_readsDigits_36 : decode cX6_readsDigits 36 = .ok (.isub, 1) := by decide +kernel
theorem dX6_readsDigits_37 : decode cX6_readsDigits 37 = .ok (.istore_n 2, 1) := by decide +kernel
theorem dX6_readsDigits_38 : decode cX6_readsDigits 38 = .ok (.aload_n 0, 1) := by decide +kernel
theorem dX6_readsDigits_39 : decode cX6_readsDigits 39 = .ok (.dup, 1) := by decide +kernel
theorem dX6_readsDigits_40 : decode cX6_readsDigits 40 = .ok (.getfield 175, 3) := by decide +kernel
theorem dX6_readsDigits_43 : decode cX6_readsDigits 43 = .ok (.iconst 1, 1) := by decide +kernel
theorem dX6_readsDigits_44 : decode cX6_readsDigits 44 = .ok (.iadd, 1) := by decide +kernel
theorem dX6_readsDigits_45 : decode cX6_readsDigits 45 = .ok (.putfield 175, 3) := by decide +kernel
theorem dX6_readsDigits_48 : decode cX6_readsDigits 48 = .ok (.iinc 3 1, 3) := by decide +kernel
theorem dX6_readsDigits_51 : decode cX6_readsDigits 51 = .ok (.goto (-47), 3) := by decide +kernel
theorem dX6_readsDigits_54 : decode cX6_readsDigits 54 = .ok (.aload_n 0, 1) := by decide +kernel
theorem dX6_readsDigits_55 : decode cX6_readsDigits 55 = .ok (.getfield 62, 3) := by decide +kernel
theorem dX6_readsDigits_58 : decode cX6_readsDigits 58 = .ok (.aload_n 0, 1) := by decide +kernel
theorem dX6_readsDigits_59 : decode cX6_readsDigits 59 = .ok (.getfield 182, 3) := by decide +kernel
theorem dX6_readsDigits_62 : decode cX6_readsDigits 62 = .ok (.iload_n 2, 1) := by decide +kernel
theorem dX6_readsDigits_63 : decode cX6_readsDigits 63 = .ok (.iastore, 1) := by decide +kernel
theorem dX6_readsDigits_64 : decode cX6_readsDigits 64 = .ok (.aload_n 0, 1) := by decide +kernel
theorem dX6_readsDigits_65 : decode cX6_readsDigits 65 = .ok (.dup, 1) := by decide +kernel
theorem dX6_readsDigits_66 : decode cX6_readsDigits 66 = .ok (.getfield 182, 3) := by decide +kernel
theorem dX6_readsDigits_69 : decode cX6_readsDigits 69 = .ok (.iconst 1, 1) := by decide +kernel
theorem dX6_readsDigits_70 : decode cX6_readsDigits 70 = .ok (.iadd, 1) := by decide +kernel
theorem dX6_readsDigits_71 : decode cX6_readsDigits 71 = .ok (.putfield 182, 3) := by decide +kernel
theorem dX6_readsDigits_74 : decode cX6_readsDigits 74 = .ok (.iconst 1, 1) := by decide +kernel
theorem dX6_readsDigits_75 : decode cX6_readsDigits 75 = .ok (.ireturn, 1) := by decide +kernel
theorem dX6_readsAll_0 : decode cX6_readsAll 0 = .ok (.iload_n 1, 1) := by decide +kernel
theorem dX6_readsAll_1 : decode cX6_readsAll 1 = .ok (.tableswitch 185 102 116 #[75, 185, 185, 185, 185, 157, 185, 135, 185, 163, 105, 185, 185, 185, 135], 75) := by decide +kernel
theorem dX6_readsAll_76 : decode cX6_readsAll 76 = .ok (.aload_n 0, 1) := by decide +kernel
theorem dX6_readsAll_77 : decode cX6_readsAll 77 = .ok (.iconst 1, 1) := by decide +kernel
theorem dX6_readsAll_78 : decode cX6_readsAll 78 = .ok (.invokevirtual 185, 3) := by decide +kernel
theorem dX6_readsAll_81 : decode cX6_readsAll 81 = .ok (.ifCond .eq 23, 3) := by decide +kernel
theorem dX6_readsAll_84 : decode cX6_readsAll 84 = .ok (.aload_n 0, 1) := by decide +kernel
theorem dX6_readsAll_85 : decode cX6_readsAll 85 = .ok (.iconst 1, 1) := by decide +kernel
theorem dX6_readsAll_86 : decode cX6_readsAll 86 = .ok (.invokevirtual 185, 3) := by decide +kernel
theorem dX6_readsAll_89 : decode cX6_readsAll 89 = .ok (.ifCond .eq 15, 3) := by decide +kernel
theorem dX6_readsAll_92 : decode cX6_readsAll 92 = .ok (.aload_n 0, 1) := by decide +kernel
theorem dX6_readsAll_93 : decode cX6_readsAll 93 = .ok (.iconst 1, 1) := by decide +kernel
theorem dX6_readsAll_94 : decode cX6_readsAll 94 = .ok (.invokevirtual 185, 3) := by decide +kernel
theorem dX6_readsAll_97 : decode cX6_readsAll 97 = .ok (.ifCond .eq 7, 3) := by decide +kernel
theorem dX6_readsAll_100 : decode cX6_readsAll 100 = .ok (.iconst 1, 1) := by decide +kernel
theorem dX6_readsAll_101 : decode cX6_readsAll 101 = .ok (.goto 4, 3) := by decide +kernel
theorem dX6_readsAll_104 : decode cX6_readsAll 104 = .ok (.iconst 0, 1) := by decide +kernel
theorem dX6_readsAll_105 : decode cX6_readsAll 105 = .ok (.ireturn, 1) := by decide +kernel
theorem dX6_readsAll_106 : decode cX6_readsAll 106 = .ok (.aload_n 0, 1) := by decide +kernel
theorem dX6_readsAll_107 : decode cX6_readsAll 107 = .ok (.iconst 1, 1) := by decide +kernel
theorem dX6_readsAll_108 : decode cX6_readsAll 108 = .ok (.invokevirtual 185, 3) := by decide +kernel
theorem dX6_readsAll_111 : decode cX6_readsAll 111 = .ok (.ifCond .eq 23, 3) := by decide +kernel
theorem dX6_readsAll_114 : decode cX6_readsAll 114 = .ok (.aload_n 0, 1) := by decide +kernel
theorem dX6_readsAll_115 : decode cX6_readsAll 115 = .ok (.iconst 1, 1) := by decide +kernel
theorem dX6_readsAll_116 : decode cX6_readsAll 116 = .ok (.invokevirtual 185, 3) := by decide +kernel
theorem dX6_readsAll_119 : decode cX6_readsAll 119 = .ok (.ifCond .eq 15, 3) := by decide +kernel
theorem dX6_readsAll_122 : decode cX6_readsAll 122 = .ok (.aload_n 0, 1) := by decide +kernel
theorem dX6_readsAll_123 : decode cX6_readsAll 123 = .ok (.iconst 2, 1) := by decide +kernel
theorem dX6_readsAll_124 : decode cX6_readsAll 124 = .ok (.invokevirtual 185, 3) := by decide +kernel
theorem dX6_readsAll_127 : decode cX6_readsAll 127 = .ok (.ifCond .eq 7, 3) := by decide +kernel
theorem dX6_readsAll_130 : decode cX6_readsAll 130 = .ok (.iconst 1, 1) := by decide +kernel
theorem dX6_readsAll_131 : decode cX6_readsAll 131 = .ok (.goto 4, 3) := by decide +kernel
theorem dX6_readsAll_134 : decode cX6_readsAll 134 = .ok (.iconst 0, 1) := by decide +kernel
theorem dX6_readsAll_135 : decode cX6_readsAll 135 = .ok (.ireturn, 1) := by decide +kernel
theorem dX6_readsAll_136 : decode cX6_readsAll 136 = .ok (.aload_n 0, 1) := by decide +kernel
theorem dX6_readsAll_137 : decode cX6_readsAll 137 = .ok (.iconst 1, 1) := by decide +kernel
theorem dX6_readsAll_138 : decode cX6_readsAll 138 = .ok (.invokevirtual 185, 3) := by decide +kernel
theorem dX6_readsAll_141 : decode cX6_readsAll 141 = .ok (.ifCond .eq 15, 3) := by decide +kernel
theorem dX6_readsAll_144 : decode cX6_readsAll 144 = .ok (.aload_n 0, 1) := by decide +kernel
theorem dX6_readsAll_145 : decode cX6_readsAll 145 = .ok (.iconst 2, 1) := by decide +kernel
theorem dX6_readsAll_146 : decode cX6_readsAll 146 = .ok (.invokevirtual 185, 3) := by decide +kernel
theorem dX6_readsAll_149 : decode cX6_readsAll 149 = .ok (.ifCond .eq 7, 3) := by decide +kernel
theorem dX6_readsAll_152 : decode cX6_readsAll 152 = .ok (.iconst 1, 1) := by decide +kernel
theorem dX6_readsAll_153 : decode cX6_readsAll 153 = .ok (.goto 4, 3) := by decide +kernel
theorem dX6_readsAll_156 : decode cX6_readsAll 156 = .ok (.iconst 0, 1) := by decide +kernel
theorem dX6_readsAll_157 : decode cX6_readsAll 157 = .ok (.ireturn, 1) := by decide +kernel
theorem dX6_readsAll_158 : decode cX6_readsAll 158 = .ok (.aload_n 0, 1) := by decide +kernel
theorem dX6_readsAll_159 : decode cX6_readsAll 159 = .ok (.iconst 1, 1) := by decide +kernel
theorem dX6_readsAll_160 : decode cX6_readsAll 160 = .ok (.invokevirtual 185, 3) := by decide +kernel
theorem dX6_readsAll_163 : decode cX6_readsAll 163 = .ok (.ireturn, 1) := by decide +kernel
theorem dX6_readsAll_164 : decode cX6_readsAll 164 = .ok (.aload_n 0, 1) := by decide +kernel
theorem dX6_readsAll_165 : decode cX6_readsAll 165 = .ok (.iconst 1, 1) := by decide +kernel
theorem dX6_readsAll_166 : decode cX6_readsAll 166 = .ok (.invokevirtual 185, 3) := by decide +kernel
theorem dX6_readsAll_169 : decode cX6_readsAll 169 = .ok (.ifCond .eq 15, 3) := by decide +kernel
theorem dX6_readsAll_172 : decode cX6_readsAll 172 = .ok (.aload_n 0, 1) := by decide +kernel
theorem dX6_readsAll_173 : decode cX6_readsAll 173 = .ok (.iconst 1, 1) := by decide +kernel
theorem dX6_readsAll_174 : decode cX6_readsAll 174 = .ok (.invokevirtual 185, 3) := by decide +kernel
theorem dX6_readsAll_177 : decode cX6_readsAll 177 = .ok (.ifCond .eq 7, 3) := by decide +kernel
theorem dX6_readsAll_180 : decode cX6_readsAll 180 = .ok (.iconst 1, 1) := by decide +kernel
theorem dX6_readsAll_181 : decode cX6_readsAll 181 = .ok (.goto 4, 3) := by decide +kernel
theorem dX6_readsAll_184 : decode cX6_readsAll 184 = .ok (.iconst 0, 1) := by decide +kernel
theorem dX6_readsAll_185 : decode cX6_readsAll 185 = .ok (.ireturn, 1) := by decide +kernel
theorem dX6_readsAll_186 : decode cX6_readsAll 186 = .ok (.aload_n 0, 1) := by decide +kernel
theorem dX6_readsAll_187 : decode cX6_readsAll 187 = .ok (.iconst 2, 1) := by decide +kernel
theorem dX6_readsAll_188 : decode cX6_readsAll 188 = .ok (.invokevirtual 185, 3) := by decide +kernel
theorem dX6_readsAll_191 : decode cX6_readsAll 191 = .ok (.ireturn, 1) := by decide +kernel
theorem dX6_statement_0 : decode cX6_statement 0 = .ok (.aload_n 0, 1) := by decide +kernel
theorem dX6_statement_1 : decode cX6_statement 1 = .ok (.invokevirtual 178, 3) := by decide +kernel
theorem dX6_statement_4 : decode cX6_statement 4 = .ok (.istore_n 1, 1) := by decide +kernel
theorem dX6_statement_5 : decode cX6_statement 5 = .ok (.iload_n 1, 1) := by decide +kernel
theorem dX6_statement_6 : decode cX6_statement 6 = .ok (.bipush 102, 2) := by decide +kernel
theorem dX6_statement_8 : decode cX6_statement 8 = .ok (.if_icmp .eq 41, 3) := by decide +kernel
theorem dX6_statement_11 : decode cX6_statement 11 = .ok (.iload_n 1, 1) := by decide +kernel
theorem dX6_statement_12 : decode cX6_statement 12 = .ok (.bipush 112, 2) := by decide +kernel
theorem dX6_statement_14 : decode cX6_statement 14 = .ok (.if_icmp .eq 35, 3) := by decide +kernel
theorem dX6_statement_17 : decode cX6_statement 17 = .ok (.iload_n 1, 1) := by decide +kernel
theorem dX6_statement_18 : decode cX6_statement 18 = .ok (.bipush 116, 2) := by decide +kernel
theorem dX6_statement_20 : decode cX6_statement 20 = .ok (.if_icmp .eq 29, 3) := by decide +kernel
theorem dX6_statement_23 : decode cX6_statement 23 = .ok (.iload_n 1, 1) := by decide +kernel
theorem dX6_statement_24 : decode cX6_statement 24 = .ok (.bipush 107, 2) := by decide +kernel
theorem dX6_statement_26 : decode cX6_statement 26 = .ok (.if_icmp .eq 23, 3) := by decide +kernel
theorem dX6_statement_29 : decode cX6_statement 29 = .ok (.iload_n 1, 1) := by decide +kernel
theorem dX6_statement_30 : decode cX6_statement 30 = .ok (.bipush 111, 2) := by decide +kernel
theorem dX6_statement_32 : decode cX6_statement 32 = .ok (.if_icmp .eq 17, 3) := by decide +kernel
theorem dX6_statement_35 : decode cX6_statement 35 = .ok (.iload_n 1, 1) := by decide +kernel
theorem dX6_statement_36 : decode cX6_statement 36 = .ok (.bipush 109, 2) := by decide +kernel
theorem dX6_statement_38 : decode cX6_statement 38 = .ok (.if_icmp .eq 11, 3) := by decide +kernel
theorem dX6_statement_41 : decode cX6_statement 41 = .ok (.iload_n 1, 1) := by decide +kernel
theorem dX6_statement_42 : decode cX6_statement 42 = .ok (.bipush 104, 2) := by decide +kernel
theorem dX6_statement_44 : decode cX6_statement 44 = .ok (.if_icmp .eq 5, 3) := by decide +kernel
theorem dX6_statement_47 : decode cX6_statement 47 = .ok (.iconst 0, 1) := by decide +kernel
theorem dX6_statement_48 : decode cX6_statement 48 = .ok (.ireturn, 1) := by decide +kernel
theorem dX6_statement_49 : decode cX6_statement 49 = .ok (.aload_n 0, 1) := by decide +kernel
theorem dX6_statement_50 : decode cX6_statement 50 = .ok (.getfield 56, 3) := by decide +kernel
theorem dX6_statement_53 : decode cX6_statement 53 = .ok (.aload_n 0, 1) := by decide +kernel
theorem dX6_statement_54 : decode cX6_statement 54 = .ok (.getfield 188, 3) := by decide +kernel
theorem dX6_statement_57 : decode cX6_statement 57 = .ok (.iload_n 1, 1) := by decide +kernel
theorem dX6_statement_58 : decode cX6_statement 58 = .ok (.iastore, 1) := by decide +kernel
theorem dX6_statement_59 : decode cX6_statement 59 = .ok (.aload_n 0, 1) := by decide +kernel
theorem dX6_statement_60 : decode cX6_statement 60 = .ok (.getfield 59, 3) := by decide +kernel
theorem dX6_statement_63 : decode cX6_statement 63 = .ok (.aload_n 0, 1) := by decide +kernel
theorem dX6_statement_64 : decode cX6_statement 64 = .ok (.getfield 188, 3) := by decide +kernel
theorem dX6_statement_67 : decode cX6_statement 67 = .ok (.aload_n 0, 1) := by decide +kernel
theorem dX6_statement_68 : decode cX6_statement 68 = .ok (.getfield 175, 3) := by decide +kernel
theorem dX6_statement_71 : decode cX6_statement 71 = .ok (.iastore, 1) := by decide +kernel
theorem dX6_statement_72 : decode cX6_statement 72 = .ok (.aload_n 0, 1) := by decide +kernel
theorem dX6_statement_73 : decode cX6_statement 73 = .ok (.iconst 3, 1) := by decide +kernel
theorem dX6_statement_74 : decode cX6_statement 74 = .ok (.aload_n 0, 1) := by decide +kernel
theorem dX6_statement_75 : decode cX6_statement 75 = .ok (.getfield 188, 3) := by decide +kernel
theorem dX6_statement_78 : decode cX6_statement 78 = .ok (.imul, 1) := by decide +kernel
theorem dX6_statement_79 : decode cX6_statement 79 = .ok (.putfield 182, 3) := by decide +kernel
theorem dX6_statement_82 : decode cX6_statement 82 = .ok (.aload_n 0, 1) := by decide +kernel
theorem dX6_statement_83 : decode cX6_statement 83 = .ok (.dup, 1) := by decide +kernel
theorem dX6_statement_84 : decode cX6_statement 84 = .ok (.getfield 175, 3) := by decide +kernel
theorem dX6_statement_87 : decode cX6_statement 87 = .ok (.iconst 1, 1) := by decide +kernel
theorem dX6_statement_88 : decode cX6_statement 88 = .ok (.iadd, 1) := by decide +kernel
theorem dX6_statement_89 : decode cX6_statement 89 = .ok (.putfield 175, 3) := by decide +kernel
theorem dX6_statement_92 : decode cX6_statement 92 = .ok (.aload_n 0, 1) := by decide +kernel
theorem dX6_statement_93 : decode cX6_statement 93 = .ok (.iload_n 1, 1) := by decide +kernel
theorem dX6_statement_94 : decode cX6_statement 94 = .ok (.invokevirtual 191, 3) := by decide +kernel
theorem dX6_statement_97 : decode cX6_statement 97 = .ok (.ifCond .eq 12, 3) := by decide +kernel
theorem dX6_statement_100 : decode cX6_statement 100 = .ok (.aload_n 0, 1) := by decide +kernel
theorem dX6_statement_101 : decode cX6_statement 101 = .ok (.invokevirtual 178, 3) := by decide +kernel
theorem dX6_statement_104 : decode cX6_statement 104 = .ok (.bipush 59, 2) := by decide +kernel
theorem dX6_statement_106 : decode cX6_statement 106 = .ok (.if_icmp .eq 5, 3) := by decide +kernel
theorem dX6_statement_109 : decode cX6_statement 109 = .ok (.iconst 0, 1) := by decide +kernel
theorem dX6_statement_110 : decode cX6_statement 110 = .ok (.ireturn, 1) := by decide +kernel
theorem dX6_statement_111 : decode cX6_statement 111 = .ok (.aload_n 0, 1) := by decide +kernel
theorem dX6_statement_112 : decode cX6_statement 112 = .ok (.dup, 1) := by decide +kernel
theorem dX6_statement_113 : decode cX6_statement 113 = .ok (.getfield 175, 3) := by decide +kernel
theorem dX6_statement_116 : decode cX6_statement 116 = .ok (.iconst 1, 1) := by decide +kernel
theorem dX6_statement_117 : decode cX6_statement 117 = .ok (.iadd, 1) := by decide +kernel
theorem dX6_statement_118 : decode cX6_statement 118 = .ok (.putfield 175, 3) := by decide +kernel
theorem dX6_statement_121 : decode cX6_statement 121 = .ok (.iconst 1, 1) := by decide +kernel
theorem dX6_statement_122 : decode cX6_statement 122 = .ok (.ireturn, 1) := by decide +kernel
theorem dX6_isFrontMore_0 : decode cX6_isFrontMore 0 = .ok (.aload_n 0, 1) := by decide +kernel
theorem dX6_isFrontMore_1 : decode cX6_isFrontMore 1 = .ok (.getfield 13, 3) := by decide +kernel
theorem dX6_isFrontMore_4 : decode cX6_isFrontMore 4 = .ok (.aload_n 0, 1) := by decide +kernel
theorem dX6_isFrontMore_5 : decode cX6_isFrontMore 5 = .ok (.getfield 79, 3) := by decide +kernel
theorem dX6_isFrontMore_8 : decode cX6_isFrontMore 8 = .ok (.iload_n 1, 1) := by decide +kernel
theorem dX6_isFrontMore_9 : decode cX6_isFrontMore 9 = .ok (.iastore, 1) := by decide +kernel
theorem dX6_isFrontMore_10 : decode cX6_isFrontMore 10 = .ok (.aload_n 0, 1) := by decide +kernel
theorem dX6_isFrontMore_11 : decode cX6_isFrontMore 11 = .ok (.getfield 16, 3) := by decide +kernel
theorem dX6_isFrontMore_14 : decode cX6_isFrontMore 14 = .ok (.aload_n 0, 1) := by decide +kernel
theorem dX6_isFrontMore_15 : decode cX6_isFrontMore 15 = .ok (.getfield 79, 3) := by decide +kernel
theorem dX6_isFrontMore_18 : decode cX6_isFrontMore 18 = .ok (.iload_n 2, 1) := by decide +kernel
theorem dX6_isFrontMore_19 : decode cX6_isFrontMore 19 = .ok (.iastore, 1) := by decide +kernel
theorem dX6_isFrontMore_20 : decode cX6_isFrontMore 20 = .ok (.aload_n 0, 1) := by decide +kernel
theorem dX6_isFrontMore_21 : decode cX6_isFrontMore 21 = .ok (.getfield 19, 3) := by decide +kernel
theorem dX6_isFrontMore_24 : decode cX6_isFrontMore 24 = .ok (.aload_n 0, 1) := by decide +kernel
theorem dX6_isFrontMore_25 : decode cX6_isFrontMore 25 = .ok (.getfield 79, 3) := by decide +kernel
theorem dX6_isFrontMore_28 : decode cX6_isFrontMore 28 = .ok (.iload_n 3, 1) := by decide +kernel
theorem dX6_isFrontMore_29 : decode cX6_isFrontMore 29 = .ok (.iastore, 1) := by decide +kernel
theorem dX6_isFrontMore_30 : decode cX6_isFrontMore 30 = .ok (.aload_n 0, 1) := by decide +kernel
theorem dX6_isFrontMore_31 : decode cX6_isFrontMore 31 = .ok (.dup, 1) := by decide +kernel
theorem dX6_isFrontMore_32 : decode cX6_isFrontMore 32 = .ok (.getfield 79, 3) := by decide +kernel
theorem dX6_isFrontMore_35 : decode cX6_isFrontMore 35 = .ok (.iconst 1, 1) := by decide +kernel
theorem dX6_isFrontMore_36 : decode cX6_isFrontMore 36 = .ok (.iadd, 1) := by decide +kernel
theorem dX6_isFrontMore_37 : decode cX6_isFrontMore 37 = .ok (.putfield 79, 3) := by decide +kernel
theorem dX6_isFrontMore_40 : decode cX6_isFrontMore 40 = .ok (.return_, 1) := by decide +kernel
theorem dX6_isPersonMore_0 : decode cX6_isPersonMore 0 = .ok (.aload_n 0, 1) := by decide +kernel
theorem dX6_isPersonMore_1 : decode cX6_isPersonMore 1 = .ok (.getfield 31, 3) := by decide +kernel
theorem dX6_isPersonMore_4 : decode cX6_isPersonMore 4 = .ok (.aload_n 0, 1) := by decide +kernel
theorem dX6_isPersonMore_5 : decode cX6_isPersonMore 5 = .ok (.getfield 89, 3) := by decide +kernel
theorem dX6_isPersonMore_8 : decode cX6_isPersonMore 8 = .ok (.iload_n 1, 1) := by decide +kernel
theorem dX6_isPersonMore_9 : decode cX6_isPersonMore 9 = .ok (.iastore, 1) := by decide +kernel
theorem dX6_isPersonMore_10 : decode cX6_isPersonMore 10 = .ok (.aload_n 0, 1) := by decide +kernel
theorem dX6_isPersonMore_11 : decode cX6_isPersonMore 11 = .ok (.getfield 34, 3) := by decide +kernel
theorem dX6_isPersonMore_14 : decode cX6_isPersonMore 14 = .ok (.aload_n 0, 1) := by decide +kernel
theorem dX6_isPersonMore_15 : decode cX6_isPersonMore 15 = .ok (.getfield 89, 3) := by decide +kernel
theorem dX6_isPersonMore_18 : decode cX6_isPersonMore 18 = .ok (.iload_n 2, 1) := by decide +kernel
theorem dX6_isPersonMore_19 : decode cX6_isPersonMore 19 = .ok (.iastore, 1) := by decide +kernel
theorem dX6_isPersonMore_20 : decode cX6_isPersonMore 20 = .ok (.aload_n 0, 1) := by decide +kernel
theorem dX6_isPersonMore_21 : decode cX6_isPersonMore 21 = .ok (.getfield 37, 3) := by decide +kernel
theorem dX6_isPersonMore_24 : decode cX6_isPersonMore 24 = .ok (.aload_n 0, 1) := by decide +kernel
theorem dX6_isPersonMore_25 : decode cX6_isPersonMore 25 = .ok (.getfield 89, 3) := by decide +kernel
theorem dX6_isPersonMore_28 : decode cX6_isPersonMore 28 = .ok (.iload_n 3, 1) := by decide +kernel
theorem dX6_isPersonMore_29 : decode cX6_isPersonMore 29 = .ok (.iastore, 1) := by decide +kernel
theorem dX6_isPersonMore_30 : decode cX6_isPersonMore 30 = .ok (.aload_n 0, 1) := by decide +kernel
theorem dX6_isPersonMore_31 : decode cX6_isPersonMore 31 = .ok (.getfield 40, 3) := by decide +kernel
theorem dX6_isPersonMore_34 : decode cX6_isPersonMore 34 = .ok (.aload_n 0, 1) := by decide +kernel
theorem dX6_isPersonMore_35 : decode cX6_isPersonMore 35 = .ok (.getfield 89, 3) := by decide +kernel
theorem dX6_isPersonMore_38 : decode cX6_isPersonMore 38 = .ok (.iload_n 3, 1) := by decide +kernel
theorem dX6_isPersonMore_39 : decode cX6_isPersonMore 39 = .ok (.iastore, 1) := by decide +kernel
theorem dX6_isPersonMore_40 : decode cX6_isPersonMore 40 = .ok (.aload_n 0, 1) := by decide +kernel
theorem dX6_isPersonMore_41 : decode cX6_isPersonMore 41 = .ok (.dup, 1) := by decide +kernel
theorem dX6_isPersonMore_42 : decode cX6_isPersonMore 42 = .ok (.getfield 89, 3) := by decide +kernel
theorem dX6_isPersonMore_45 : decode cX6_isPersonMore 45 = .ok (.iconst 1, 1) := by decide +kernel
theorem dX6_isPersonMore_46 : decode cX6_isPersonMore 46 = .ok (.iadd, 1) := by decide +kernel
theorem dX6_isPersonMore_47 : decode cX6_isPersonMore 47 = .ok (.putfield 89, 3) := by decide +kernel
theorem dX6_isPersonMore_50 : decode cX6_isPersonMore 50 = .ok (.return_, 1) := by decide +kernel
theorem dX6_isThingMore_0 : decode cX6_isThingMore 0 = .ok (.aload_n 0, 1) := by decide +kernel
theorem dX6_isThingMore_1 : decode cX6_isThingMore 1 = .ok (.getfield 22, 3) := by decide +kernel
theorem dX6_isThingMore_4 : decode cX6_isThingMore 4 = .ok (.aload_n 0, 1) := by decide +kernel
theorem dX6_isThingMore_5 : decode cX6_isThingMore 5 = .ok (.getfield 86, 3) := by decide +kernel
theorem dX6_isThingMore_8 : decode cX6_isThingMore 8 = .ok (.iload_n 1, 1) := by decide +kernel
theorem dX6_isThingMore_9 : decode cX6_isThingMore 9 = .ok (.iastore, 1) := by decide +kernel
theorem dX6_isThingMore_10 : decode cX6_isThingMore 10 = .ok (.aload_n 0, 1) := by decide +kernel
theorem dX6_isThingMore_11 : decode cX6_isThingMore 11 = .ok (.getfield 25, 3) := by decide +kernel
theorem dX6_isThingMore_14 : decode cX6_isThingMore 14 = .ok (.aload_n 0, 1) := by decide +kernel
theorem dX6_isThingMore_15 : decode cX6_isThingMore 15 = .ok (.getfield 86, 3) := by decide +kernel
theorem dX6_isThingMore_18 : decode cX6_isThingMore 18 = .ok (.iload_n 2, 1) := by decide +kernel
theorem dX6_isThingMore_19 : decode cX6_isThingMore 19 = .ok (.iastore, 1) := by decide +kernel
theorem dX6_isThingMore_20 : decode cX6_isThingMore 20 = .ok (.aload_n 0, 1) := by decide +kernel
theorem dX6_isThingMore_21 : decode cX6_isThingMore 21 = .ok (.getfield 28, 3) := by decide +kernel
theorem dX6_isThingMore_24 : decode cX6_isThingMore 24 = .ok (.aload_n 0, 1) := by decide +kernel
theorem dX6_isThingMore_25 : decode cX6_isThingMore 25 = .ok (.getfield 86, 3) := by decide +kernel
theorem dX6_isThingMore_28 : decode cX6_isThingMore 28 = .ok (.bipush (-9), 2) := by decide +kernel
theorem dX6_isThingMore_30 : decode cX6_isThingMore 30 = .ok (.iastore, 1) := by decide +kernel
theorem dX6_isThingMore_31 : decode cX6_isThingMore 31 = .ok (.aload_n 0, 1) := by decide +kernel
theorem dX6_isThingMore_32 : decode cX6_isThingMore 32 = .ok (.dup, 1) := by decide +kernel
theorem dX6_isThingMore_33 : decode cX6_isThingMore 33 = .ok (.getfield 86, 3) := by decide +kernel
theorem dX6_isThingMore_36 : decode cX6_isThingMore 36 = .ok (.iconst 1, 1) := by decide +kernel
theorem dX6_isThingMore_37 : decode cX6_isThingMore 37 = .ok (.iadd, 1) := by decide +kernel
theorem dX6_isThingMore_38 : decode cX6_isThingMore 38 = .ok (.putfield 86, 3) := by decide +kernel
theorem dX6_isThingMore_41 : decode cX6_isThingMore 41 = .ok (.return_, 1) := by decide +kernel
theorem dX6_comesFront_0 : decode cX6_comesFront 0 = .ok (.aload_n 0, 1) := by decide +kernel
theorem dX6_comesFront_1 : decode cX6_comesFront 1 = .ok (.getfield 62, 3) := by decide +kernel
theorem dX6_comesFront_4 : decode cX6_comesFront 4 = .ok (.iload_n 1, 1) := by decide +kernel
theorem dX6_comesFront_5 : decode cX6_comesFront 5 = .ok (.iaload, 1) := by decide +kernel
theorem dX6_comesFront_6 : decode cX6_comesFront 6 = .ok (.bipush 7, 2) := by decide +kernel
theorem dX6_comesFront_8 : decode cX6_comesFront 8 = .ok (.if_icmp .ge 12, 3) := by decide +kernel
theorem dX6_comesFront_11 : decode cX6_comesFront 11 = .ok (.aload_n 0, 1) := by decide +kernel
theorem dX6_comesFront_12 : decode cX6_comesFront 12 = .ok (.getfield 79, 3) := by decide +kernel
theorem dX6_comesFront_15 : decode cX6_comesFront 15 = .ok (.bipush 6, 2) := by decide +kernel
theorem dX6_comesFront_17 : decode cX6_comesFront 17 = .ok (.if_icmp .ne 5, 3) := by decide +kernel
theorem dX6_comesFront_20 : decode cX6_comesFront 20 = .ok (.iconst 0, 1) := by decide +kernel
theorem dX6_comesFront_21 : decode cX6_comesFront 21 = .ok (.ireturn, 1) := by decide +kernel
theorem dX6_comesFront_22 : decode cX6_comesFront 22 = .ok (.aload_n 0, 1) := by decide +kernel
theorem dX6_comesFront_23 : decode cX6_comesFront 23 = .ok (.aload_n 0, 1) := by decide +kernel
theorem dX6_comesFront_24 : decode cX6_comesFront 24 = .ok (.getfield 62, 3) := by decide +kernel
theorem dX6_comesFront_27 : decode cX6_comesFront 27 = .ok (.iload_n 1, 1) := by decide +kernel
theorem dX6_comesFront_28 : decode cX6_comesFront 28 = .ok (.iaload, 1) := by decide +kernel
theorem dX6_comesFront_29 : decode cX6_comesFront 29 = .ok (.aload_n 0, 1) := by decide +kernel
theorem dX6_comesFront_30 : decode cX6_comesFront 30 = .ok (.getfield 62, 3) := by decide +kernel
theorem dX6_comesFront_33 : decode cX6_comesFront 33 = .ok (.iload_n 1, 1) := by decide +kernel
theorem dX6_comesFront_34 : decode cX6_comesFront 34 = .ok (.iconst 1, 1) := by decide +kernel
theorem dX6_comesFront_35 : decode cX6_comesFront 35 = .ok (.iadd, 1) := by decide +kernel
theorem dX6_comesFront_36 : decode cX6_comesFront 36 = .ok (.iaload, 1) := by decide +kernel
theorem dX6_comesFront_37 : decode cX6_comesFront 37 = .ok (.aload_n 0, 1) := by decide +kernel
theorem dX6_comesFront_38 : decode cX6_comesFront 38 = .ok (.getfield 62, 3) := by decide +kernel
theorem dX6_comesFront_41 : decode cX6_comesFront 41 = .ok (.iload_n 1, 1) := by decide +kernel
theorem dX6_comesFront_42 : decode cX6_comesFront 42 = .ok (.iconst 2, 1) := by decide +kernel
theorem dX6_comesFront_43 : decode cX6_comesFront 43 = .ok (.iadd, 1) := by decide +kernel
theorem dX6_comesFront_44 : decode cX6_comesFront 44 = .ok (.iaload, 1) := by decide +kernel
theorem dX6_comesFront_45 : decode cX6_comesFront 45 = .ok (.invokevirtual 194, 3) := by decide +kernel
theorem dX6_comesFront_48 : decode cX6_comesFront 48 = .ok (.iconst 1, 1) := by decide +kernel
theorem dX6_comesFront_49 : decode cX6_comesFront 49 = .ok (.ireturn, 1) := by decide +kernel
theorem dX6_comesPerson_0 : decode cX6_comesPerson 0 = .ok (.aload_n 0, 1) := by decide +kernel
theorem dX6_comesPerson_1 : decode cX6_comesPerson 1 = .ok (.getfield 62, 3) := by decide +kernel
theorem dX6_comesPerson_4 : decode cX6_comesPerson 4 = .ok (.iload_n 1, 1) := by decide +kernel
theorem dX6_comesPerson_5 : decode cX6_comesPerson 5 = .ok (.iaload, 1) := by decide +kernel
theorem dX6_comesPerson_6 : decode cX6_comesPerson 6 = .ok (.bipush 8, 2) := by decide +kernel
theorem dX6_comesPerson_8 : decode cX6_comesPerson 8 = .ok (.if_icmp .ge 25, 3) := by decide +kernel
theorem dX6_comesPerson_11 : decode cX6_comesPerson 11 = .ok (.aload_n 0, 1) := by decide +kernel
theorem dX6_comesPerson_12 : decode cX6_comesPerson 12 = .ok (.getfield 62, 3) := by decide +kernel
theorem dX6_comesPerson_15 : decode cX6_comesPerson 15 = .ok (.iload_n 1, 1) := by decide +kernel
theorem dX6_comesPerson_16 : decode cX6_comesPerson 16 = .ok (.iconst 2, 1) := by decide +kernel
theorem dX6_comesPerson_17 : decode cX6_comesPerson 17 = .ok (.iadd, 1) := by decide +kernel
theorem dX6_comesPerson_18 : decode cX6_comesPerson 18 = .ok (.iaload, 1) := by decide +kernel
theorem dX6_comesPerson_19 : decode cX6_comesPerson 19 = .ok (.invokestatic 198, 3) := by decide +kernel
theorem dX6_comesPerson_22 : decode cX6_comesPerson 22 = .ok (.ifCond .eq 11, 3) := by decide +kernel
theorem dX6_comesPerson_25 : decode cX6_comesPerson 25 = .ok (.aload_n 0, 1) := by decide +kernel
theorem dX6_comesPerson_26 : decode cX6_comesPerson 26 = .ok (.getfield 89, 3) := by decide +kernel
theorem dX6_comesPerson_29 : decode cX6_comesPerson 29 = .ok (.iconst 5, 1) := by decide +kernel
theorem dX6_comesPerson_30 : decode cX6_comesPerson 30 = .ok (.if_icmp .ne 5, 3) := by decide +kernel
theorem dX6_comesPerson_33 : decode cX6_comesPerson 33 = .ok (.iconst 0, 1) := by decide +kernel
theorem dX6_comesPerson_34 : decode cX6_comesPerson 34 = .ok (.ireturn, 1) := by decide +kernel
theorem dX6_comesPerson_35 : decode cX6_comesPerson 35 = .ok (.aload_n 0, 1) := by decide +kernel
theorem dX6_comesPerson_36 : decode cX6_comesPerson 36 = .ok (.aload_n 0, 1) := by decide +kernel
theorem dX6_comesPerson_37 : decode cX6_comesPerson 37 = .ok (.getfield 62, 3) := by decide +kernel
theorem dX6_comesPerson_40 : decode cX6_comesPerson 40 = .ok (.iload_n 1, 1) := by decide +kernel
theorem dX6_comesPerson_41 : decode cX6_comesPerson 41 = .ok (.iaload, 1) := by decide +kernel
theorem dX6_comesPerson_42 : decode cX6_comesPerson 42 = .ok (.aload_n 0, 1) := by decide +kernel
theorem dX6_comesPerson_43 : decode cX6_comesPerson 43 = .ok (.getfield 62, 3) := by decide +kernel
theorem dX6_comesPerson_46 : decode cX6_comesPerson 46 = .ok (.iload_n 1, 1) := by decide +kernel
theorem dX6_comesPerson_47 : decode cX6_comesPerson 47 = .ok (.iconst 1, 1) := by decide +kernel
theorem dX6_comesPerson_48 : decode cX6_comesPerson 48 = .ok (.iadd, 1) := by decide +kernel
theorem dX6_comesPerson_49 : decode cX6_comesPerson 49 = .ok (.iaload, 1) := by decide +kernel
theorem dX6_comesPerson_50 : decode cX6_comesPerson 50 = .ok (.aload_n 0, 1) := by decide +kernel
theorem dX6_comesPerson_51 : decode cX6_comesPerson 51 = .ok (.getfield 62, 3) := by decide +kernel
theorem dX6_comesPerson_54 : decode cX6_comesPerson 54 = .ok (.iload_n 1, 1) := by decide +kernel
theorem dX6_comesPerson_55 : decode cX6_comesPerson 55 = .ok (.iconst 2, 1) := by decide +kernel
theorem dX6_comesPerson_56 : decode cX6_comesPerson 56 = .ok (.iadd, 1) := by decide +kernel
theorem dX6_comesPerson_57 : decode cX6_comesPerson 57 = .ok (.iaload, 1) := by decide +kernel
theorem dX6_comesPerson_58 : decode cX6_comesPerson 58 = .ok (.invokevirtual 201, 3) := by decide +kernel
theorem dX6_comesPerson_61 : decode cX6_comesPerson 61 = .ok (.iconst 1, 1) := by decide +kernel
theorem dX6_comesPerson_62 : decode cX6_comesPerson 62 = .ok (.ireturn, 1) := by decide +kernel
theorem dX6_comesThing_0 : decode cX6_comesThing 0 = .ok (.aload_n 0, 1) := by decide +kernel
theorem dX6_comesThing_1 : decode cX6_comesThing 1 = .ok (.getfield 62, 3) := by decide +kernel
theorem dX6_comesThing_4 : decode cX6_comesThing 4 = .ok (.iload_n 1, 1) := by decide +kernel
theorem dX6_comesThing_5 : decode cX6_comesThing 5 = .ok (.iconst 1, 1) := by decide +kernel
theorem dX6_comesThing_6 : decode cX6_comesThing 6 = .ok (.iadd, 1) := by decide +kernel
theorem dX6_comesThing_7 : decode cX6_comesThing 7 = .ok (.iaload, 1) := by decide +kernel
theorem dX6_comesThing_8 : decode cX6_comesThing 8 = .ok (.invokestatic 198, 3) := by decide +kernel
theorem dX6_comesThing_11 : decode cX6_comesThing 11 = .ok (.ifCond .eq 12, 3) := by decide +kernel
theorem dX6_comesThing_14 : decode cX6_comesThing 14 = .ok (.aload_n 0, 1) := by decide +kernel
theorem dX6_comesThing_15 : decode cX6_comesThing 15 = .ok (.getfield 86, 3) := by decide +kernel
theorem dX6_comesThing_18 : decode cX6_comesThing 18 = .ok (.bipush 8, 2) := by decide +kernel
theorem dX6_comesThing_20 : decode cX6_comesThing 20 = .ok (.if_icmp .ne 5, 3) := by decide +kernel
theorem dX6_comesThing_23 : decode cX6_comesThing 23 = .ok (.iconst 0, 1) := by decide +kernel
theorem dX6_comesThing_24 : decode cX6_comesThing 24 = .ok (.ireturn, 1) := by decide +kernel
theorem dX6_comesThing_25 : decode cX6_comesThing 25 = .ok (.aload_n 0, 1) := by decide +kernel
theorem dX6_comesThing_26 : decode cX6_comesThing 26 = .ok (.aload_n 0, 1) := by decide +kernel
theorem dX6_comesThing_27 : decode cX6_comesThing 27 = .ok (.getfield 62, 3) := by decide +kernel
theorem dX6_comesThing_30 : decode cX6_comesThing 30 = .ok (.iload_n 1, 1) := by decide +kernel
theorem dX6_comesThing_31 : decode cX6_comesThing 31 = .ok (.iaload, 1) := by decide +kernel
theorem dX6_comesThing_32 : decode cX6_comesThing 32 = .ok (.aload_n 0, 1) := by decide +kernel
theorem dX6_comesThing_33 : decode cX6_comesThing 33 = .ok (.getfield 62, 3) := by decide +kernel
theorem dX6_comesThing_36 : decode cX6_comesThing 36 = .ok (.iload_n 1, 1) := by decide +kernel
theorem dX6_comesThing_37 : decode cX6_comesThing 37 = .ok (.iconst 1, 1) := by decide +kernel
theorem dX6_comesThing_38 : decode cX6_comesThing 38 = .ok (.iadd, 1) := by decide +kernel
theorem dX6_comesThing_39 : decode cX6_comesThing 39 = .ok (.iaload, 1) := by decide +kernel
theorem dX6_comesThing_40 : decode cX6_comesThing 40 = .ok (.invokevirtual 204, 3) := by decide +kernel
theorem dX6_comesThing_43 : decode cX6_comesThing 43 = .ok (.iconst 1, 1) := by decide +kernel
theorem dX6_comesThing_44 : decode cX6_comesThing 44 = .ok (.ireturn, 1) := by decide +kernel
theorem dX6_comesOwner_0 : decode cX6_comesOwner 0 = .ok (.aload_n 0, 1) := by decide +kernel
theorem dX6_comesOwner_1 : decode cX6_comesOwner 1 = .ok (.iload_n 1, 1) := by decide +kernel
theorem dX6_comesOwner_2 : decode cX6_comesOwner 2 = .ok (.invokevirtual 207, 3) := by decide +kernel
theorem dX6_comesOwner_5 : decode cX6_comesOwner 5 = .ok (.ifCond .eq 17, 3) := by decide +kernel
theorem dX6_comesOwner_8 : decode cX6_comesOwner 8 = .ok (.iload_n 2, 1) := by decide +kernel
theorem dX6_comesOwner_9 : decode cX6_comesOwner 9 = .ok (.bipush 9, 2) := by decide +kernel
theorem dX6_comesOwner_11 : decode cX6_comesOwner 11 = .ok (.if_icmp .eq 13, 3) := by decide +kernel
theorem dX6_comesOwner_14 : decode cX6_comesOwner 14 = .ok (.aload_n 0, 1) := by decide +kernel
theorem dX6_comesOwner_15 : decode cX6_comesOwner 15 = .ok (.iload_n 2, 1) := by decide +kernel
theorem dX6_comesOwner_16 : decode cX6_comesOwner 16 = .ok (.invokevirtual 92, 3) := by decide +kernel
theorem dX6_comesOwner_19 : decode cX6_comesOwner 19 = .ok (.ifCond .ne 5, 3) := by decide +kernel
theorem dX6_comesOwner_22 : decode cX6_comesOwner 22 = .ok (.iconst 0, 1) := by decide +kernel
theorem dX6_comesOwner_23 : decode cX6_comesOwner 23 = .ok (.ireturn, 1) := by decide +kernel
theorem dX6_comesOwner_24 : decode cX6_comesOwner 24 = .ok (.aload_n 0, 1) := by decide +kernel
theorem dX6_comesOwner_25 : decode cX6_comesOwner 25 = .ok (.getfield 28, 3) := by decide +kernel
theorem dX6_comesOwner_28 : decode cX6_comesOwner 28 = .ok (.iload_n 1, 1) := by decide +kernel
theorem dX6_comesOwner_29 : decode cX6_comesOwner 29 = .ok (.iload_n 2, 1) := by decide +kernel
theorem dX6_comesOwner_30 : decode cX6_comesOwner 30 = .ok (.bipush 9, 2) := by decide +kernel
theorem dX6_comesOwner_32 : decode cX6_comesOwner 32 = .ok (.if_icmp .ne 8, 3) := by decide +kernel
theorem dX6_comesOwner_35 : decode cX6_comesOwner 35 = .ok (.bipush (-9), 2) := by decide +kernel
theorem dX6_comesOwner_37 : decode cX6_comesOwner 37 = .ok (.goto 4, 3) := by decide +kernel
theorem dX6_comesOwner_40 : decode cX6_comesOwner 40 = .ok (.iload_n 2, 1) := by decide +kernel
theorem dX6_comesOwner_41 : decode cX6_comesOwner 41 = .ok (.iastore, 1) := by decide +kernel
theorem dX6_comesOwner_42 : decode cX6_comesOwner 42 = .ok (.iconst 1, 1) := by decide +kernel
theorem dX6_comesOwner_43 : decode cX6_comesOwner 43 = .ok (.ireturn, 1) := by decide +kernel
theorem dX6_comesStanding_0 : decode cX6_comesStanding 0 = .ok (.aload_n 0, 1) := by decide +kernel
theorem dX6_comesStanding_1 : decode cX6_comesStanding 1 = .ok (.iload_n 1, 1) := by decide +kernel
theorem dX6_comesStanding_2 : decode cX6_comesStanding 2 = .ok (.invokevirtual 92, 3) := by decide +kernel
theorem dX6_comesStanding_5 : decode cX6_comesStanding 5 = .ok (.ifCond .eq 10, 3) := by decide +kernel
theorem dX6_comesStanding_8 : decode cX6_comesStanding 8 = .ok (.iload_n 2, 1) := by decide +kernel
theorem dX6_comesStanding_9 : decode cX6_comesStanding 9 = .ok (.invokestatic 198, 3) := by decide +kernel
theorem dX6_comesStanding_12 : decode cX6_comesStanding 12 = .ok (.ifCond .ne 5, 3) := by decide +kernel
theorem dX6_comesStanding_15 : decode cX6_comesStanding 15 = .ok (.iconst 0, 1) := by decide +kernel
theorem dX6_comesStanding_16 : decode cX6_comesStanding 16 = .ok (.ireturn, 1) := by decide +kernel
theorem dX6_comesStanding_17 : decode cX6_comesStanding 17 = .ok (.aload_n 0, 1) := by decide +kernel
theorem dX6_comesStanding_18 : decode cX6_comesStanding 18 = .ok (.getfield 40, 3) := by decide +kernel
theorem dX6_comesStanding_21 : decode cX6_comesStanding 21 = .ok (.iload_n 1, 1) := by decide +kernel
theorem dX6_comesStanding_22 : decode cX6_comesStanding 22 = .ok (.iload_n 2, 1) := by decide +kernel
theorem dX6_comesStanding_23 : decode cX6_comesStanding 23 = .ok (.iastore, 1) := by decide +kernel
theorem dX6_comesStanding_24 : decode cX6_comesStanding 24 = .ok (.iconst 1, 1) := by decide +kernel
theorem dX6_comesStanding_25 : decode cX6_comesStanding 25 = .ok (.ireturn, 1) := by decide +kernel
theorem dX6_comesNumber_0 : decode cX6_comesNumber 0 = .ok (.iload_n 1, 1) := by decide +kernel
theorem dX6_comesNumber_1 : decode cX6_comesNumber 1 = .ok (.bipush 107, 2) := by decide +kernel
theorem dX6_comesNumber_3 : decode cX6_comesNumber 3 = .ok (.if_icmp .ne 16, 3) := by decide +kernel
theorem dX6_comesNumber_6 : decode cX6_comesNumber 6 = .ok (.iload_n 2, 1) := by decide +kernel
theorem dX6_comesNumber_7 : decode cX6_comesNumber 7 = .ok (.ifCond .ne 5, 3) := by decide +kernel
theorem dX6_comesNumber_10 : decode cX6_comesNumber 10 = .ok (.iconst 0, 1) := by decide +kernel
theorem dX6_comesNumber_11 : decode cX6_comesNumber 11 = .ok (.ireturn, 1) := by decide +kernel
theorem dX6_comesNumber_12 : decode cX6_comesNumber 12 = .ok (.aload_n 0, 1) := by decide +kernel
theorem dX6_comesNumber_13 : decode cX6_comesNumber 13 = .ok (.iload_n 2, 1) := by decide +kernel
theorem dX6_comesNumber_14 : decode cX6_comesNumber 14 = .ok (.putfield 74, 3) := by decide +kernel
theorem dX6_comesNumber_17 : decode cX6_comesNumber 17 = .ok (.iconst 1, 1) := by decide +kernel
theorem dX6_comesNumber_18 : decode cX6_comesNumber 18 = .ok (.ireturn, 1) := by decide +kernel
theorem dX6_comesNumber_19 : decode cX6_comesNumber 19 = .ok (.iload_n 2, 1) := by decide +kernel
theorem dX6_comesNumber_20 : decode cX6_comesNumber 20 = .ok (.iconst 1, 1) := by decide +kernel
theorem dX6_comesNumber_21 : decode cX6_comesNumber 21 = .ok (.bipush 60, 2) := by decide +kernel
theorem dX6_comesNumber_23 : decode cX6_comesNumber 23 = .ok (.invokestatic 82, 3) := by decide +kernel
theorem dX6_comesNumber_26 : decode cX6_comesNumber 26 = .ok (.ifCond .eq 15, 3) := by decide +kernel
theorem dX6_comesNumber_29 : decode cX6_comesNumber 29 = .ok (.aload_n 0, 1) := by decide +kernel
theorem dX6_comesNumber_30 : decode cX6_comesNumber 30 = .ok (.getfield 114, 3) := by decide +kernel
theorem dX6_comesNumber_33 : decode cX6_comesNumber 33 = .ok (.iload_n 2, 1) := by decide +kernel
theorem dX6_comesNumber_34 : decode cX6_comesNumber 34 = .ok (.iadd, 1) := by decide +kernel
theorem dX6_comesNumber_35 : decode cX6_comesNumber 35 = .ok (.sipush 999, 3) := by decide +kernel
theorem dX6_comesNumber_38 : decode cX6_comesNumber 38 = .ok (.if_icmp .le 5, 3) := by decide +kernel
theorem dX6_comesNumber_41 : decode cX6_comesNumber 41 = .ok (.iconst 0, 1) := by decide +kernel
theorem dX6_comesNumber_42 : decode cX6_comesNumber 42 = .ok (.ireturn, 1) := by decide +kernel
theorem dX6_comesNumber_43 : decode cX6_comesNumber 43 = .ok (.aload_n 0, 1) := by decide +kernel
theorem dX6_comesNumber_44 : decode cX6_comesNumber 44 = .ok (.iload_n 2, 1) := by decide +kernel
theorem dX6_comesNumber_45 : decode cX6_comesNumber 45 = .ok (.invokevirtual 210, 3) := by decide +kernel
theorem dX6_comesNumber_48 : decode cX6_comesNumber 48 = .ok (.iconst 1, 1) := by decide +kernel
theorem dX6_comesNumber_49 : decode cX6_comesNumber 49 = .ok (.ireturn, 1) := by decide +kernel
theorem dX6_comesTold_0 : decode cX6_comesTold 0 = .ok (.iconst 3, 1) := by decide +kernel
theorem dX6_comesTold_1 : decode cX6_comesTold 1 = .ok (.iload_n 1, 1) := by decide +kernel
theorem dX6_comesTold_2 : decode cX6_comesTold 2 = .ok (.imul, 1) := by decide +kernel
theorem dX6_comesTold_3 : decode cX6_comesTold 3 = .ok (.istore_n 2, 1) := by decide +kernel
theorem dX6_comesTold_4 : decode cX6_comesTold 4 = .ok (.aload_n 0, 1) := by decide +kernel
theorem dX6_comesTold_5 : decode cX6_comesTold 5 = .ok (.getfield 56, 3) := by decide +kernel
theorem dX6_comesTold_8 : decode cX6_comesTold 8 = .ok (.iload_n 1, 1) := by decide +kernel
theorem dX6_comesTold_9 : decode cX6_comesTold 9 = .ok (.iaload, 1) := by decide +kernel
theorem dX6_comesTold_10 : decode cX6_comesTold 10 = .ok (.tableswitch 130 102 116 #[74, 130, 130, 130, 130, 130, 130, 111, 130, 92, 80, 130, 130, 130, 86], 74) := by decide +kernel
theorem dX6_comesTold_84 : decode cX6_comesTold 84 = .ok (.aload_n 0, 1) := by decide +kernel
theorem dX6_comesTold_85 : decode cX6_comesTold 85 = .ok (.iload_n 2, 1) := by decide +kernel
theorem dX6_comesTold_86 : decode cX6_comesTold 86 = .ok (.invokevirtual 213, 3) := by decide +kernel
theorem dX6_comesTold_89 : decode cX6_comesTold 89 = .ok (.ireturn, 1) := by decide +kernel
theorem dX6_comesTold_90 : decode cX6_comesTold 90 = .ok (.aload_n 0, 1) := by decide +kernel
theorem dX6_comesTold_91 : decode cX6_comesTold 91 = .ok (.iload_n 2, 1) := by decide +kernel
theorem dX6_comesTold_92 : decode cX6_comesTold 92 = .ok (.invokevirtual 216, 3) := by decide +kernel
theorem dX6_comesTold_95 : decode cX6_comesTold 95 = .ok (.ireturn, 1) := by decide +kernel
theorem dX6_comesTold_96 : decode cX6_comesTold 96 = .ok (.aload_n 0, 1) := by decide +kernel
theorem dX6_comesTold_97 : decode cX6_comesTold 97 = .ok (.iload_n 2, 1) := by decide +kernel
theorem dX6_comesTold_98 : decode cX6_comesTold 98 = .ok (.invokevirtual 219, 3) := by decide +kernel
theorem dX6_comesTold_101 : decode cX6_comesTold 101 = .ok (.ireturn, 1) := by decide +kernel
theorem dX6_comesTold_102 : decode cX6_comesTold 102 = .ok (.aload_n 0, 1) := by decide +kernel
theorem dX6_comesTold_103 : decode cX6_comesTold 103 = .ok (.aload_n 0, 1) := by decide +kernel
theorem dX6_comesTold_104 : decode cX6_comesTold 104 = .ok (.getfield 62, 3) := by decide +kernel
theorem dX6_comesTold_107 : decode cX6_comesTold 107 = .ok (.iload_n 2, 1) := by decide +kernel
theorem dX6_comesTold_108 : decode cX6_comesTold 108 = .ok (.iaload, 1) := by decide +kernel
theorem dX6_comesTold_109 : decode cX6_comesTold 109 = .ok (.aload_n 0, 1) := by decide +kernel
theorem dX6_comesTold_110 : decode cX6_comesTold 110 = .ok (.getfield 62, 3) := by decide +kernel
theorem dX6_comesTold_113 : decode cX6_comesTold 113 = .ok (.iload_n 2, 1) := by decide +kernel
theorem dX6_comesTold_114 : decode cX6_comesTold 114 = .ok (.iconst 1, 1) := by decide +kernel
theorem dX6_comesTold_115 : decode cX6_comesTold 115 = .ok (.iadd, 1) := by decide +kernel
theorem dX6_comesTold_116 : decode cX6_comesTold 116 = .ok (.iaload, 1) := by decide +kernel
theorem dX6_comesTold_117 : decode cX6_comesTold 117 = .ok (.invokevirtual 222, 3) := by decide +kernel
theorem dX6_comesTold_120 : decode cX6_comesTold 120 = .ok (.ireturn, 1) := by decide +kernel
theorem dX6_comesTold_121 : decode cX6_comesTold 121 = .ok (.aload_n 0, 1) := by decide +kernel
theorem dX6_comesTold_122 : decode cX6_comesTold 122 = .ok (.aload_n 0, 1) := by decide +kernel
theorem dX6_comesTold_123 : decode cX6_comesTold 123 = .ok (.getfield 62, 3) := by decide +kernel
theorem dX6_comesTold_126 : decode cX6_comesTold 126 = .ok (.iload_n 2, 1) := by decide +kernel
theorem dX6_comesTold_127 : decode cX6_comesTold 127 = .ok (.iaload, 1) := by decide +kernel
theorem dX6_comesTold_128 : decode cX6_comesTold 128 = .ok (.aload_n 0, 1) := by decide +kernel
theorem dX6_comesTold_129 : decode cX6_comesTold 129 = .ok (.getfield 62, 3) := by decide +kernel
theorem dX6_comesTold_132 : decode cX6_comesTold 132 = .ok (.iload_n 2, 1) := by decide +kernel
theorem dX6_comesTold_133 : decode cX6_comesTold 133 = .ok (.iconst 1, 1) := by decide +kernel
theorem dX6_comesTold_134 : decode cX6_comesTold 134 = .ok (.iadd, 1) := by decide +kernel
theorem dX6_comesTold_135 : decode cX6_comesTold 135 = .ok (.iaload, 1) := by decide +kernel
theorem dX6_comesTold_136 : decode cX6_comesTold 136 = .ok (.invokevirtual 225, 3) := by decide +kernel
theorem dX6_comesTold_139 : decode cX6_comesTold 139 = .ok (.ireturn, 1) := by decide +kernel
theorem dX6_comesTold_140 : decode cX6_comesTold 140 = .ok (.aload_n 0, 1) := by decide +kernel
theorem dX6_comesTold_141 : decode cX6_comesTold 141 = .ok (.aload_n 0, 1) := by decide +kernel
theorem dX6_comesTold_142 : decode cX6_comesTold 142 = .ok (.getfield 56, 3) := by decide +kernel
theorem dX6_comesTold_145 : decode cX6_comesTold 145 = .ok (.iload_n 1, 1) := by decide +kernel
theorem dX6_comesTold_146 : decode cX6_comesTold 146 = .ok (.iaload, 1) := by decide +kernel
theorem dX6_comesTold_147 : decode cX6_comesTold 147 = .ok (.aload_n 0, 1) := by decide +kernel
theorem dX6_comesTold_148 : decode cX6_comesTold 148 = .ok (.getfield 62, 3) := by decide +kernel
theorem dX6_comesTold_151 : decode cX6_comesTold 151 = .ok (.iload_n 2, 1) := by decide +kernel
theorem dX6_comesTold_152 : decode cX6_comesTold 152 = .ok (.iaload, 1) := by decide +kernel
theorem dX6_comesTold_153 : decode cX6_comesTold 153 = .ok (.invokevirtual 228, 3) := by decide +kernel
theorem dX6_comesTold_156 : decode cX6_comesTold 156 = .ok (.ireturn, 1) := by decide +kernel
theorem dX6_coast_0 : decode cX6_coast 0 = .ok (.aload_n 0, 1) := by decide +kernel
theorem dX6_coast_1 : decode cX6_coast 1 = .ok (.iconst 0, 1) := by decide +kernel
theorem dX6_coast_2 : decode cX6_coast 2 = .ok (.putfield 175, 3) := by decide +kernel
theorem dX6_coast_5 : decode cX6_coast 5 = .ok (.aload_n 0, 1) := by decide +kernel
theorem dX6_coast_6 : decode cX6_coast 6 = .ok (.iconst 0, 1) := by decide +kernel
theorem dX6_coast_7 : decode cX6_coast 7 = .ok (.putfield 188, 3) := by decide +kernel
theorem dX6_coast_10 : decode cX6_coast 10 = .ok (.iconst 1, 1) := by decide +kernel
theorem dX6_coast_11 : decode cX6_coast 11 = .ok (.istore_n 1, 1) := by decide +kernel
theorem dX6_coast_12 : decode cX6_coast 12 = .ok (.iload_n 1, 1) := by decide +kernel
theorem dX6_coast_13 : decode cX6_coast 13 = .ok (.ifCond .eq 47, 3) := by decide +kernel
theorem dX6_coast_16 : decode cX6_coast 16 = .ok (.aload_n 0, 1) := by decide +kernel
theorem dX6_coast_17 : decode cX6_coast 17 = .ok (.getfield 175, 3) := by decide +kernel
theorem dX6_coast_20 : decode cX6_coast 20 = .ok (.aload_n 0, 1) := by decide +kernel
theorem dX6_coast_21 : decode cX6_coast 21 = .ok (.getfield 169, 3) := by decide +kernel
theorem dX6_coast_24 : decode cX6_coast 24 = .ok (.if_icmp .lt 10, 3) := by decide +kernel
theorem dX6_coast_27 : decode cX6_coast 27 = .ok (.aload_n 0, 1) := by decide +kernel
theorem dX6_coast_28 : decode cX6_coast 28 = .ok (.getfield 188, 3) := by decide +kernel
theorem dX6_coast_31 : decode cX6_coast 31 = .ok (.ifCond .ne 29, 3) := by decide +kernel
theorem dX6_coast_34 : decode cX6_coast 34 = .ok (.aload_n 0, 1) := by decide +kernel
theorem dX6_coast_35 : decode cX6_coast 35 = .ok (.invokevirtual 231, 3) := by decide +kernel
theorem dX6_coast_38 : decode cX6_coast 38 = .ok (.istore_n 1, 1) := by decide +kernel
theorem dX6_coast_39 : decode cX6_coast 39 = .ok (.aload_n 0, 1) := by decide +kernel
theorem dX6_coast_40 : decode cX6_coast 40 = .ok (.dup, 1) := by decide +kernel
theorem dX6_coast_41 : decode cX6_coast 41 = .ok (.getfield 188, 3) := by decide +kernel
theorem dX6_coast_44 : decode cX6_coast 44 = .ok (.iload_n 1, 1) := by decide +kernel
theorem dX6_coast_45 : decode cX6_coast 45 = .ok (.ifCond .eq 7, 3) := by decide +kernel
theorem dX6_coast_48 : decode cX6_coast 48 = .ok (.iconst 1, 1) := by decide +kernel
theorem dX6_coast_49 : decode cX6_coast 49 = .ok (.goto 4, 3) := by decide +kernel
theorem dX6_coast_52 : decode cX6_coast 52 = .ok (.iconst 0, 1) := by decide +kernel
theorem dX6_coast_53 : decode cX6_coast 53 = .ok (.iadd, 1) := by decide +kernel
theorem dX6_coast_54 : decode cX6_coast 54 = .ok (.putfield 188, 3) := by decide +kernel
theorem dX6_coast_57 : decode cX6_coast 57 = .ok (.goto (-45), 3) := by decide +kernel
theorem dX6_coast_60 : decode cX6_coast 60 = .ok (.aload_n 0, 1) := by decide +kernel
theorem dX6_coast_61 : decode cX6_coast 61 = .ok (.iconst 0, 1) := by decide +kernel
theorem dX6_coast_62 : decode cX6_coast 62 = .ok (.putfield 169, 3) := by decide +kernel
theorem dX6_coast_65 : decode cX6_coast 65 = .ok (.iload_n 1, 1) := by decide +kernel
theorem dX6_coast_66 : decode cX6_coast 66 = .ok (.ifCond .ne 12, 3) := by decide +kernel
theorem dX6_coast_69 : decode cX6_coast 69 = .ok (.sipush (-1000), 3) := by decide +kernel
theorem dX6_coast_72 : decode cX6_coast 72 = .ok (.aload_n 0, 1) := by decide +kernel
theorem dX6_coast_73 : decode cX6_coast 73 = .ok (.getfield 175, 3) := by decide +kernel
theorem dX6_coast_76 : decode cX6_coast 76 = .ok (.isub, 1) := by decide +kernel
theorem dX6_coast_77 : decode cX6_coast 77 = .ok (.ireturn, 1) := by decide +kernel
theorem dX6_coast_78 : decode cX6_coast 78 = .ok (.aload_n 0, 1) := by decide +kernel
theorem dX6_coast_79 : decode cX6_coast 79 = .ok (.iconst 1, 1) := by decide +kernel
theorem dX6_coast_80 : decode cX6_coast 80 = .ok (.iconst 1, 1) := by decide +kernel
theorem dX6_coast_81 : decode cX6_coast 81 = .ok (.invokevirtual 235, 3) := by decide +kernel
theorem dX6_coast_84 : decode cX6_coast 84 = .ok (.iconst 0, 1) := by decide +kernel
theorem dX6_coast_85 : decode cX6_coast 85 = .ok (.istore_n 2, 1) := by decide +kernel
theorem dX6_coast_86 : decode cX6_coast 86 = .ok (.iload_n 2, 1) := by decide +kernel
theorem dX6_coast_87 : decode cX6_coast 87 = .ok (.aload_n 0, 1) := by decide +kernel
theorem dX6_coast_88 : decode cX6_coast 88 = .ok (.getfield 188, 3) := by decide +kernel
theorem dX6_coast_91 : decode cX6_coast 91 = .ok (.if_icmp .ge 37, 3) := by decide +kernel
theorem dX6_coast_94 : decode cX6_coast 94 = .ok (.aload_n 0, 1) := by decide +kernel
theorem dX6_coast_95 : decode cX6_coast 95 = .ok (.iload_n 2, 1) := by decide +kernel
theorem dX6_coast_96 : decode cX6_coast 96 = .ok (.invokevirtual 239, 3) := by decide +kernel
theorem dX6_coast_99 : decode cX6_coast 99 = .ok (.ifCond .eq 6, 3) := by decide +kernel
theorem dX6_coast_102 : decode cX6_coast 102 = .ok (.goto 20, 3) := by decide +kernel
theorem dX6_coast_105 : decode cX6_coast 105 = .ok (.aload_n 0, 1) := by decide +kernel
theorem dX6_coast_106 : decode cX6_coast 106 = .ok (.iconst 1, 1) := by decide +kernel
theorem dX6_coast_107 : decode cX6_coast 107 = .ok (.iconst 0, 1) := by decide +kernel
theorem dX6_coast_108 : decode cX6_coast 108 = .ok (.invokevirtual 235, 3) := by decide +kernel
theorem dX6_coast_111 : decode cX6_coast 111 = .ok (.sipush (-2000), 3) := by decide +kernel
theorem dX6_coast_114 : decode cX6_coast 114 = .ok (.aload_n 0, 1) := by decide +kernel
theorem dX6_coast_115 : decode cX6_coast 115 = .ok (.getfield 59, 3) := by decide +kernel
theorem dX6_coast_118 : decode cX6_coast 118 = .ok (.iload_n 2, 1) := by decide +kernel
theorem dX6_coast_119 : decode cX6_coast 119 = .ok (.iaload, 1) := by decide +kernel
theorem dX6_coast_120 : decode cX6_coast 120 = .ok (.isub, 1) := by decide +kernel
theorem dX6_coast_121 : decode cX6_coast 121 = .ok (.ireturn, 1) := by decide +kernel
theorem dX6_coast_122 : decode cX6_coast 122 = .ok (.iinc 2 1, 3) := by decide +kernel
theorem dX6_coast_125 : decode cX6_coast 125 = .ok (.goto (-39), 3) := by decide +kernel
theorem dX6_coast_128 : decode cX6_coast 128 = .ok (.aload_n 0, 1) := by decide +kernel
theorem dX6_coast_129 : decode cX6_coast 129 = .ok (.iconst 0, 1) := by decide +kernel
theorem dX6_coast_130 : decode cX6_coast 130 = .ok (.putfield 242, 3) := by decide +kernel
theorem dX6_coast_133 : decode cX6_coast 133 = .ok (.aload_n 0, 1) := by decide +kernel
theorem dX6_coast_134 : decode cX6_coast 134 = .ok (.getfield 188, 3) := by decide +kernel
theorem dX6_coast_137 : decode cX6_coast 137 = .ok (.ireturn, 1) := by decide +kernel
theorem dX6_passes_0 : decode cX6_passes 0 = .ok (.iconst 0, 1) := by decide +kernel
theorem dX6_passes_1 : decode cX6_passes 1 = .ok (.istore_n 2, 1) := by decide +kernel
theorem dX6_passes_2 : decode cX6_passes 2 = .ok (.iload_n 2, 1) := by decide +kernel
theorem dX6_passes_3 : decode cX6_passes 3 = .ok (.aload_n 1, 1) := by decide +kernel
theorem dX6_passes_4 : decode cX6_passes 4 = .ok (.arraylength, 1) := by decide +kernel
theorem dX6_passes_5 : decode cX6_passes 5 = .ok (.if_icmp .ge 53, 3) := by decide +kernel
theorem dX6_passes_8 : decode cX6_passes 8 = .ok (.aload_n 0, 1) := by decide +kernel
theorem dX6_passes_9 : decode cX6_passes 9 = .ok (.getfield 245, 3) := by decide +kernel
theorem dX6_passes_12 : decode cX6_passes 12 = .ok (.ifCond .eq 18, 3) := by decide +kernel
theorem dX6_passes_15 : decode cX6_passes 15 = .ok (.aload_n 0, 1) := by decide +kernel
theorem dX6_passes_16 : decode cX6_passes 16 = .ok (.getfield 65, 3) := by decide +kernel
theorem dX6_passes_19 : decode cX6_passes 19 = .ok (.aload_n 0, 1) := by decide +kernel
theorem dX6_passes_20 : decode cX6_passes 20 = .ok (.getfield 248, 3) := by decide +kernel
theorem dX6_passes_23 : decode cX6_passes 23 = .ok (.aload_n 1, 1) := by decide +kernel
theorem dX6_passes_24 : decode cX6_passes 24 = .ok (.iload_n 2, 1) := by decide +kernel
theorem dX6_passes_25 : decode cX6_passes 25 = .ok (.iaload, 1) := by decide +kernel
theorem dX6_passes_26 : decode cX6_passes 26 = .ok (.iastore, 1) := by decide +kernel
theorem dX6_passes_27 : decode cX6_passes 27 = .ok (.goto 15, 3) := by decide +kernel
theorem dX6_passes_30 : decode cX6_passes 30 = .ok (.aload_n 1, 1) := by decide +kernel
theorem dX6_passes_31 : decode cX6_passes 31 = .ok (.iload_n 2, 1) := by decide +kernel
theorem dX6_passes_32 : decode cX6_passes 32 = .ok (.aload_n 0, 1) := by decide +kernel
theorem dX6_passes_33 : decode cX6_passes 33 = .ok (.getfield 65, 3) := by decide +kernel
theorem dX6_passes_36 : decode cX6_passes 36 = .ok (.aload_n 0, 1) := by decide +kernel
theorem dX6_passes_37 : decode cX6_passes 37 = .ok (.getfield 248, 3) := by decide +kernel
theorem dX6_passes_40 : decode cX6_passes 40 = .ok (.iaload, 1) := by decide +kernel
theorem dX6_passes_41 : decode cX6_passes 41 = .ok (.iastore, 1) := by decide +kernel
theorem dX6_passes_42 : decode cX6_passes 42 = .ok (.aload_n 0, 1) := by decide +kernel
theorem dX6_passes_43 : decode cX6_passes 43 = .ok (.dup, 1) := by decide +kernel
