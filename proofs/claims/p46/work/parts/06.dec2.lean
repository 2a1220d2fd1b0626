theorem dX5_richest_28 : decode cX5_richest 28 = .ok (.iload 4, 2) := by decide +kernel
theorem dX5_richest_30 : decode cX5_richest 30 = .ok (.iload_n 2, 1) := by decide +kernel
theorem dX5_richest_31 : decode cX5_richest 31 = .ok (.if_icmp .le 8, 3) := by decide +kernel
theorem dX5_richest_34 : decode cX5_richest 34 = .ok (.iload 4, 2) := by decide +kernel
theorem dX5_richest_36 : decode cX5_richest 36 = .ok (.istore_n 2, 1) := by decide +kernel
theorem dX5_richest_37 : decode cX5_richest 37 = .ok (.iload_n 3, 1) := by decide +kernel
theorem dX5_richest_38 : decode cX5_richest 38 = .ok (.istore_n 1, 1) := by decide +kernel
theorem dX5_richest_39 : decode cX5_richest 39 = .ok (.iinc 3 1, 3) := by decide +kernel
theorem dX5_richest_42 : decode cX5_richest 42 = .ok (.goto (-35), 3) := by decide +kernel
theorem dX5_richest_45 : decode cX5_richest 45 = .ok (.iload_n 1, 1) := by decide +kernel
theorem dX5_richest_46 : decode cX5_richest 46 = .ok (.ireturn, 1) := by decide +kernel
theorem dX5_wetThings_0 : decode cX5_wetThings 0 = .ok (.aload_n 0, 1) := by decide +kernel
theorem dX5_wetThings_1 : decode cX5_wetThings 1 = .ok (.getfield 50, 3) := by decide +kernel
theorem dX5_wetThings_4 : decode cX5_wetThings 4 = .ok (.aload_n 0, 1) := by decide +kernel
theorem dX5_wetThings_5 : decode cX5_wetThings 5 = .ok (.getfield 10, 3) := by decide +kernel
theorem dX5_wetThings_8 : decode cX5_wetThings 8 = .ok (.invokevirtual 67, 3) := by decide +kernel
theorem dX5_wetThings_11 : decode cX5_wetThings 11 = .ok (.iconst 0, 1) := by decide +kernel
theorem dX5_wetThings_12 : decode cX5_wetThings 12 = .ok (.istore_n 1, 1) := by decide +kernel
theorem dX5_wetThings_13 : decode cX5_wetThings 13 = .ok (.iconst 0, 1) := by decide +kernel
theorem dX5_wetThings_14 : decode cX5_wetThings 14 = .ok (.istore_n 2, 1) := by decide +kernel
theorem dX5_wetThings_15 : decode cX5_wetThings 15 = .ok (.iload_n 2, 1) := by decide +kernel
theorem dX5_wetThings_16 : decode cX5_wetThings 16 = .ok (.aload_n 0, 1) := by decide +kernel
theorem dX5_wetThings_17 : decode cX5_wetThings 17 = .ok (.getfield 10, 3) := by decide +kernel
theorem dX5_wetThings_20 : decode cX5_wetThings 20 = .ok (.getfield 207, 3) := by decide +kernel
theorem dX5_wetThings_23 : decode cX5_wetThings 23 = .ok (.if_icmp .ge 34, 3) := by decide +kernel
theorem dX5_wetThings_26 : decode cX5_wetThings 26 = .ok (.aload_n 0, 1) := by decide +kernel
theorem dX5_wetThings_27 : decode cX5_wetThings 27 = .ok (.getfield 50, 3) := by decide +kernel
theorem dX5_wetThings_30 : decode cX5_wetThings 30 = .ok (.aload_n 0, 1) := by decide +kernel
theorem dX5_wetThings_31 : decode cX5_wetThings 31 = .ok (.getfield 10, 3) := by decide +kernel
theorem dX5_wetThings_34 : decode cX5_wetThings 34 = .ok (.getfield 165, 3) := by decide +kernel
theorem dX5_wetThings_37 : decode cX5_wetThings 37 = .ok (.iload_n 2, 1) := by decide +kernel
theorem dX5_wetThings_38 : decode cX5_wetThings 38 = .ok (.iaload, 1) := by decide +kernel
theorem dX5_wetThings_39 : decode cX5_wetThings 39 = .ok (.invokevirtual 195, 3) := by decide +kernel
theorem dX5_wetThings_42 : decode cX5_wetThings 42 = .ok (.ifCond .eq 9, 3) := by decide +kernel
theorem dX5_wetThings_45 : decode cX5_wetThings 45 = .ok (.iload_n 1, 1) := by decide +kernel
theorem dX5_wetThings_46 : decode cX5_wetThings 46 = .ok (.iconst 1, 1) := by decide +kernel
theorem dX5_wetThings_47 : decode cX5_wetThings 47 = .ok (.iload_n 2, 1) := by decide +kernel
theorem dX5_wetThings_48 : decode cX5_wetThings 48 = .ok (.ishl, 1) := by decide +kernel
theorem dX5_wetThings_49 : decode cX5_wetThings 49 = .ok (.ior, 1) := by decide +kernel
theorem dX5_wetThings_50 : decode cX5_wetThings 50 = .ok (.istore_n 1, 1) := by decide +kernel
theorem dX5_wetThings_51 : decode cX5_wetThings 51 = .ok (.iinc 2 1, 3) := by decide +kernel
theorem dX5_wetThings_54 : decode cX5_wetThings 54 = .ok (.goto (-39), 3) := by decide +kernel
theorem dX5_wetThings_57 : decode cX5_wetThings 57 = .ok (.iload_n 1, 1) := by decide +kernel
theorem dX5_wetThings_58 : decode cX5_wetThings 58 = .ok (.ireturn, 1) := by decide +kernel
theorem dX5_crowdedCell_0 : decode cX5_crowdedCell 0 = .ok (.bipush (-9), 2) := by decide +kernel
theorem dX5_crowdedCell_2 : decode cX5_crowdedCell 2 = .ok (.istore_n 1, 1) := by decide +kernel
theorem dX5_crowdedCell_3 : decode cX5_crowdedCell 3 = .ok (.iconst 0, 1) := by decide +kernel
theorem dX5_crowdedCell_4 : decode cX5_crowdedCell 4 = .ok (.istore_n 2, 1) := by decide +kernel
theorem dX5_crowdedCell_5 : decode cX5_crowdedCell 5 = .ok (.iconst 0, 1) := by decide +kernel
theorem dX5_crowdedCell_6 : decode cX5_crowdedCell 6 = .ok (.istore_n 3, 1) := by decide +kernel
theorem dX5_crowdedCell_7 : decode cX5_crowdedCell 7 = .ok (.iload_n 3, 1) := by decide +kernel
theorem dX5_crowdedCell_8 : decode cX5_crowdedCell 8 = .ok (.bipush 24, 2) := by decide +kernel
theorem dX5_crowdedCell_10 : decode cX5_crowdedCell 10 = .ok (.if_icmp .ge 33, 3) := by decide +kernel
theorem dX5_crowdedCell_13 : decode cX5_crowdedCell 13 = .ok (.aload_n 0, 1) := by decide +kernel
theorem dX5_crowdedCell_14 : decode cX5_crowdedCell 14 = .ok (.getfield 10, 3) := by decide +kernel
theorem dX5_crowdedCell_17 : decode cX5_crowdedCell 17 = .ok (.iload_n 3, 1) := by decide +kernel
theorem dX5_crowdedCell_18 : decode cX5_crowdedCell 18 = .ok (.invokevirtual 198, 3) := by decide +kernel
theorem dX5_crowdedCell_21 : decode cX5_crowdedCell 21 = .ok (.invokestatic 242, 3) := by decide +kernel
theorem dX5_crowdedCell_24 : decode cX5_crowdedCell 24 = .ok (.istore 4, 2) := by decide +kernel
theorem dX5_crowdedCell_26 : decode cX5_crowdedCell 26 = .ok (.iload 4, 2) := by decide +kernel
theorem dX5_crowdedCell_28 : decode cX5_crowdedCell 28 = .ok (.iload_n 2, 1) := by decide +kernel
theorem dX5_crowdedCell_29 : decode cX5_crowdedCell 29 = .ok (.if_icmp .le 8, 3) := by decide +kernel
theorem dX5_crowdedCell_32 : decode cX5_crowdedCell 32 = .ok (.iload 4, 2) := by decide +kernel
theorem dX5_crowdedCell_34 : decode cX5_crowdedCell 34 = .ok (.istore_n 2, 1) := by decide +kernel
theorem dX5_crowdedCell_35 : decode cX5_crowdedCell 35 = .ok (.iload_n 3, 1) := by decide +kernel
theorem dX5_crowdedCell_36 : decode cX5_crowdedCell 36 = .ok (.istore_n 1, 1) := by decide +kernel
theorem dX5_crowdedCell_37 : decode cX5_crowdedCell 37 = .ok (.iinc 3 1, 3) := by decide +kernel
theorem dX5_crowdedCell_40 : decode cX5_crowdedCell 40 = .ok (.goto (-33), 3) := by decide +kernel
theorem dX5_crowdedCell_43 : decode cX5_crowdedCell 43 = .ok (.iload_n 1, 1) := by decide +kernel
theorem dX5_crowdedCell_44 : decode cX5_crowdedCell 44 = .ok (.ireturn, 1) := by decide +kernel
theorem dX5_hoursAlike_0 : decode cX5_hoursAlike 0 = .ok (.aload_n 0, 1) := by decide +kernel
theorem dX5_hoursAlike_1 : decode cX5_hoursAlike 1 = .ok (.getfield 50, 3) := by decide +kernel
theorem dX5_hoursAlike_4 : decode cX5_hoursAlike 4 = .ok (.aload_n 0, 1) := by decide +kernel
theorem dX5_hoursAlike_5 : decode cX5_hoursAlike 5 = .ok (.getfield 10, 3) := by decide +kernel
theorem dX5_hoursAlike_8 : decode cX5_hoursAlike 8 = .ok (.invokevirtual 67, 3) := by decide +kernel
theorem dX5_hoursAlike_11 : decode cX5_hoursAlike 11 = .ok (.aload_n 0, 1) := by decide +kernel
theorem dX5_hoursAlike_12 : decode cX5_hoursAlike 12 = .ok (.getfield 50, 3) := by decide +kernel
theorem dX5_hoursAlike_15 : decode cX5_hoursAlike 15 = .ok (.invokevirtual 217, 3) := by decide +kernel
theorem dX5_hoursAlike_18 : decode cX5_hoursAlike 18 = .ok (.invokestatic 242, 3) := by decide +kernel
theorem dX5_hoursAlike_21 : decode cX5_hoursAlike 21 = .ok (.istore_n 1, 1) := by decide +kernel
theorem dX5_hoursAlike_22 : decode cX5_hoursAlike 22 = .ok (.iconst 0, 1) := by decide +kernel
theorem dX5_hoursAlike_23 : decode cX5_hoursAlike 23 = .ok (.istore_n 2, 1) := by decide +kernel
theorem dX5_hoursAlike_24 : decode cX5_hoursAlike 24 = .ok (.iconst 0, 1) := by decide +kernel
theorem dX5_hoursAlike_25 : decode cX5_hoursAlike 25 = .ok (.istore_n 3, 1) := by decide +kernel
theorem dX5_hoursAlike_26 : decode cX5_hoursAlike 26 = .ok (.iload_n 3, 1) := by decide +kernel
theorem dX5_hoursAlike_27 : decode cX5_hoursAlike 27 = .ok (.bipush 60, 2) := by decide +kernel
theorem dX5_hoursAlike_29 : decode cX5_hoursAlike 29 = .ok (.if_icmp .ge 34, 3) := by decide +kernel
theorem dX5_hoursAlike_32 : decode cX5_hoursAlike 32 = .ok (.aload_n 0, 1) := by decide +kernel
theorem dX5_hoursAlike_33 : decode cX5_hoursAlike 33 = .ok (.getfield 50, 3) := by decide +kernel
theorem dX5_hoursAlike_36 : decode cX5_hoursAlike 36 = .ok (.iconst 1, 1) := by decide +kernel
theorem dX5_hoursAlike_37 : decode cX5_hoursAlike 37 = .ok (.invokevirtual 119, 3) := by decide +kernel
theorem dX5_hoursAlike_40 : decode cX5_hoursAlike 40 = .ok (.aload_n 0, 1) := by decide +kernel
theorem dX5_hoursAlike_41 : decode cX5_hoursAlike 41 = .ok (.getfield 50, 3) := by decide +kernel
theorem dX5_hoursAlike_44 : decode cX5_hoursAlike 44 = .ok (.invokevirtual 217, 3) := by decide +kernel
theorem dX5_hoursAlike_47 : decode cX5_hoursAlike 47 = .ok (.invokestatic 242, 3) := by decide +kernel
theorem dX5_hoursAlike_50 : decode cX5_hoursAlike 50 = .ok (.iload_n 1, 1) := by decide +kernel
theorem dX5_hoursAlike_51 : decode cX5_hoursAlike 51 = .ok (.if_icmp .ne 6, 3) := by decide +kernel
theorem dX5_hoursAlike_54 : decode cX5_hoursAlike 54 = .ok (.iinc 2 1, 3) := by decide +kernel
theorem dX5_hoursAlike_57 : decode cX5_hoursAlike 57 = .ok (.iinc 3 1, 3) := by decide +kernel
theorem dX5_hoursAlike_60 : decode cX5_hoursAlike 60 = .ok (.goto (-34), 3) := by decide +kernel
theorem dX5_hoursAlike_63 : decode cX5_hoursAlike 63 = .ok (.iload_n 2, 1) := by decide +kernel
theorem dX5_hoursAlike_64 : decode cX5_hoursAlike 64 = .ok (.ireturn, 1) := by decide +kernel
theorem dX5_image_0 : decode cX5_image 0 = .ok (.aload_n 0, 1) := by decide +kernel
theorem dX5_image_1 : decode cX5_image 1 = .ok (.getfield 16, 3) := by decide +kernel
theorem dX5_image_4 : decode cX5_image 4 = .ok (.aload_n 0, 1) := by decide +kernel
theorem dX5_image_5 : decode cX5_image 5 = .ok (.getfield 10, 3) := by decide +kernel
theorem dX5_image_8 : decode cX5_image 8 = .ok (.invokevirtual 84, 3) := by decide +kernel
theorem dX5_image_11 : decode cX5_image 11 = .ok (.aload_n 0, 1) := by decide +kernel
theorem dX5_image_12 : decode cX5_image 12 = .ok (.iconst 1, 1) := by decide +kernel
theorem dX5_image_13 : decode cX5_image 13 = .ok (.putfield 19, 3) := by decide +kernel
theorem dX5_image_16 : decode cX5_image 16 = .ok (.aload_n 0, 1) := by decide +kernel
theorem dX5_image_17 : decode cX5_image 17 = .ok (.getfield 10, 3) := by decide +kernel
theorem dX5_image_20 : decode cX5_image 20 = .ok (.getfield 116, 3) := by decide +kernel
theorem dX5_image_23 : decode cX5_image 23 = .ok (.ireturn, 1) := by decide +kernel
theorem dX5_restore_0 : decode cX5_restore 0 = .ok (.aload_n 0, 1) := by decide +kernel
theorem dX5_restore_1 : decode cX5_restore 1 = .ok (.getfield 19, 3) := by decide +kernel
theorem dX5_restore_4 : decode cX5_restore 4 = .ok (.ifCond .ne 10, 3) := by decide +kernel
theorem dX5_restore_7 : decode cX5_restore 7 = .ok (.aload_n 0, 1) := by decide +kernel
theorem dX5_restore_8 : decode cX5_restore 8 = .ok (.bipush (-3), 2) := by decide +kernel
theorem dX5_restore_10 : decode cX5_restore 10 = .ok (.invokevirtual 60, 3) := by decide +kernel
theorem dX5_restore_13 : decode cX5_restore 13 = .ok (.ireturn, 1) := by decide +kernel
theorem dX5_restore_14 : decode cX5_restore 14 = .ok (.aload_n 0, 1) := by decide +kernel
theorem dX5_restore_15 : decode cX5_restore 15 = .ok (.getfield 10, 3) := by decide +kernel
theorem dX5_restore_18 : decode cX5_restore 18 = .ok (.aload_n 0, 1) := by decide +kernel
theorem dX5_restore_19 : decode cX5_restore 19 = .ok (.getfield 16, 3) := by decide +kernel
theorem dX5_restore_22 : decode cX5_restore 22 = .ok (.invokevirtual 84, 3) := by decide +kernel
theorem dX5_restore_25 : decode cX5_restore 25 = .ok (.aload_n 0, 1) := by decide +kernel
theorem dX5_restore_26 : decode cX5_restore 26 = .ok (.iconst 0, 1) := by decide +kernel
theorem dX5_restore_27 : decode cX5_restore 27 = .ok (.putfield 27, 3) := by decide +kernel
theorem dX5_restore_30 : decode cX5_restore 30 = .ok (.aload_n 0, 1) := by decide +kernel
theorem dX5_restore_31 : decode cX5_restore 31 = .ok (.getfield 10, 3) := by decide +kernel
theorem dX5_restore_34 : decode cX5_restore 34 = .ok (.getfield 116, 3) := by decide +kernel
theorem dX5_restore_37 : decode cX5_restore 37 = .ok (.ireturn, 1) := by decide +kernel
theorem dX5_refuse_0 : decode cX5_refuse 0 = .ok (.iload_n 1, 1) := by decide +kernel
theorem dX5_refuse_1 : decode cX5_refuse 1 = .ok (.ineg, 1) := by decide +kernel
theorem dX5_refuse_2 : decode cX5_refuse 2 = .ok (.istore_n 2, 1) := by decide +kernel
theorem dX5_refuse_3 : decode cX5_refuse 3 = .ok (.iload_n 2, 1) := by decide +kernel
theorem dX5_refuse_4 : decode cX5_refuse 4 = .ok (.ifCond .lt 19, 3) := by decide +kernel
theorem dX5_refuse_7 : decode cX5_refuse 7 = .ok (.iload_n 2, 1) := by decide +kernel
theorem dX5_refuse_8 : decode cX5_refuse 8 = .ok (.bipush 6, 2) := by decide +kernel
theorem dX5_refuse_10 : decode cX5_refuse 10 = .ok (.if_icmp .gt 13, 3) := by decide +kernel
theorem dX5_refuse_13 : decode cX5_refuse 13 = .ok (.aload_n 0, 1) := by decide +kernel
theorem dX5_refuse_14 : decode cX5_refuse 14 = .ok (.getfield 44, 3) := by decide +kernel
theorem dX5_refuse_17 : decode cX5_refuse 17 = .ok (.iload_n 2, 1) := by decide +kernel
theorem dX5_refuse_18 : decode cX5_refuse 18 = .ok (.dup2, 1) := by decide +kernel
theorem dX5_refuse_19 : decode cX5_refuse 19 = .ok (.iaload, 1) := by decide +kernel
theorem dX5_refuse_20 : decode cX5_refuse 20 = .ok (.iconst 1, 1) := by decide +kernel
theorem dX5_refuse_21 : decode cX5_refuse 21 = .ok (.iadd, 1) := by decide +kernel
theorem dX5_refuse_22 : decode cX5_refuse 22 = .ok (.iastore, 1) := by decide +kernel
theorem dX5_refuse_23 : decode cX5_refuse 23 = .ok (.iload_n 1, 1) := by decide +kernel
theorem dX5_refuse_24 : decode cX5_refuse 24 = .ok (.ireturn, 1) := by decide +kernel
theorem dX5_outOfRange_0 : decode cX5_outOfRange 0 = .ok (.iload_n 0, 1) := by decide +kernel
theorem dX5_outOfRange_1 : decode cX5_outOfRange 1 = .ok (.iload_n 1, 1) := by decide +kernel
theorem dX5_outOfRange_2 : decode cX5_outOfRange 2 = .ok (.if_icmp .ge 6, 3) := by decide +kernel
theorem dX5_outOfRange_5 : decode cX5_outOfRange 5 = .ok (.bipush (-4), 2) := by decide +kernel
theorem dX5_outOfRange_7 : decode cX5_outOfRange 7 = .ok (.ireturn, 1) := by decide +kernel
theorem dX5_outOfRange_8 : decode cX5_outOfRange 8 = .ok (.iload_n 0, 1) := by decide +kernel
theorem dX5_outOfRange_9 : decode cX5_outOfRange 9 = .ok (.iload_n 2, 1) := by decide +kernel
theorem dX5_outOfRange_10 : decode cX5_outOfRange 10 = .ok (.if_icmp .le 8, 3) := by decide +kernel
theorem dX5_outOfRange_13 : decode cX5_outOfRange 13 = .ok (.bipush (-6), 2) := by decide +kernel
theorem dX5_outOfRange_15 : decode cX5_outOfRange 15 = .ok (.goto 4, 3) := by decide +kernel
theorem dX5_outOfRange_18 : decode cX5_outOfRange 18 = .ok (.iconst 0, 1) := by decide +kernel
theorem dX5_outOfRange_19 : decode cX5_outOfRange 19 = .ok (.ireturn, 1) := by decide +kernel
theorem dX5_isCell_0 : decode cX5_isCell 0 = .ok (.iload_n 0, 1) := by decide +kernel
theorem dX5_isCell_1 : decode cX5_isCell 1 = .ok (.ifCond .lt 13, 3) := by decide +kernel
theorem dX5_isCell_4 : decode cX5_isCell 4 = .ok (.iload_n 0, 1) := by decide +kernel
theorem dX5_isCell_5 : decode cX5_isCell 5 = .ok (.bipush 24, 2) := by decide +kernel
theorem dX5_isCell_7 : decode cX5_isCell 7 = .ok (.if_icmp .ge 7, 3) := by decide +kernel
theorem dX5_isCell_10 : decode cX5_isCell 10 = .ok (.iconst 1, 1) := by decide +kernel
theorem dX5_isCell_11 : decode cX5_isCell 11 = .ok (.goto 4, 3) := by decide +kernel
theorem dX5_isCell_14 : decode cX5_isCell 14 = .ok (.iconst 0, 1) := by decide +kernel
theorem dX5_isCell_15 : decode cX5_isCell 15 = .ok (.ireturn, 1) := by decide +kernel
theorem dX5_orNone_0 : decode cX5_orNone 0 = .ok (.iload_n 0, 1) := by decide +kernel
theorem dX5_orNone_1 : decode cX5_orNone 1 = .ok (.iconst (-1), 1) := by decide +kernel
theorem dX5_orNone_2 : decode cX5_orNone 2 = .ok (.if_icmp .ne 8, 3) := by decide +kernel
theorem dX5_orNone_5 : decode cX5_orNone 5 = .ok (.bipush (-9), 2) := by decide +kernel
theorem dX5_orNone_7 : decode cX5_orNone 7 = .ok (.goto 4, 3) := by decide +kernel
theorem dX5_orNone_10 : decode cX5_orNone 10 = .ok (.iload_n 0, 1) := by decide +kernel
theorem dX5_orNone_11 : decode cX5_orNone 11 = .ok (.ireturn, 1) := by decide +kernel
theorem dX5_thinkOn_0 : decode cX5_thinkOn 0 = .ok (.aload_n 0, 1) := by decide +kernel
theorem dX5_thinkOn_1 : decode cX5_thinkOn 1 = .ok (.getfield 50, 3) := by decide +kernel
theorem dX5_thinkOn_4 : decode cX5_thinkOn 4 = .ok (.aload_n 0, 1) := by decide +kernel
theorem dX5_thinkOn_5 : decode cX5_thinkOn 5 = .ok (.getfield 10, 3) := by decide +kernel
theorem dX5_thinkOn_8 : decode cX5_thinkOn 8 = .ok (.invokevirtual 67, 3) := by decide +kernel
theorem dX5_thinkOn_11 : decode cX5_thinkOn 11 = .ok (.aload_n 0, 1) := by decide +kernel
theorem dX5_thinkOn_12 : decode cX5_thinkOn 12 = .ok (.getfield 50, 3) := by decide +kernel
theorem dX5_thinkOn_15 : decode cX5_thinkOn 15 = .ok (.iload_n 1, 1) := by decide +kernel
theorem dX5_thinkOn_16 : decode cX5_thinkOn 16 = .ok (.invokevirtual 119, 3) := by decide +kernel
theorem dX5_thinkOn_19 : decode cX5_thinkOn 19 = .ok (.return_, 1) := by decide +kernel
theorem dJ6_bitCount_0f7a4_0 : decode cJ6_bitCount_0f7a4 0 = .ok (.iload_n 0, 1) := by decide +kernel
theorem dJ6_bitCount_0f7a4_1 : decode cJ6_bitCount_0f7a4 1 = .ok (.iload_n 0, 1) := by decide +kernel
theorem dJ6_bitCount_0f7a4_2 : decode cJ6_bitCount_0f7a4 2 = .ok (.iconst 1, 1) := by decide +kernel
theorem dJ6_bitCount_0f7a4_3 : decode cJ6_bitCount_0f7a4 3 = .ok (.iushr, 1) := by decide +kernel
theorem dJ6_bitCount_0f7a4_4 : decode cJ6_bitCount_0f7a4 4 = .ok (.ldc_w 265, 3) := by decide +kernel
theorem dJ6_bitCount_0f7a4_7 : decode cJ6_bitCount_0f7a4 7 = .ok (.iand, 1) := by decide +kernel
theorem dJ6_bitCount_0f7a4_8 : decode cJ6_bitCount_0f7a4 8 = .ok (.isub, 1) := by decide +kernel
theorem dJ6_bitCount_0f7a4_9 : decode cJ6_bitCount_0f7a4 9 = .ok (.istore_n 0, 1) := by decide +kernel
theorem dJ6_bitCount_0f7a4_10 : decode cJ6_bitCount_0f7a4 10 = .ok (.iload_n 0, 1) := by decide +kernel
theorem dJ6_bitCount_0f7a4_11 : decode cJ6_bitCount_0f7a4 11 = .ok (.ldc_w 266, 3) := by decide +kernel
theorem dJ6_bitCount_0f7a4_14 : decode cJ6_bitCount_0f7a4 14 = .ok (.iand, 1) := by decide +kernel
theorem dJ6_bitCount_0f7a4_15 : decode cJ6_bitCount_0f7a4 15 = .ok (.iload_n 0, 1) := by decide +kernel
theorem dJ6_bitCount_0f7a4_16 : decode cJ6_bitCount_0f7a4 16 = .ok (.iconst 2, 1) := by decide +kernel
theorem dJ6_bitCount_0f7a4_17 : decode cJ6_bitCount_0f7a4 17 = .ok (.iushr, 1) := by decide +kernel
theorem dJ6_bitCount_0f7a4_18 : decode cJ6_bitCount_0f7a4 18 = .ok (.ldc_w 266, 3) := by decide +kernel
theorem dJ6_bitCount_0f7a4_21 : decode cJ6_bitCount_0f7a4 21 = .ok (.iand, 1) := by decide +kernel
theorem dJ6_bitCount_0f7a4_22 : decode cJ6_bitCount_0f7a4 22 = .ok (.iadd, 1) := by decide +kernel
theorem dJ6_bitCount_0f7a4_23 : decode cJ6_bitCount_0f7a4 23 = .ok (.istore_n 0, 1) := by decide +kernel
theorem dJ6_bitCount_0f7a4_24 : decode cJ6_bitCount_0f7a4 24 = .ok (.iload_n 0, 1) := by decide +kernel
theorem dJ6_bitCount_0f7a4_25 : decode cJ6_bitCount_0f7a4 25 = .ok (.iload_n 0, 1) := by decide +kernel
theorem dJ6_bitCount_0f7a4_26 : decode cJ6_bitCount_0f7a4 26 = .ok (.iconst 4, 1) := by decide +kernel
theorem dJ6_bitCount_0f7a4_27 : decode cJ6_bitCount_0f7a4 27 = .ok (.iushr, 1) := by decide +kernel
theorem dJ6_bitCount_0f7a4_28 : decode cJ6_bitCount_0f7a4 28 = .ok (.iadd, 1) := by decide +kernel
theorem dJ6_bitCount_0f7a4_29 : decode cJ6_bitCount_0f7a4 29 = .ok (.ldc_w 267, 3) := by decide +kernel
theorem dJ6_bitCount_0f7a4_32 : decode cJ6_bitCount_0f7a4 32 = .ok (.iand, 1) := by decide +kernel
theorem dJ6_bitCount_0f7a4_33 : decode cJ6_bitCount_0f7a4 33 = .ok (.istore_n 0, 1) := by decide +kernel
theorem dJ6_bitCount_0f7a4_34 : decode cJ6_bitCount_0f7a4 34 = .ok (.iload_n 0, 1) := by decide +kernel
theorem dJ6_bitCount_0f7a4_35 : decode cJ6_bitCount_0f7a4 35 = .ok (.iload_n 0, 1) := by decide +kernel
theorem dJ6_bitCount_0f7a4_36 : decode cJ6_bitCount_0f7a4 36 = .ok (.bipush 8, 2) := by decide +kernel
theorem dJ6_bitCount_0f7a4_38 : decode cJ6_bitCount_0f7a4 38 = .ok (.iushr, 1) := by decide +kernel
theorem dJ6_bitCount_0f7a4_39 : decode cJ6_bitCount_0f7a4 39 = .ok (.iadd, 1) := by decide +kernel
theorem dJ6_bitCount_0f7a4_40 : decode cJ6_bitCount_0f7a4 40 = .ok (.istore_n 0, 1) := by decide +kernel
theorem dJ6_bitCount_0f7a4_41 : decode cJ6_bitCount_0f7a4 41 = .ok (.iload_n 0, 1) := by decide +kernel
theorem dJ6_bitCount_0f7a4_42 : decode cJ6_bitCount_0f7a4 42 = .ok (.iload_n 0, 1) := by decide +kernel
theorem dJ6_bitCount_0f7a4_43 : decode cJ6_bitCount_0f7a4 43 = .ok (.bipush 16, 2) := by decide +kernel
theorem dJ6_bitCount_0f7a4_45 : decode cJ6_bitCount_0f7a4 45 = .ok (.iushr, 1) := by decide +kernel
theorem dJ6_bitCount_0f7a4_46 : decode cJ6_bitCount_0f7a4 46 = .ok (.iadd, 1) := by decide +kernel
theorem dJ6_bitCount_0f7a4_47 : decode cJ6_bitCount_0f7a4 47 = .ok (.istore_n 0, 1) := by decide +kernel
theorem dJ6_bitCount_0f7a4_48 : decode cJ6_bitCount_0f7a4 48 = .ok (.iload_n 0, 1) := by decide +kernel
theorem dJ6_bitCount_0f7a4_49 : decode cJ6_bitCount_0f7a4 49 = .ok (.bipush 63, 2) := by decide +kernel
theorem dJ6_bitCount_0f7a4_51 : decode cJ6_bitCount_0f7a4 51 = .ok (.iand, 1) := by decide +kernel
theorem dJ6_bitCount_0f7a4_52 : decode cJ6_bitCount_0f7a4 52 = .ok (.ireturn, 1) := by decide +kernel
theorem dJ9_abs_0f7a4_0 : decode cJ9_abs_0f7a4 0 = .ok (.iload_n 0, 1) := by decide +kernel
theorem dJ9_abs_0f7a4_1 : decode cJ9_abs_0f7a4 1 = .ok (.ifCond .ge 8, 3) := by decide +kernel
theorem dJ9_abs_0f7a4_4 : decode cJ9_abs_0f7a4 4 = .ok (.iload_n 0, 1) := by decide +kernel
theorem dJ9_abs_0f7a4_5 : decode cJ9_abs_0f7a4 5 = .ok (.ineg, 1) := by decide +kernel
theorem dJ9_abs_0f7a4_6 : decode cJ9_abs_0f7a4 6 = .ok (.goto 4, 3) := by decide +kernel
theorem dJ9_abs_0f7a4_9 : decode cJ9_abs_0f7a4 9 = .ok (.iload_n 0, 1) := by decide +kernel
theorem dJ9_abs_0f7a4_10 : decode cJ9_abs_0f7a4 10 = .ok (.ireturn, 1) := by decide +kernel
theorem dJ9_max_7cf53_0 : decode cJ9_max_7cf53 0 = .ok (.iload_n 0, 1) := by decide +kernel
theorem dJ9_max_7cf53_1 : decode cJ9_max_7cf53 1 = .ok (.iload_n 1, 1) := by decide +kernel
theorem dJ9_max_7cf53_2 : decode cJ9_max_7cf53 2 = .ok (.if_icmp .lt 7, 3) := by decide +kernel
theorem dJ9_max_7cf53_5 : decode cJ9_max_7cf53 5 = .ok (.iload_n 0, 1) := by decide +kernel
theorem dJ9_max_7cf53_6 : decode cJ9_max_7cf53 6 = .ok (.goto 4, 3) := by decide +kernel
theorem dJ9_max_7cf53_9 : decode cJ9_max_7cf53 9 = .ok (.iload_n 1, 1) := by decide +kernel
theorem dJ9_max_7cf53_10 : decode cJ9_max_7cf53 10 = .ok (.ireturn, 1) := by decide +kernel
theorem dJ9_min_7cf53_0 : decode cJ9_min_7cf53 0 = .ok (.iload_n 0, 1) := by decide +kernel
theorem dJ9_min_7cf53_1 : decode cJ9_min_7cf53 1 = .ok (.iload_n 1, 1) := by decide +kernel
theorem dJ9_min_7cf53_2 : decode cJ9_min_7cf53 2 = .ok (.if_icmp .gt 7, 3) := by decide +kernel
theorem dJ9_min_7cf53_5 : decode cJ9_min_7cf53 5 = .ok (.iload_n 0, 1) := by decide +kernel
theorem dJ9_min_7cf53_6 : decode cJ9_min_7cf53 6 = .ok (.goto 4, 3) := by decide +kernel
theorem dJ9_min_7cf53_9 : decode cJ9_min_7cf53 9 = .ok (.iload_n 1, 1) := by decide +kernel
theorem dJ9_min_7cf53_10 : decode cJ9_min_7cf53 10 = .ok (.ireturn, 1) := by decide +kernel
theorem dL_cell_0 : decode cL_cell 0 = .ok (.iload_n 1, 1) := by decide +kernel
theorem dL_cell_1 : decode cL_cell 1 = .ok (.aload_n 0, 1) := by decide +kernel
theorem dL_cell_2 : decode cL_cell 2 = .ok (.arraylength, 1) := by decide +kernel
theorem dL_cell_3 : decode cL_cell 3 = .ok (.if_icmp .ge 9, 3) := by decide +kernel
theorem dL_cell_6 : decode cL_cell 6 = .ok (.aload_n 0, 1) := by decide +kernel
theorem dL_cell_7 : decode cL_cell 7 = .ok (.iload_n 1, 1) := by decide +kernel
theorem dL_cell_8 : decode cL_cell 8 = .ok (.iaload, 1) := by decide +kernel
theorem dL_cell_9 : decode cL_cell 9 = .ok (.goto 11, 3) := by decide +kernel
theorem dL_cell_12 : decode cL_cell 12 = .ok (.sipush 7919, 3) := by decide +kernel
theorem dL_cell_15 : decode cL_cell 15 = .ok (.iload_n 1, 1) := by decide +kernel
theorem dL_cell_16 : decode cL_cell 16 = .ok (.imul, 1) := by decide +kernel
theorem dL_cell_17 : decode cL_cell 17 = .ok (.bipush 12, 2) := by decide +kernel
theorem dL_cell_19 : decode cL_cell 19 = .ok (.iadd, 1) := by decide +kernel
theorem dL_cell_20 : decode cL_cell 20 = .ok (.ireturn, 1) := by decide +kernel
theorem dL_pick_0 : decode cL_pick 0 = .ok (.iload_n 0, 1) := by decide +kernel
theorem dL_pick_1 : decode cL_pick 1 = .ok (.ldc 7, 2) := by decide +kernel
theorem dL_pick_3 : decode cL_pick 3 = .ok (.iand, 1) := by decide +kernel
theorem dL_pick_4 : decode cL_pick 4 = .ok (.iload_n 1, 1) := by decide +kernel
theorem dL_pick_5 : decode cL_pick 5 = .ok (.irem, 1) := by decide +kernel
theorem dL_pick_6 : decode cL_pick 6 = .ok (.ireturn, 1) := by decide +kernel
theorem dL_coast_0 : decode cL_coast 0 = .ok (.aload_n 1, 1) := by decide +kernel
theorem dL_coast_1 : decode cL_coast 1 = .ok (.iconst 0, 1) := by decide +kernel
theorem dL_coast_2 : decode cL_coast 2 = .ok (.invokestatic 27, 3) := by decide +kernel
theorem dL_coast_5 : decode cL_coast 5 = .ok (.bipush 6, 2) := by decide +kernel
theorem dL_coast_7 : decode cL_coast 7 = .ok (.invokestatic 33, 3) := by decide +kernel
theorem dL_coast_10 : decode cL_coast 10 = .ok (.istore_n 3, 1) := by decide +kernel
theorem dL_coast_11 : decode cL_coast 11 = .ok (.iload_n 3, 1) := by decide +kernel
theorem dL_coast_12 : decode cL_coast 12 = .ok (.ifCond .le 68, 3) := by decide +kernel
theorem dL_coast_15 : decode cL_coast 15 = .ok (.aload_n 0, 1) := by decide +kernel
theorem dL_coast_16 : decode cL_coast 16 = .ok (.aload_n 1, 1) := by decide +kernel
theorem dL_coast_17 : decode cL_coast 17 = .ok (.iload_n 3, 1) := by decide +kernel
theorem dL_coast_18 : decode cL_coast 18 = .ok (.invokestatic 27, 3) := by decide +kernel
theorem dL_coast_21 : decode cL_coast 21 = .ok (.bipush 7, 2) := by decide +kernel
theorem dL_coast_23 : decode cL_coast 23 = .ok (.invokestatic 33, 3) := by decide +kernel
theorem dL_coast_26 : decode cL_coast 26 = .ok (.aload_n 1, 1) := by decide +kernel
theorem dL_coast_27 : decode cL_coast 27 = .ok (.iload_n 3, 1) := by decide +kernel
theorem dL_coast_28 : decode cL_coast 28 = .ok (.invokestatic 27, 3) := by decide +kernel
theorem dL_coast_31 : decode cL_coast 31 = .ok (.iconst 3, 1) := by decide +kernel
theorem dL_coast_32 : decode cL_coast 32 = .ok (.ishr, 1) := by decide +kernel
theorem dL_coast_33 : decode cL_coast 33 = .ok (.bipush 10, 2) := by decide +kernel
theorem dL_coast_35 : decode cL_coast 35 = .ok (.invokestatic 33, 3) := by decide +kernel
theorem dL_coast_38 : decode cL_coast 38 = .ok (.aload_n 1, 1) := by decide +kernel
theorem dL_coast_39 : decode cL_coast 39 = .ok (.iload_n 3, 1) := by decide +kernel
theorem dL_coast_40 : decode cL_coast 40 = .ok (.invokestatic 27, 3) := by decide +kernel
theorem dL_coast_43 : decode cL_coast 43 = .ok (.bipush 7, 2) := by decide +kernel
theorem dL_coast_45 : decode cL_coast 45 = .ok (.ishr, 1) := by decide +kernel
theorem dL_coast_46 : decode cL_coast 46 = .ok (.aload_n 1, 1) := by decide +kernel
theorem dL_coast_47 : decode cL_coast 47 = .ok (.iload_n 3, 1) := by decide +kernel
theorem dL_coast_48 : decode cL_coast 48 = .ok (.invokestatic 27, 3) := by decide +kernel
theorem dL_coast_51 : decode cL_coast 51 = .ok (.bipush 12, 2) := by decide +kernel
theorem dL_coast_53 : decode cL_coast 53 = .ok (.ishr, 1) := by decide +kernel
theorem dL_coast_54 : decode cL_coast 54 = .ok (.iconst 2, 1) := by decide +kernel
theorem dL_coast_55 : decode cL_coast 55 = .ok (.invokestatic 33, 3) := by decide +kernel
theorem dL_coast_58 : decode cL_coast 58 = .ok (.ifCond .ne 8, 3) := by decide +kernel
theorem dL_coast_61 : decode cL_coast 61 = .ok (.bipush 10, 2) := by decide +kernel
theorem dL_coast_63 : decode cL_coast 63 = .ok (.goto 4, 3) := by decide +kernel
theorem dL_coast_66 : decode cL_coast 66 = .ok (.iconst 4, 1) := by decide +kernel
theorem dL_coast_67 : decode cL_coast 67 = .ok (.invokestatic 33, 3) := by decide +kernel
theorem dL_coast_70 : decode cL_coast 70 = .ok (.invokevirtual 37, 3) := by decide +kernel
theorem dL_coast_73 : decode cL_coast 73 = .ok (.pop, 1) := by decide +kernel
theorem dL_coast_74 : decode cL_coast 74 = .ok (.iinc 3 (-1), 3) := by decide +kernel
theorem dL_coast_77 : decode cL_coast 77 = .ok (.goto (-66), 3) := by decide +kernel
theorem dL_coast_80 : decode cL_coast 80 = .ok (.iconst 1, 1) := by decide +kernel
theorem dL_coast_81 : decode cL_coast 81 = .ok (.aload_n 1, 1) := by decide +kernel
theorem dL_coast_82 : decode cL_coast 82 = .ok (.bipush 7, 2) := by decide +kernel
theorem dL_coast_84 : decode cL_coast 84 = .ok (.invokestatic 27, 3) := by decide +kernel
theorem dL_coast_87 : decode cL_coast 87 = .ok (.iload_n 2, 1) := by decide +kernel
theorem dL_coast_88 : decode cL_coast 88 = .ok (.invokestatic 33, 3) := by decide +kernel
theorem dL_coast_91 : decode cL_coast 91 = .ok (.iadd, 1) := by decide +kernel
theorem dL_coast_92 : decode cL_coast 92 = .ok (.istore_n 3, 1) := by decide +kernel
theorem dL_coast_93 : decode cL_coast 93 = .ok (.iload_n 3, 1) := by decide +kernel
theorem dL_coast_94 : decode cL_coast 94 = .ok (.ifCond .le 58, 3) := by decide +kernel
theorem dL_coast_97 : decode cL_coast 97 = .ok (.aload_n 0, 1) := by decide +kernel
theorem dL_coast_98 : decode cL_coast 98 = .ok (.aload_n 1, 1) := by decide +kernel
theorem dL_coast_99 : decode cL_coast 99 = .ok (.bipush 7, 2) := by decide +kernel
theorem dL_coast_101 : decode cL_coast 101 = .ok (.iload_n 3, 1) := by decide +kernel
theorem dL_coast_102 : decode cL_coast 102 = .ok (.iadd, 1) := by decide +kernel
theorem dL_coast_103 : decode cL_coast 103 = .ok (.invokestatic 27, 3) := by decide +kernel
theorem dL_coast_106 : decode cL_coast 106 = .ok (.bipush 8, 2) := by decide +kernel
theorem dL_coast_108 : decode cL_coast 108 = .ok (.invokestatic 33, 3) := by decide +kernel
theorem dL_coast_111 : decode cL_coast 111 = .ok (.aload_n 1, 1) := by decide +kernel
theorem dL_coast_112 : decode cL_coast 112 = .ok (.bipush 7, 2) := by decide +kernel
theorem dL_coast_114 : decode cL_coast 114 = .ok (.iload_n 3, 1) := by decide +kernel
theorem dL_coast_115 : decode cL_coast 115 = .ok (.iadd, 1) := by decide +kernel
theorem dL_coast_116 : decode cL_coast 116 = .ok (.invokestatic 27, 3) := by decide +kernel
theorem dL_coast_119 : decode cL_coast 119 = .ok (.iconst 3, 1) := by decide +kernel
theorem dL_coast_120 : decode cL_coast 120 = .ok (.ishr, 1) := by decide +kernel
theorem dL_coast_121 : decode cL_coast 121 = .ok (.bipush 10, 2) := by decide +kernel
theorem dL_coast_123 : decode cL_coast 123 = .ok (.invokestatic 33, 3) := by decide +kernel
theorem dL_coast_126 : decode cL_coast 126 = .ok (.aload_n 1, 1) := by decide +kernel
theorem dL_coast_127 : decode cL_coast 127 = .ok (.bipush 7, 2) := by decide +kernel
theorem dL_coast_129 : decode cL_coast 129 = .ok (.iload_n 3, 1) := by decide +kernel
theorem dL_coast_130 : decode cL_coast 130 = .ok (.iadd, 1) := by decide +kernel
theorem dL_coast_131 : decode cL_coast 131 = .ok (.invokestatic 27, 3) := by decide +kernel
theorem dL_coast_134 : decode cL_coast 134 = .ok (.bipush 7, 2) := by decide +kernel
theorem dL_coast_136 : decode cL_coast 136 = .ok (.ishr, 1) := by decide +kernel
theorem dL_coast_137 : decode cL_coast 137 = .ok (.bipush 24, 2) := by decide +kernel
theorem dL_coast_139 : decode cL_coast 139 = .ok (.invokestatic 33, 3) := by decide +kernel
theorem dL_coast_142 : decode cL_coast 142 = .ok (.invokevirtual 41, 3) := by decide +kernel
theorem dL_coast_145 : decode cL_coast 145 = .ok (.pop, 1) := by decide +kernel
theorem dL_coast_146 : decode cL_coast 146 = .ok (.iinc 3 (-1), 3) := by decide +kernel
theorem dL_coast_149 : decode cL_coast 149 = .ok (.goto (-56), 3) := by decide +kernel
theorem dL_coast_152 : decode cL_coast 152 = .ok (.iconst 1, 1) := by decide +kernel
theorem dL_coast_153 : decode cL_coast 153 = .ok (.aload_n 1, 1) := by decide +kernel
theorem dL_coast_154 : decode cL_coast 154 = .ok (.bipush 13, 2) := by decide +kernel
theorem dL_coast_156 : decode cL_coast 156 = .ok (.invokestatic 27, 3) := by decide +kernel
theorem dL_coast_159 : decode cL_coast 159 = .ok (.bipush 7, 2) := by decide +kernel
theorem dL_coast_161 : decode cL_coast 161 = .ok (.invokestatic 33, 3) := by decide +kernel
theorem dL_coast_164 : decode cL_coast 164 = .ok (.iadd, 1) := by decide +kernel
theorem dL_coast_165 : decode cL_coast 165 = .ok (.istore_n 3, 1) := by decide +kernel
theorem dL_coast_166 : decode cL_coast 166 = .ok (.iload_n 3, 1) := by decide +kernel
theorem dL_coast_167 : decode cL_coast 167 = .ok (.ifCond .le 42, 3) := by decide +kernel
theorem dL_coast_170 : decode cL_coast 170 = .ok (.aload_n 0, 1) := by decide +kernel
theorem dL_coast_171 : decode cL_coast 171 = .ok (.aload_n 1, 1) := by decide +kernel
theorem dL_coast_172 : decode cL_coast 172 = .ok (.bipush 13, 2) := by decide +kernel
theorem dL_coast_174 : decode cL_coast 174 = .ok (.iload_n 3, 1) := by decide +kernel
theorem dL_coast_175 : decode cL_coast 175 = .ok (.iadd, 1) := by decide +kernel
theorem dL_coast_176 : decode cL_coast 176 = .ok (.invokestatic 27, 3) := by decide +kernel
theorem dL_coast_179 : decode cL_coast 179 = .ok (.bipush 10, 2) := by decide +kernel
theorem dL_coast_181 : decode cL_coast 181 = .ok (.invokestatic 33, 3) := by decide +kernel
theorem dL_coast_184 : decode cL_coast 184 = .ok (.aload_n 1, 1) := by decide +kernel
theorem dL_coast_185 : decode cL_coast 185 = .ok (.bipush 13, 2) := by decide +kernel
theorem dL_coast_187 : decode cL_coast 187 = .ok (.iload_n 3, 1) := by decide +kernel
theorem dL_coast_188 : decode cL_coast 188 = .ok (.iadd, 1) := by decide +kernel
theorem dL_coast_189 : decode cL_coast 189 = .ok (.invokestatic 27, 3) := by decide +kernel
theorem dL_coast_192 : decode cL_coast 192 = .ok (.iconst 4, 1) := by decide +kernel
theorem dL_coast_193 : decode cL_coast 193 = .ok (.ishr, 1) := by decide +kernel
theorem dL_coast_194 : decode cL_coast 194 = .ok (.bipush 24, 2) := by decide +kernel
theorem dL_coast_196 : decode cL_coast 196 = .ok (.invokestatic 33, 3) := by decide +kernel
theorem dL_coast_199 : decode cL_coast 199 = .ok (.invokevirtual 44, 3) := by decide +kernel
theorem dL_coast_202 : decode cL_coast 202 = .ok (.pop, 1) := by decide +kernel
theorem dL_coast_203 : decode cL_coast 203 = .ok (.iinc 3 (-1), 3) := by decide +kernel
theorem dL_coast_206 : decode cL_coast 206 = .ok (.goto (-40), 3) := by decide +kernel
theorem dL_coast_209 : decode cL_coast 209 = .ok (.aload_n 0, 1) := by decide +kernel
theorem dL_coast_210 : decode cL_coast 210 = .ok (.iconst 0, 1) := by decide +kernel
theorem dL_coast_211 : decode cL_coast 211 = .ok (.invokevirtual 47, 3) := by decide +kernel
theorem dL_coast_214 : decode cL_coast 214 = .ok (.istore_n 3, 1) := by decide +kernel
theorem dL_coast_215 : decode cL_coast 215 = .ok (.iconst 0, 1) := by decide +kernel
theorem dL_coast_216 : decode cL_coast 216 = .ok (.istore 4, 2) := by decide +kernel
theorem dL_coast_218 : decode cL_coast 218 = .ok (.iload 4, 2) := by decide +kernel
theorem dL_coast_220 : decode cL_coast 220 = .ok (.iconst 3, 1) := by decide +kernel
theorem dL_coast_221 : decode cL_coast 221 = .ok (.if_icmp .ge 88, 3) := by decide +kernel
theorem dL_coast_224 : decode cL_coast 224 = .ok (.aload_n 0, 1) := by decide +kernel
theorem dL_coast_225 : decode cL_coast 225 = .ok (.aload_n 1, 1) := by decide +kernel
theorem dL_coast_226 : decode cL_coast 226 = .ok (.bipush 21, 2) := by decide +kernel
theorem dL_coast_228 : decode cL_coast 228 = .ok (.iload 4, 2) := by decide +kernel
theorem dL_coast_230 : decode cL_coast 230 = .ok (.iadd, 1) := by decide +kernel
theorem dL_coast_231 : decode cL_coast 231 = .ok (.invokestatic 27, 3) := by decide +kernel
theorem dL_coast_234 : decode cL_coast 234 = .ok (.aload_n 0, 1) := by decide +kernel
theorem dL_coast_235 : decode cL_coast 235 = .ok (.iconst 1, 1) := by decide +kernel
theorem dL_coast_236 : decode cL_coast 236 = .ok (.invokevirtual 47, 3) := by decide +kernel
theorem dL_coast_239 : decode cL_coast 239 = .ok (.invokestatic 33, 3) := by decide +kernel
theorem dL_coast_242 : decode cL_coast 242 = .ok (.aload_n 1, 1) := by decide +kernel
theorem dL_coast_243 : decode cL_coast 243 = .ok (.bipush 21, 2) := by decide +kernel
theorem dL_coast_245 : decode cL_coast 245 = .ok (.iload 4, 2) := by decide +kernel
theorem dL_coast_247 : decode cL_coast 247 = .ok (.iadd, 1) := by decide +kernel
theorem dL_coast_248 : decode cL_coast 248 = .ok (.invokestatic 27, 3) := by decide +kernel
theorem dL_coast_251 : decode cL_coast 251 = .ok (.iconst 3, 1) := by decide +kernel
theorem dL_coast_252 : decode cL_coast 252 = .ok (.ishr, 1) := by decide +kernel
theorem dL_coast_253 : decode cL_coast 253 = .ok (.iload_n 3, 1) := by decide +kernel
theorem dL_coast_254 : decode cL_coast 254 = .ok (.iconst 1, 1) := by decide +kernel
theorem dL_coast_255 : decode cL_coast 255 = .ok (.iadd, 1) := by decide +kernel
theorem dL_coast_256 : decode cL_coast 256 = .ok (.invokestatic 33, 3) := by decide +kernel
theorem dL_coast_259 : decode cL_coast 259 = .ok (.iconst 1, 1) := by decide +kernel
theorem dL_coast_260 : decode cL_coast 260 = .ok (.isub, 1) := by decide +kernel
theorem dL_coast_261 : decode cL_coast 261 = .ok (.invokevirtual 50, 3) := by decide +kernel
theorem dL_coast_264 : decode cL_coast 264 = .ok (.pop, 1) := by decide +kernel
theorem dL_coast_265 : decode cL_coast 265 = .ok (.aload_n 0, 1) := by decide +kernel
theorem dL_coast_266 : decode cL_coast 266 = .ok (.aload_n 1, 1) := by decide +kernel
theorem dL_coast_267 : decode cL_coast 267 = .ok (.bipush 21, 2) := by decide +kernel
theorem dL_coast_269 : decode cL_coast 269 = .ok (.iload 4, 2) := by decide +kernel
theorem dL_coast_271 : decode cL_coast 271 = .ok (.iadd, 1) := by decide +kernel
theorem dL_coast_272 : decode cL_coast 272 = .ok (.invokestatic 27, 3) := by decide +kernel
theorem dL_coast_275 : decode cL_coast 275 = .ok (.bipush 6, 2) := by decide +kernel
theorem dL_coast_277 : decode cL_coast 277 = .ok (.ishr, 1) := by decide +kernel
theorem dL_coast_278 : decode cL_coast 278 = .ok (.iload_n 3, 1) := by decide +kernel
theorem dL_coast_279 : decode cL_coast 279 = .ok (.invokestatic 33, 3) := by decide +kernel
theorem dL_coast_282 : decode cL_coast 282 = .ok (.aload_n 1, 1) := by decide +kernel
theorem dL_coast_283 : decode cL_coast 283 = .ok (.bipush 21, 2) := by decide +kernel
theorem dL_coast_285 : decode cL_coast 285 = .ok (.iload 4, 2) := by decide +kernel
theorem dL_coast_287 : decode cL_coast 287 = .ok (.iadd, 1) := by decide +kernel
theorem dL_coast_288 : decode cL_coast 288 = .ok (.invokestatic 27, 3) := by decide +kernel
theorem dL_coast_291 : decode cL_coast 291 = .ok (.bipush 9, 2) := by decide +kernel
theorem dL_coast_293 : decode cL_coast 293 = .ok (.ishr, 1) := by decide +kernel
theorem dL_coast_294 : decode cL_coast 294 = .ok (.bipush 24, 2) := by decide +kernel
theorem dL_coast_296 : decode cL_coast 296 = .ok (.invokestatic 33, 3) := by decide +kernel
theorem dL_coast_299 : decode cL_coast 299 = .ok (.invokevirtual 53, 3) := by decide +kernel
theorem dL_coast_302 : decode cL_coast 302 = .ok (.pop, 1) := by decide +kernel
theorem dL_coast_303 : decode cL_coast 303 = .ok (.iinc 4 1, 3) := by decide +kernel
theorem dL_coast_306 : decode cL_coast 306 = .ok (.goto (-88), 3) := by decide +kernel
theorem dL_coast_309 : decode cL_coast 309 = .ok (.aload_n 0, 1) := by decide +kernel
theorem dL_coast_310 : decode cL_coast 310 = .ok (.iconst 1, 1) := by decide +kernel
theorem dL_coast_311 : decode cL_coast 311 = .ok (.aload_n 1, 1) := by decide +kernel
theorem dL_coast_312 : decode cL_coast 312 = .ok (.bipush 24, 2) := by decide +kernel
theorem dL_coast_314 : decode cL_coast 314 = .ok (.invokestatic 27, 3) := by decide +kernel
theorem dL_coast_317 : decode cL_coast 317 = .ok (.bipush 9, 2) := by decide +kernel
theorem dL_coast_319 : decode cL_coast 319 = .ok (.invokestatic 33, 3) := by decide +kernel
theorem dL_coast_322 : decode cL_coast 322 = .ok (.iadd, 1) := by decide +kernel
theorem dL_coast_323 : decode cL_coast 323 = .ok (.invokevirtual 56, 3) := by decide +kernel
theorem dL_coast_326 : decode cL_coast 326 = .ok (.pop, 1) := by decide +kernel
theorem dL_coast_327 : decode cL_coast 327 = .ok (.aload_n 1, 1) := by decide +kernel
theorem dL_coast_328 : decode cL_coast 328 = .ok (.bipush 25, 2) := by decide +kernel
theorem dL_coast_330 : decode cL_coast 330 = .ok (.invokestatic 27, 3) := by decide +kernel
theorem dL_coast_333 : decode cL_coast 333 = .ok (.bipush 12, 2) := by decide +kernel
theorem dL_coast_335 : decode cL_coast 335 = .ok (.invokestatic 33, 3) := by decide +kernel
theorem dL_coast_338 : decode cL_coast 338 = .ok (.istore 4, 2) := by decide +kernel
theorem dL_coast_340 : decode cL_coast 340 = .ok (.iload 4, 2) := by decide +kernel
theorem dL_coast_342 : decode cL_coast 342 = .ok (.ifCond .le 10, 3) := by decide +kernel
theorem dL_coast_345 : decode cL_coast 345 = .ok (.aload_n 0, 1) := by decide +kernel
theorem dL_coast_346 : decode cL_coast 346 = .ok (.iload 4, 2) := by decide +kernel
theorem dL_coast_348 : decode cL_coast 348 = .ok (.invokevirtual 59, 3) := by decide +kernel
theorem dL_coast_351 : decode cL_coast 351 = .ok (.pop, 1) := by decide +kernel
theorem dL_coast_352 : decode cL_coast 352 = .ok (.return_, 1) := by decide +kernel
theorem dL_law_0 : decode cL_law 0 = .ok (.new 19, 3) := by decide +kernel
theorem dL_law_3 : decode cL_law 3 = .ok (.dup, 1) := by decide +kernel
theorem dL_law_4 : decode cL_law 4 = .ok (.invokespecial 62, 3) := by decide +kernel
theorem dL_law_7 : decode cL_law 7 = .ok (.astore_n 1, 1) := by decide +kernel
theorem dL_law_8 : decode cL_law 8 = .ok (.aload_n 1, 1) := by decide +kernel
theorem dL_law_9 : decode cL_law 9 = .ok (.aload_n 0, 1) := by decide +kernel
theorem dL_law_10 : decode cL_law 10 = .ok (.iconst 5, 1) := by decide +kernel
theorem dL_law_11 : decode cL_law 11 = .ok (.invokestatic 63, 3) := by decide +kernel
theorem dL_law_14 : decode cL_law 14 = .ok (.aload_n 1, 1) := by decide +kernel
theorem dL_law_15 : decode cL_law 15 = .ok (.iconst 0, 1) := by decide +kernel
theorem dL_law_16 : decode cL_law 16 = .ok (.invokevirtual 47, 3) := by decide +kernel
theorem dL_law_19 : decode cL_law 19 = .ok (.istore_n 2, 1) := by decide +kernel
theorem dL_law_20 : decode cL_law 20 = .ok (.aload_n 1, 1) := by decide +kernel
theorem dL_law_21 : decode cL_law 21 = .ok (.iconst 1, 1) := by decide +kernel
theorem dL_law_22 : decode cL_law 22 = .ok (.invokevirtual 47, 3) := by decide +kernel
theorem dL_law_25 : decode cL_law 25 = .ok (.istore_n 3, 1) := by decide +kernel
theorem dL_law_26 : decode cL_law 26 = .ok (.aload_n 1, 1) := by decide +kernel
theorem dL_law_27 : decode cL_law 27 = .ok (.invokevirtual 66, 3) := by decide +kernel
theorem dL_law_30 : decode cL_law 30 = .ok (.istore 4, 2) := by decide +kernel
theorem dL_law_32 : decode cL_law 32 = .ok (.iconst 0, 1) := by decide +kernel
theorem dL_law_33 : decode cL_law 33 = .ok (.istore 5, 2) := by decide +kernel
theorem dL_law_35 : decode cL_law 35 = .ok (.iload 5, 2) := by decide +kernel
theorem dL_law_37 : decode cL_law 37 = .ok (.bipush 12, 2) := by decide +kernel
theorem dL_law_39 : decode cL_law 39 = .ok (.if_icmp .ge 609, 3) := by decide +kernel
theorem dL_law_42 : decode cL_law 42 = .ok (.bipush 8, 2) := by decide +kernel
theorem dL_law_44 : decode cL_law 44 = .ok (.newarray .int, 2) := by decide +kernel
theorem dL_law_46 : decode cL_law 46 = .ok (.astore 6, 2) := by decide +kernel
theorem dL_law_48 : decode cL_law 48 = .ok (.bipush 8, 2) := by decide +kernel
theorem dL_law_50 : decode cL_law 50 = .ok (.newarray .int, 2) := by decide +kernel
theorem dL_law_52 : decode cL_law 52 = .ok (.astore 7, 2) := by decide +kernel
theorem dL_law_54 : decode cL_law 54 = .ok (.iconst 5, 1) := by decide +kernel
theorem dL_law_55 : decode cL_law 55 = .ok (.newarray .int, 2) := by decide +kernel
theorem dL_law_57 : decode cL_law 57 = .ok (.astore 8, 2) := by decide +kernel
theorem dL_law_59 : decode cL_law 59 = .ok (.iconst 5, 1) := by decide +kernel
theorem dL_law_60 : decode cL_law 60 = .ok (.newarray .int, 2) := by decide +kernel
theorem dL_law_62 : decode cL_law 62 = .ok (.astore 9, 2) := by decide +kernel
theorem dL_law_64 : decode cL_law 64 = .ok (.iconst 0, 1) := by decide +kernel
theorem dL_law_65 : decode cL_law 65 = .ok (.istore 10, 2) := by decide +kernel
theorem dL_law_67 : decode cL_law 67 = .ok (.iload 10, 2) := by decide +kernel
theorem dL_law_69 : decode cL_law 69 = .ok (.iload_n 3, 1) := by decide +kernel
theorem dL_law_70 : decode cL_law 70 = .ok (.if_icmp .ge 33, 3) := by decide +kernel
theorem dL_law_73 : decode cL_law 73 = .ok (.aload 6, 2) := by decide +kernel
theorem dL_law_75 : decode cL_law 75 = .ok (.iload 10, 2) := by decide +kernel
theorem dL_law_77 : decode cL_law 77 = .ok (.aload_n 1, 1) := by decide +kernel
theorem dL_law_78 : decode cL_law 78 = .ok (.iload 10, 2) := by decide +kernel
theorem dL_law_80 : decode cL_law 80 = .ok (.iconst 2, 1) := by decide +kernel
theorem dL_law_81 : decode cL_law 81 = .ok (.invokevirtual 69, 3) := by decide +kernel
theorem dL_law_84 : decode cL_law 84 = .ok (.iastore, 1) := by decide +kernel
theorem dL_law_85 : decode cL_law 85 = .ok (.aload 7, 2) := by decide +kernel
theorem dL_law_87 : decode cL_law 87 = .ok (.iload 10, 2) := by decide +kernel
theorem dL_law_89 : decode cL_law 89 = .ok (.aload_n 1, 1) := by decide +kernel
theorem dL_law_90 : decode cL_law 90 = .ok (.iload 10, 2) := by decide +kernel
theorem dL_law_92 : decode cL_law 92 = .ok (.iconst 0, 1) := by decide +kernel
theorem dL_law_93 : decode cL_law 93 = .ok (.invokevirtual 69, 3) := by decide +kernel
theorem dL_law_96 : decode cL_law 96 = .ok (.iastore, 1) := by decide +kernel
theorem dL_law_97 : decode cL_law 97 = .ok (.iinc 10 1, 3) := by decide +kernel
theorem dL_law_100 : decode cL_law 100 = .ok (.goto (-33), 3) := by decide +kernel
theorem dL_law_103 : decode cL_law 103 = .ok (.iconst 0, 1) := by decide +kernel
theorem dL_law_104 : decode cL_law 104 = .ok (.istore 10, 2) := by decide +kernel
theorem dL_law_106 : decode cL_law 106 = .ok (.iload 10, 2) := by decide +kernel
theorem dL_law_108 : decode cL_law 108 = .ok (.iload_n 2, 1) := by decide +kernel
theorem dL_law_109 : decode cL_law 109 = .ok (.if_icmp .ge 34, 3) := by decide +kernel
theorem dL_law_112 : decode cL_law 112 = .ok (.aload 8, 2) := by decide +kernel
theorem dL_law_114 : decode cL_law 114 = .ok (.iload 10, 2) := by decide +kernel
theorem dL_law_116 : decode cL_law 116 = .ok (.aload_n 1, 1) := by decide +kernel
theorem dL_law_117 : decode cL_law 117 = .ok (.iload 10, 2) := by decide +kernel
theorem dL_law_119 : decode cL_law 119 = .ok (.iconst 3, 1) := by decide +kernel
theorem dL_law_120 : decode cL_law 120 = .ok (.invokevirtual 72, 3) := by decide +kernel
theorem dL_law_123 : decode cL_law 123 = .ok (.iastore, 1) := by decide +kernel
theorem dL_law_124 : decode cL_law 124 = .ok (.aload 9, 2) := by decide +kernel
theorem dL_law_126 : decode cL_law 126 = .ok (.iload 10, 2) := by decide +kernel
theorem dL_law_128 : decode cL_law 128 = .ok (.aload_n 1, 1) := by decide +kernel
theorem dL_law_129 : decode cL_law 129 = .ok (.iload 10, 2) := by decide +kernel
theorem dL_law_131 : decode cL_law 131 = .ok (.bipush 7, 2) := by decide +kernel
theorem dL_law_133 : decode cL_law 133 = .ok (.invokevirtual 72, 3) := by decide +kernel
theorem dL_law_136 : decode cL_law 136 = .ok (.iastore, 1) := by decide +kernel
theorem dL_law_137 : decode cL_law 137 = .ok (.iinc 10 1, 3) := by decide +kernel
theorem dL_law_140 : decode cL_law 140 = .ok (.goto (-34), 3) := by decide +kernel
theorem dL_law_143 : decode cL_law 143 = .ok (.aload_n 1, 1) := by decide +kernel
theorem dL_law_144 : decode cL_law 144 = .ok (.iconst 1, 1) := by decide +kernel
theorem dL_law_145 : decode cL_law 145 = .ok (.iconst 0, 1) := by decide +kernel
theorem dL_law_146 : decode cL_law 146 = .ok (.invokevirtual 75, 3) := by decide +kernel
theorem dL_law_149 : decode cL_law 149 = .ok (.istore 10, 2) := by decide +kernel
theorem dL_law_151 : decode cL_law 151 = .ok (.aload_n 1, 1) := by decide +kernel
theorem dL_law_152 : decode cL_law 152 = .ok (.iconst 1, 1) := by decide +kernel
theorem dL_law_153 : decode cL_law 153 = .ok (.iconst 1, 1) := by decide +kernel
theorem dL_law_154 : decode cL_law 154 = .ok (.invokevirtual 75, 3) := by decide +kernel
theorem dL_law_157 : decode cL_law 157 = .ok (.istore 11, 2) := by decide +kernel
theorem dL_law_159 : decode cL_law 159 = .ok (.aload_n 1, 1) := by decide +kernel
theorem dL_law_160 : decode cL_law 160 = .ok (.iconst 1, 1) := by decide +kernel
theorem dL_law_161 : decode cL_law 161 = .ok (.iconst 2, 1) := by decide +kernel
theorem dL_law_162 : decode cL_law 162 = .ok (.invokevirtual 75, 3) := by decide +kernel
theorem dL_law_165 : decode cL_law 165 = .ok (.istore 12, 2) := by decide +kernel
theorem dL_law_167 : decode cL_law 167 = .ok (.aload_n 1, 1) := by decide +kernel
theorem dL_law_168 : decode cL_law 168 = .ok (.iconst 1, 1) := by decide +kernel
theorem dL_law_169 : decode cL_law 169 = .ok (.invokevirtual 59, 3) := by decide +kernel
theorem dL_law_172 : decode cL_law 172 = .ok (.iload 11, 2) := by decide +kernel
theorem dL_law_174 : decode cL_law 174 = .ok (.if_icmp .ne 61, 3) := by decide +kernel
theorem dL_law_177 : decode cL_law 177 = .ok (.aload_n 1, 1) := by decide +kernel
theorem dL_law_178 : decode cL_law 178 = .ok (.iconst 3, 1) := by decide +kernel
theorem dL_law_179 : decode cL_law 179 = .ok (.invokevirtual 47, 3) := by decide +kernel
theorem dL_law_182 : decode cL_law 182 = .ok (.iload 4, 2) := by decide +kernel
theorem dL_law_184 : decode cL_law 184 = .ok (.iload 5, 2) := by decide +kernel
theorem dL_law_186 : decode cL_law 186 = .ok (.iadd, 1) := by decide +kernel
theorem dL_law_187 : decode cL_law 187 = .ok (.iconst 1, 1) := by decide +kernel
theorem dL_law_188 : decode cL_law 188 = .ok (.iadd, 1) := by decide +kernel
theorem dL_law_189 : decode cL_law 189 = .ok (.if_icmp .ne 46, 3) := by decide +kernel
theorem dL_law_192 : decode cL_law 192 = .ok (.aload_n 1, 1) := by decide +kernel
theorem dL_law_193 : decode cL_law 193 = .ok (.bipush 9, 2) := by decide +kernel
theorem dL_law_195 : decode cL_law 195 = .ok (.invokevirtual 47, 3) := by decide +kernel
theorem dL_law_198 : decode cL_law 198 = .ok (.iload 10, 2) := by decide +kernel
theorem dL_law_200 : decode cL_law 200 = .ok (.if_icmp .ne 35, 3) := by decide +kernel
theorem dL_law_203 : decode cL_law 203 = .ok (.aload_n 1, 1) := by decide +kernel
theorem dL_law_204 : decode cL_law 204 = .ok (.iconst 1, 1) := by decide +kernel
theorem dL_law_205 : decode cL_law 205 = .ok (.invokevirtual 78, 3) := by decide +kernel
theorem dL_law_208 : decode cL_law 208 = .ok (.iload 12, 2) := by decide +kernel
theorem dL_law_210 : decode cL_law 210 = .ok (.if_icmp .ne 25, 3) := by decide +kernel
theorem dL_law_213 : decode cL_law 213 = .ok (.aload_n 1, 1) := by decide +kernel
theorem dL_law_214 : decode cL_law 214 = .ok (.iconst 5, 1) := by decide +kernel
theorem dL_law_215 : decode cL_law 215 = .ok (.invokevirtual 47, 3) := by decide +kernel
theorem dL_law_218 : decode cL_law 218 = .ok (.iload 11, 2) := by decide +kernel
theorem dL_law_220 : decode cL_law 220 = .ok (.if_icmp .ne 15, 3) := by decide +kernel
theorem dL_law_223 : decode cL_law 223 = .ok (.iload_n 3, 1) := by decide +kernel
theorem dL_law_224 : decode cL_law 224 = .ok (.iload 12, 2) := by decide +kernel
theorem dL_law_226 : decode cL_law 226 = .ok (.invokestatic 81, 3) := by decide +kernel
theorem dL_law_229 : decode cL_law 229 = .ok (.isub, 1) := by decide +kernel
theorem dL_law_230 : decode cL_law 230 = .ok (.iload 11, 2) := by decide +kernel
theorem dL_law_232 : decode cL_law 232 = .ok (.if_icmp .eq 5, 3) := by decide +kernel
theorem dL_law_235 : decode cL_law 235 = .ok (.iconst 0, 1) := by decide +kernel
theorem dL_law_236 : decode cL_law 236 = .ok (.ireturn, 1) := by decide +kernel
theorem dL_law_237 : decode cL_law 237 = .ok (.iconst 5, 1) := by decide +kernel
theorem dL_law_238 : decode cL_law 238 = .ok (.newarray .int, 2) := by decide +kernel
theorem dL_law_240 : decode cL_law 240 = .ok (.astore 13, 2) := by decide +kernel
theorem dL_law_242 : decode cL_law 242 = .ok (.iconst 0, 1) := by decide +kernel
theorem dL_law_243 : decode cL_law 243 = .ok (.istore 14, 2) := by decide +kernel
theorem dL_law_245 : decode cL_law 245 = .ok (.iload 14, 2) := by decide +kernel
theorem dL_law_247 : decode cL_law 247 = .ok (.iload_n 3, 1) := by decide +kernel
theorem dL_law_248 : decode cL_law 248 = .ok (.if_icmp .ge 96, 3) := by decide +kernel
theorem dL_law_251 : decode cL_law 251 = .ok (.aload_n 1, 1) := by decide +kernel
theorem dL_law_252 : decode cL_law 252 = .ok (.iload 14, 2) := by decide +kernel
theorem dL_law_254 : decode cL_law 254 = .ok (.iconst 2, 1) := by decide +kernel
theorem dL_law_255 : decode cL_law 255 = .ok (.invokevirtual 69, 3) := by decide +kernel
theorem dL_law_258 : decode cL_law 258 = .ok (.istore 15, 2) := by decide +kernel
theorem dL_law_260 : decode cL_law 260 = .ok (.aload_n 1, 1) := by decide +kernel
theorem dL_law_261 : decode cL_law 261 = .ok (.iload 14, 2) := by decide +kernel
theorem dL_law_263 : decode cL_law 263 = .ok (.iconst 1, 1) := by decide +kernel
theorem dL_law_264 : decode cL_law 264 = .ok (.invokevirtual 69, 3) := by decide +kernel
theorem dL_law_267 : decode cL_law 267 = .ok (.istore 16, 2) := by decide +kernel
theorem dL_law_269 : decode cL_law 269 = .ok (.aload_n 1, 1) := by decide +kernel
theorem dL_law_270 : decode cL_law 270 = .ok (.iload 14, 2) := by decide +kernel
theorem dL_law_272 : decode cL_law 272 = .ok (.iconst 0, 1) := by decide +kernel
theorem dL_law_273 : decode cL_law 273 = .ok (.invokevirtual 69, 3) := by decide +kernel
theorem dL_law_276 : decode cL_law 276 = .ok (.aload 7, 2) := by decide +kernel
theorem dL_law_278 : decode cL_law 278 = .ok (.iload 14, 2) := by decide +kernel
theorem dL_law_280 : decode cL_law 280 = .ok (.iaload, 1) := by decide +kernel
theorem dL_law_281 : decode cL_law 281 = .ok (.if_icmp .eq 5, 3) := by decide +kernel
theorem dL_law_284 : decode cL_law 284 = .ok (.iconst 0, 1) := by decide +kernel
theorem dL_law_285 : decode cL_law 285 = .ok (.ireturn, 1) := by decide +kernel
theorem dL_law_286 : decode cL_law 286 = .ok (.iload 15, 2) := by decide +kernel
theorem dL_law_288 : decode cL_law 288 = .ok (.ifCond .lt 50, 3) := by decide +kernel
theorem dL_law_291 : decode cL_law 291 = .ok (.iload 15, 2) := by decide +kernel
theorem dL_law_293 : decode cL_law 293 = .ok (.aload 6, 2) := by decide +kernel
theorem dL_law_295 : decode cL_law 295 = .ok (.iload 14, 2) := by decide +kernel
theorem dL_law_297 : decode cL_law 297 = .ok (.iaload, 1) := by decide +kernel
theorem dL_law_298 : decode cL_law 298 = .ok (.if_icmp .ne 6, 3) := by decide +kernel
theorem dL_law_301 : decode cL_law 301 = .ok (.goto 37, 3) := by decide +kernel
theorem dL_law_304 : decode cL_law 304 = .ok (.aload 13, 2) := by decide +kernel
theorem dL_law_306 : decode cL_law 306 = .ok (.iload 15, 2) := by decide +kernel
theorem dL_law_308 : decode cL_law 308 = .ok (.dup2, 1) := by decide +kernel
theorem dL_law_309 : decode cL_law 309 = .ok (.iaload, 1) := by decide +kernel
theorem dL_law_310 : decode cL_law 310 = .ok (.iconst 1, 1) := by decide +kernel
theorem dL_law_311 : decode cL_law 311 = .ok (.iadd, 1) := by decide +kernel
theorem dL_law_312 : decode cL_law 312 = .ok (.iastore, 1) := by decide +kernel
theorem dL_law_313 : decode cL_law 313 = .ok (.aload_n 1, 1) := by decide +kernel
theorem dL_law_314 : decode cL_law 314 = .ok (.iload 15, 2) := by decide +kernel
theorem dL_law_316 : decode cL_law 316 = .ok (.iconst 3, 1) := by decide +kernel
theorem dL_law_317 : decode cL_law 317 = .ok (.invokevirtual 72, 3) := by decide +kernel
theorem dL_law_320 : decode cL_law 320 = .ok (.iload 16, 2) := by decide +kernel
theorem dL_law_322 : decode cL_law 322 = .ok (.if_icmp .ne 14, 3) := by decide +kernel
theorem dL_law_325 : decode cL_law 325 = .ok (.aload_n 1, 1) := by decide +kernel
theorem dL_law_326 : decode cL_law 326 = .ok (.iload 15, 2) := by decide +kernel
theorem dL_law_328 : decode cL_law 328 = .ok (.iconst 5, 1) := by decide +kernel
theorem dL_law_329 : decode cL_law 329 = .ok (.invokevirtual 72, 3) := by decide +kernel
theorem dL_law_332 : decode cL_law 332 = .ok (.iconst 1, 1) := by decide +kernel
theorem dL_law_333 : decode cL_law 333 = .ok (.if_icmp .ge 5, 3) := by decide +kernel
theorem dL_law_336 : decode cL_law 336 = .ok (.iconst 0, 1) := by decide +kernel
theorem dL_law_337 : decode cL_law 337 = .ok (.ireturn, 1) := by decide +kernel
theorem dL_law_338 : decode cL_law 338 = .ok (.iinc 14 1, 3) := by decide +kernel
theorem dL_law_341 : decode cL_law 341 = .ok (.goto (-96), 3) := by decide +kernel
theorem dL_law_344 : decode cL_law 344 = .ok (.iconst 0, 1) := by decide +kernel
theorem dL_law_345 : decode cL_law 345 = .ok (.istore 14, 2) := by decide +kernel
theorem dL_law_347 : decode cL_law 347 = .ok (.iload 14, 2) := by decide +kernel
theorem dL_law_349 : decode cL_law 349 = .ok (.iload_n 2, 1) := by decide +kernel
theorem dL_law_350 : decode cL_law 350 = .ok (.if_icmp .ge 292, 3) := by decide +kernel
theorem dL_law_353 : decode cL_law 353 = .ok (.aload_n 1, 1) := by decide +kernel
theorem dL_law_354 : decode cL_law 354 = .ok (.iload 14, 2) := by decide +kernel
theorem dL_law_356 : decode cL_law 356 = .ok (.iconst 3, 1) := by decide +kernel
theorem dL_law_357 : decode cL_law 357 = .ok (.invokevirtual 72, 3) := by decide +kernel
theorem dL_law_360 : decode cL_law 360 = .ok (.bipush 6, 2) := by decide +kernel
theorem dL_law_362 : decode cL_law 362 = .ok (.idiv, 1) := by decide +kernel
theorem dL_law_363 : decode cL_law 363 = .ok (.aload 8, 2) := by decide +kernel
theorem dL_law_365 : decode cL_law 365 = .ok (.iload 14, 2) := by decide +kernel
theorem dL_law_367 : decode cL_law 367 = .ok (.iaload, 1) := by decide +kernel
theorem dL_law_368 : decode cL_law 368 = .ok (.bipush 6, 2) := by decide +kernel
theorem dL_law_370 : decode cL_law 370 = .ok (.idiv, 1) := by decide +kernel
theorem dL_law_371 : decode cL_law 371 = .ok (.isub, 1) := by decide +kernel
theorem dL_law_372 : decode cL_law 372 = .ok (.invokestatic 86, 3) := by decide +kernel
theorem dL_law_375 : decode cL_law 375 = .ok (.aload_n 1, 1) := by decide +kernel
theorem dL_law_376 : decode cL_law 376 = .ok (.iload 14, 2) := by decide +kernel
theorem dL_law_378 : decode cL_law 378 = .ok (.iconst 3, 1) := by decide +kernel
theorem dL_law_379 : decode cL_law 379 = .ok (.invokevirtual 72, 3) := by decide +kernel
theorem dL_law_382 : decode cL_law 382 = .ok (.bipush 6, 2) := by decide +kernel
theorem dL_law_384 : decode cL_law 384 = .ok (.irem, 1) := by decide +kernel
theorem dL_law_385 : decode cL_law 385 = .ok (.aload 8, 2) := by decide +kernel
theorem dL_law_387 : decode cL_law 387 = .ok (.iload 14, 2) := by decide +kernel
theorem dL_law_389 : decode cL_law 389 = .ok (.iaload, 1) := by decide +kernel
theorem dL_law_390 : decode cL_law 390 = .ok (.bipush 6, 2) := by decide +kernel
theorem dL_law_392 : decode cL_law 392 = .ok (.irem, 1) := by decide +kernel
theorem dL_law_393 : decode cL_law 393 = .ok (.isub, 1) := by decide +kernel
theorem dL_law_394 : decode cL_law 394 = .ok (.invokestatic 86, 3) := by decide +kernel
theorem dL_law_397 : decode cL_law 397 = .ok (.iadd, 1) := by decide +kernel
theorem dL_law_398 : decode cL_law 398 = .ok (.istore 15, 2) := by decide +kernel
theorem dL_law_400 : decode cL_law 400 = .ok (.aload_n 1, 1) := by decide +kernel
theorem dL_law_401 : decode cL_law 401 = .ok (.iload 14, 2) := by decide +kernel
theorem dL_law_403 : decode cL_law 403 = .ok (.iconst 0, 1) := by decide +kernel
theorem dL_law_404 : decode cL_law 404 = .ok (.invokevirtual 72, 3) := by decide +kernel
theorem dL_law_407 : decode cL_law 407 = .ok (.istore 16, 2) := by decide +kernel
theorem dL_law_409 : decode cL_law 409 = .ok (.aload 13, 2) := by decide +kernel
theorem dL_law_411 : decode cL_law 411 = .ok (.iload 14, 2) := by decide +kernel
theorem dL_law_413 : decode cL_law 413 = .ok (.iaload, 1) := by decide +kernel
theorem dL_law_414 : decode cL_law 414 = .ok (.aload_n 1, 1) := by decide +kernel
theorem dL_law_415 : decode cL_law 415 = .ok (.iload 14, 2) := by decide +kernel
theorem dL_law_417 : decode cL_law 417 = .ok (.iconst 5, 1) := by decide +kernel
theorem dL_law_418 : decode cL_law 418 = .ok (.invokevirtual 72, 3) := by decide +kernel
theorem dL_law_421 : decode cL_law 421 = .ok (.if_icmp .gt 47, 3) := by decide +kernel
theorem dL_law_424 : decode cL_law 424 = .ok (.iload 15, 2) := by decide +kernel
theorem dL_law_426 : decode cL_law 426 = .ok (.aload_n 1, 1) := by decide +kernel
theorem dL_law_427 : decode cL_law 427 = .ok (.iload 14, 2) := by decide +kernel
theorem dL_law_429 : decode cL_law 429 = .ok (.iconst 4, 1) := by decide +kernel
theorem dL_law_430 : decode cL_law 430 = .ok (.invokevirtual 72, 3) := by decide +kernel
theorem dL_law_433 : decode cL_law 433 = .ok (.if_icmp .gt 35, 3) := by decide +kernel
theorem dL_law_436 : decode cL_law 436 = .ok (.iload 16, 2) := by decide +kernel
theorem dL_law_438 : decode cL_law 438 = .ok (.ifCond .eq 15, 3) := by decide +kernel
theorem dL_law_441 : decode cL_law 441 = .ok (.iload 16, 2) := by decide +kernel
theorem dL_law_443 : decode cL_law 443 = .ok (.iconst 3, 1) := by decide +kernel
theorem dL_law_444 : decode cL_law 444 = .ok (.if_icmp .eq 9, 3) := by decide +kernel
theorem dL_law_447 : decode cL_law 447 = .ok (.iload 16, 2) := by decide +kernel
theorem dL_law_449 : decode cL_law 449 = .ok (.iconst 4, 1) := by decide +kernel
theorem dL_law_450 : decode cL_law 450 = .ok (.if_icmp .ne 20, 3) := by decide +kernel
theorem dL_law_453 : decode cL_law 453 = .ok (.aload 9, 2) := by decide +kernel
theorem dL_law_455 : decode cL_law 455 = .ok (.iload 14, 2) := by decide +kernel
theorem dL_law_457 : decode cL_law 457 = .ok (.iaload, 1) := by decide +kernel
theorem dL_law_458 : decode cL_law 458 = .ok (.aload_n 1, 1) := by decide +kernel
theorem dL_law_459 : decode cL_law 459 = .ok (.iload 14, 2) := by decide +kernel
theorem dL_law_461 : decode cL_law 461 = .ok (.iconst 2, 1) := by decide +kernel
theorem dL_law_462 : decode cL_law 462 = .ok (.invokevirtual 72, 3) := by decide +kernel
theorem dL_law_465 : decode cL_law 465 = .ok (.if_icmp .eq 5, 3) := by decide +kernel
theorem dL_law_468 : decode cL_law 468 = .ok (.iconst 0, 1) := by decide +kernel
theorem dL_law_469 : decode cL_law 469 = .ok (.ireturn, 1) := by decide +kernel
theorem dL_law_470 : decode cL_law 470 = .ok (.iload 14, 2) := by decide +kernel
theorem dL_law_472 : decode cL_law 472 = .ok (.ifCond .ne 84, 3) := by decide +kernel
theorem dL_law_475 : decode cL_law 475 = .ok (.iload 16, 2) := by decide +kernel
theorem dL_law_477 : decode cL_law 477 = .ok (.bipush 7, 2) := by decide +kernel
theorem dL_law_479 : decode cL_law 479 = .ok (.if_icmp .eq 77, 3) := by decide +kernel
theorem dL_law_482 : decode cL_law 482 = .ok (.aload 9, 2) := by decide +kernel
theorem dL_law_484 : decode cL_law 484 = .ok (.iload 14, 2) := by decide +kernel
theorem dL_law_486 : decode cL_law 486 = .ok (.iaload, 1) := by decide +kernel
theorem dL_law_487 : decode cL_law 487 = .ok (.bipush 6, 2) := by decide +kernel
theorem dL_law_489 : decode cL_law 489 = .ok (.idiv, 1) := by decide +kernel
theorem dL_law_490 : decode cL_law 490 = .ok (.aload 8, 2) := by decide +kernel
theorem dL_law_492 : decode cL_law 492 = .ok (.iload 14, 2) := by decide +kernel
theorem dL_law_494 : decode cL_law 494 = .ok (.iaload, 1) := by decide +kernel
theorem dL_law_495 : decode cL_law 495 = .ok (.bipush 6, 2) := by decide +kernel
theorem dL_law_497 : decode cL_law 497 = .ok (.idiv, 1) := by decide +kernel
theorem dL_law_498 : decode cL_law 498 = .ok (.isub, 1) := by decide +kernel
theorem dL_law_499 : decode cL_law 499 = .ok (.invokestatic 86, 3) := by decide +kernel
theorem dL_law_502 : decode cL_law 502 = .ok (.aload 9, 2) := by decide +kernel
theorem dL_law_504 : decode cL_law 504 = .ok (.iload 14, 2) := by decide +kernel
theorem dL_law_506 : decode cL_law 506 = .ok (.iaload, 1) := by decide +kernel
theorem dL_law_507 : decode cL_law 507 = .ok (.bipush 6, 2) := by decide +kernel
theorem dL_law_509 : decode cL_law 509 = .ok (.irem, 1) := by decide +kernel
theorem dL_law_510 : decode cL_law 510 = .ok (.aload 8, 2) := by decide +kernel
theorem dL_law_512 : decode cL_law 512 = .ok (.iload 14, 2) := by decide +kernel
theorem dL_law_514 : decode cL_law 514 = .ok (.iaload, 1) := by decide +kernel
theorem dL_law_515 : decode cL_law 515 = .ok (.bipush 6, 2) := by decide +kernel
theorem dL_law_517 : decode cL_law 517 = .ok (.irem, 1) := by decide +kernel
theorem dL_law_518 : decode cL_law 518 = .ok (.isub, 1) := by decide +kernel
theorem dL_law_519 : decode cL_law 519 = .ok (.invokestatic 86, 3) := by decide +kernel
theorem dL_law_522 : decode cL_law 522 = .ok (.iadd, 1) := by decide +kernel
theorem dL_law_523 : decode cL_law 523 = .ok (.istore 17, 2) := by decide +kernel
theorem dL_law_525 : decode cL_law 525 = .ok (.iload 16, 2) := by decide +kernel
theorem dL_law_527 : decode cL_law 527 = .ok (.iconst 1, 1) := by decide +kernel
theorem dL_law_528 : decode cL_law 528 = .ok (.if_icmp .eq 28, 3) := by decide +kernel
theorem dL_law_531 : decode cL_law 531 = .ok (.iload 16, 2) := by decide +kernel
theorem dL_law_533 : decode cL_law 533 = .ok (.iconst 2, 1) := by decide +kernel
theorem dL_law_534 : decode cL_law 534 = .ok (.if_icmp .eq 22, 3) := by decide +kernel
theorem dL_law_537 : decode cL_law 537 = .ok (.iload 15, 2) := by decide +kernel
theorem dL_law_539 : decode cL_law 539 = .ok (.iload 17, 2) := by decide +kernel
theorem dL_law_541 : decode cL_law 541 = .ok (.aload_n 1, 1) := by decide +kernel
theorem dL_law_542 : decode cL_law 542 = .ok (.iload 14, 2) := by decide +kernel
theorem dL_law_544 : decode cL_law 544 = .ok (.iconst 4, 1) := by decide +kernel
theorem dL_law_545 : decode cL_law 545 = .ok (.invokevirtual 72, 3) := by decide +kernel
theorem dL_law_548 : decode cL_law 548 = .ok (.invokestatic 91, 3) := by decide +kernel
theorem dL_law_551 : decode cL_law 551 = .ok (.if_icmp .eq 5, 3) := by decide +kernel
theorem dL_law_554 : decode cL_law 554 = .ok (.iconst 0, 1) := by decide +kernel
theorem dL_law_555 : decode cL_law 555 = .ok (.ireturn, 1) := by decide +kernel
theorem dL_law_556 : decode cL_law 556 = .ok (.iconst 0, 1) := by decide +kernel
theorem dL_law_557 : decode cL_law 557 = .ok (.istore 17, 2) := by decide +kernel
theorem dL_law_559 : decode cL_law 559 = .ok (.iconst 0, 1) := by decide +kernel
theorem dL_law_560 : decode cL_law 560 = .ok (.istore 18, 2) := by decide +kernel
theorem dL_law_562 : decode cL_law 562 = .ok (.iload 18, 2) := by decide +kernel
theorem dL_law_564 : decode cL_law 564 = .ok (.iload_n 3, 1) := by decide +kernel
theorem dL_law_565 : decode cL_law 565 = .ok (.if_icmp .ge 35, 3) := by decide +kernel
theorem dL_law_568 : decode cL_law 568 = .ok (.iload 17, 2) := by decide +kernel
theorem dL_law_570 : decode cL_law 570 = .ok (.aload_n 1, 1) := by decide +kernel
theorem dL_law_571 : decode cL_law 571 = .ok (.iload 18, 2) := by decide +kernel
theorem dL_law_573 : decode cL_law 573 = .ok (.iconst 2, 1) := by decide +kernel
theorem dL_law_574 : decode cL_law 574 = .ok (.invokevirtual 69, 3) := by decide +kernel
theorem dL_law_577 : decode cL_law 577 = .ok (.iload 14, 2) := by decide +kernel
theorem dL_law_579 : decode cL_law 579 = .ok (.if_icmp .ne 11, 3) := by decide +kernel
theorem dL_law_582 : decode cL_law 582 = .ok (.aload 7, 2) := by decide +kernel
theorem dL_law_584 : decode cL_law 584 = .ok (.iload 18, 2) := by decide +kernel
theorem dL_law_586 : decode cL_law 586 = .ok (.iaload, 1) := by decide +kernel
theorem dL_law_587 : decode cL_law 587 = .ok (.goto 4, 3) := by decide +kernel
theorem dL_law_590 : decode cL_law 590 = .ok (.iconst 0, 1) := by decide +kernel
theorem dL_law_591 : decode cL_law 591 = .ok (.iadd, 1) := by decide +kernel
theorem dL_law_592 : decode cL_law 592 = .ok (.istore 17, 2) := by decide +kernel
theorem dL_law_594 : decode cL_law 594 = .ok (.iinc 18 1, 3) := by decide +kernel
theorem dL_law_597 : decode cL_law 597 = .ok (.goto (-35), 3) := by decide +kernel
theorem dL_law_600 : decode cL_law 600 = .ok (.aload_n 1, 1) := by decide +kernel
theorem dL_law_601 : decode cL_law 601 = .ok (.iload 14, 2) := by decide +kernel
theorem dL_law_603 : decode cL_law 603 = .ok (.bipush 8, 2) := by decide +kernel
theorem dL_law_605 : decode cL_law 605 = .ok (.invokevirtual 72, 3) := by decide +kernel
theorem dL_law_608 : decode cL_law 608 = .ok (.iload 17, 2) := by decide +kernel
theorem dL_law_610 : decode cL_law 610 = .ok (.if_icmp .ne 24, 3) := by decide +kernel
theorem dL_law_613 : decode cL_law 613 = .ok (.aload_n 1, 1) := by decide +kernel
theorem dL_law_614 : decode cL_law 614 = .ok (.aload_n 1, 1) := by decide +kernel
theorem dL_law_615 : decode cL_law 615 = .ok (.iload 14, 2) := by decide +kernel
theorem dL_law_617 : decode cL_law 617 = .ok (.iconst 3, 1) := by decide +kernel
theorem dL_law_618 : decode cL_law 618 = .ok (.invokevirtual 72, 3) := by decide +kernel
theorem dL_law_621 : decode cL_law 621 = .ok (.iconst 3, 1) := by decide +kernel
theorem dL_law_622 : decode cL_law 622 = .ok (.invokevirtual 94, 3) := by decide +kernel
theorem dL_law_625 : decode cL_law 625 = .ok (.iload 14, 2) := by decide +kernel
theorem dL_law_627 : decode cL_law 627 = .ok (.ishr, 1) := by decide +kernel
theorem dL_law_628 : decode cL_law 628 = .ok (.iconst 1, 1) := by decide +kernel
theorem dL_law_629 : decode cL_law 629 = .ok (.iand, 1) := by decide +kernel
theorem dL_law_630 : decode cL_law 630 = .ok (.iconst 1, 1) := by decide +kernel
theorem dL_law_631 : decode cL_law 631 = .ok (.if_icmp .eq 5, 3) := by decide +kernel
theorem dL_law_634 : decode cL_law 634 = .ok (.iconst 0, 1) := by decide +kernel
theorem dL_law_635 : decode cL_law 635 = .ok (.ireturn, 1) := by decide +kernel
theorem dL_law_636 : decode cL_law 636 = .ok (.iinc 14 1, 3) := by decide +kernel
theorem dL_law_639 : decode cL_law 639 = .ok (.goto (-292), 3) := by decide +kernel
theorem dL_law_642 : decode cL_law 642 = .ok (.iinc 5 1, 3) := by decide +kernel
theorem dL_law_645 : decode cL_law 645 = .ok (.goto (-610), 3) := by decide +kernel
theorem dL_law_648 : decode cL_law 648 = .ok (.aload_n 1, 1) := by decide +kernel
theorem dL_law_649 : decode cL_law 649 = .ok (.bipush 9, 2) := by decide +kernel
theorem dL_law_651 : decode cL_law 651 = .ok (.invokevirtual 47, 3) := by decide +kernel
theorem dL_law_654 : decode cL_law 654 = .ok (.istore 5, 2) := by decide +kernel
theorem dL_law_656 : decode cL_law 656 = .ok (.iconst 0, 1) := by decide +kernel
theorem dL_law_657 : decode cL_law 657 = .ok (.istore 6, 2) := by decide +kernel
theorem dL_law_659 : decode cL_law 659 = .ok (.iload 5, 2) := by decide +kernel
theorem dL_law_661 : decode cL_law 661 = .ok (.istore 7, 2) := by decide +kernel
theorem dL_law_663 : decode cL_law 663 = .ok (.iconst 0, 1) := by decide +kernel
theorem dL_law_664 : decode cL_law 664 = .ok (.istore 8, 2) := by decide +kernel
theorem dL_law_666 : decode cL_law 666 = .ok (.iload 8, 2) := by decide +kernel
theorem dL_law_668 : decode cL_law 668 = .ok (.bipush 24, 2) := by decide +kernel
theorem dL_law_670 : decode cL_law 670 = .ok (.if_icmp .ge 211, 3) := by decide +kernel
theorem dL_law_673 : decode cL_law 673 = .ok (.aload_n 1, 1) := by decide +kernel
theorem dL_law_674 : decode cL_law 674 = .ok (.iload 8, 2) := by decide +kernel
theorem dL_law_676 : decode cL_law 676 = .ok (.iconst 1, 1) := by decide +kernel
theorem dL_law_677 : decode cL_law 677 = .ok (.invokevirtual 94, 3) := by decide +kernel
theorem dL_law_680 : decode cL_law 680 = .ok (.aload_n 1, 1) := by decide +kernel
theorem dL_law_681 : decode cL_law 681 = .ok (.iconst 4, 1) := by decide +kernel
theorem dL_law_682 : decode cL_law 682 = .ok (.invokevirtual 47, 3) := by decide +kernel
theorem dL_law_685 : decode cL_law 685 = .ok (.if_icmp .lt 7, 3) := by decide +kernel
theorem dL_law_688 : decode cL_law 688 = .ok (.iconst 1, 1) := by decide +kernel
theorem dL_law_689 : decode cL_law 689 = .ok (.goto 4, 3) := by decide +kernel
theorem dL_law_692 : decode cL_law 692 = .ok (.iconst 0, 1) := by decide +kernel
theorem dL_law_693 : decode cL_law 693 = .ok (.iload 5, 2) := by decide +kernel
theorem dL_law_695 : decode cL_law 695 = .ok (.iload 8, 2) := by decide +kernel
theorem dL_law_697 : decode cL_law 697 = .ok (.ishr, 1) := by decide +kernel
theorem dL_law_698 : decode cL_law 698 = .ok (.iconst 1, 1) := by decide +kernel
theorem dL_law_699 : decode cL_law 699 = .ok (.iand, 1) := by decide +kernel
theorem dL_law_700 : decode cL_law 700 = .ok (.iconst 1, 1) := by decide +kernel
theorem dL_law_701 : decode cL_law 701 = .ok (.if_icmp .ne 7, 3) := by decide +kernel
theorem dL_law_704 : decode cL_law 704 = .ok (.iconst 1, 1) := by decide +kernel
theorem dL_law_705 : decode cL_law 705 = .ok (.goto 4, 3) := by decide +kernel
theorem dL_law_708 : decode cL_law 708 = .ok (.iconst 0, 1) := by decide +kernel
theorem dL_law_709 : decode cL_law 709 = .ok (.if_icmp .ne 94, 3) := by decide +kernel
theorem dL_law_712 : decode cL_law 712 = .ok (.aload_n 1, 1) := by decide +kernel
theorem dL_law_713 : decode cL_law 713 = .ok (.iload 8, 2) := by decide +kernel
theorem dL_law_715 : decode cL_law 715 = .ok (.iconst 0, 1) := by decide +kernel
theorem dL_law_716 : decode cL_law 716 = .ok (.invokevirtual 94, 3) := by decide +kernel
theorem dL_law_719 : decode cL_law 719 = .ok (.aload_n 1, 1) := by decide +kernel
theorem dL_law_720 : decode cL_law 720 = .ok (.iload 8, 2) := by decide +kernel
theorem dL_law_722 : decode cL_law 722 = .ok (.iconst 1, 1) := by decide +kernel
theorem dL_law_723 : decode cL_law 723 = .ok (.invokevirtual 94, 3) := by decide +kernel
theorem dL_law_726 : decode cL_law 726 = .ok (.if_icmp .gt 77, 3) := by decide +kernel
theorem dL_law_729 : decode cL_law 729 = .ok (.aload_n 1, 1) := by decide +kernel
theorem dL_law_730 : decode cL_law 730 = .ok (.iload 8, 2) := by decide +kernel
theorem dL_law_732 : decode cL_law 732 = .ok (.invokevirtual 96, 3) := by decide +kernel
theorem dL_law_735 : decode cL_law 735 = .ok (.ifCond .ne 7, 3) := by decide +kernel
theorem dL_law_738 : decode cL_law 738 = .ok (.iconst 1, 1) := by decide +kernel
theorem dL_law_739 : decode cL_law 739 = .ok (.goto 4, 3) := by decide +kernel
theorem dL_law_742 : decode cL_law 742 = .ok (.iconst 0, 1) := by decide +kernel
theorem dL_law_743 : decode cL_law 743 = .ok (.iload 5, 2) := by decide +kernel
theorem dL_law_745 : decode cL_law 745 = .ok (.iload 8, 2) := by decide +kernel
theorem dL_law_747 : decode cL_law 747 = .ok (.ishr, 1) := by decide +kernel
theorem dL_law_748 : decode cL_law 748 = .ok (.iconst 1, 1) := by decide +kernel
theorem dL_law_749 : decode cL_law 749 = .ok (.iand, 1) := by decide +kernel
theorem dL_law_750 : decode cL_law 750 = .ok (.ifCond .ne 7, 3) := by decide +kernel
theorem dL_law_753 : decode cL_law 753 = .ok (.iconst 1, 1) := by decide +kernel
theorem dL_law_754 : decode cL_law 754 = .ok (.goto 4, 3) := by decide +kernel
theorem dL_law_757 : decode cL_law 757 = .ok (.iconst 0, 1) := by decide +kernel
theorem dL_law_758 : decode cL_law 758 = .ok (.if_icmp .ne 45, 3) := by decide +kernel
theorem dL_law_761 : decode cL_law 761 = .ok (.aload_n 1, 1) := by decide +kernel
theorem dL_law_762 : decode cL_law 762 = .ok (.iload 8, 2) := by decide +kernel
theorem dL_law_764 : decode cL_law 764 = .ok (.invokevirtual 99, 3) := by decide +kernel
theorem dL_law_767 : decode cL_law 767 = .ok (.iload 5, 2) := by decide +kernel
theorem dL_law_769 : decode cL_law 769 = .ok (.iconst (-1), 1) := by decide +kernel
theorem dL_law_770 : decode cL_law 770 = .ok (.ixor, 1) := by decide +kernel
theorem dL_law_771 : decode cL_law 771 = .ok (.iand, 1) := by decide +kernel
theorem dL_law_772 : decode cL_law 772 = .ok (.ifCond .ne 31, 3) := by decide +kernel
theorem dL_law_775 : decode cL_law 775 = .ok (.aload_n 1, 1) := by decide +kernel
theorem dL_law_776 : decode cL_law 776 = .ok (.iload 8, 2) := by decide +kernel
theorem dL_law_778 : decode cL_law 778 = .ok (.iload 8, 2) := by decide +kernel
theorem dL_law_780 : decode cL_law 780 = .ok (.invokevirtual 102, 3) := by decide +kernel
theorem dL_law_783 : decode cL_law 783 = .ok (.iload 5, 2) := by decide +kernel
theorem dL_law_785 : decode cL_law 785 = .ok (.iload 8, 2) := by decide +kernel
theorem dL_law_787 : decode cL_law 787 = .ok (.ishr, 1) := by decide +kernel
theorem dL_law_788 : decode cL_law 788 = .ok (.iconst 1, 1) := by decide +kernel
theorem dL_law_789 : decode cL_law 789 = .ok (.iand, 1) := by decide +kernel
theorem dL_law_790 : decode cL_law 790 = .ok (.iconst 1, 1) := by decide +kernel
theorem dL_law_791 : decode cL_law 791 = .ok (.if_icmp .ne 7, 3) := by decide +kernel
theorem dL_law_794 : decode cL_law 794 = .ok (.iconst 0, 1) := by decide +kernel
theorem dL_law_795 : decode cL_law 795 = .ok (.goto 5, 3) := by decide +kernel
theorem dL_law_798 : decode cL_law 798 = .ok (.bipush (-9), 2) := by decide +kernel
theorem dL_law_800 : decode cL_law 800 = .ok (.if_icmp .eq 5, 3) := by decide +kernel
theorem dL_law_803 : decode cL_law 803 = .ok (.iconst 0, 1) := by decide +kernel
theorem dL_law_804 : decode cL_law 804 = .ok (.ireturn, 1) := by decide +kernel
theorem dL_law_805 : decode cL_law 805 = .ok (.iload 7, 2) := by decide +kernel
theorem dL_law_807 : decode cL_law 807 = .ok (.iload 8, 2) := by decide +kernel
theorem dL_law_809 : decode cL_law 809 = .ok (.ishr, 1) := by decide +kernel
theorem dL_law_810 : decode cL_law 810 = .ok (.iconst 1, 1) := by decide +kernel
theorem dL_law_811 : decode cL_law 811 = .ok (.iand, 1) := by decide +kernel
theorem dL_law_812 : decode cL_law 812 = .ok (.ifCond .ne 6, 3) := by decide +kernel
theorem dL_law_815 : decode cL_law 815 = .ok (.goto 60, 3) := by decide +kernel
theorem dL_law_818 : decode cL_law 818 = .ok (.aload_n 1, 1) := by decide +kernel
theorem dL_law_819 : decode cL_law 819 = .ok (.iload 8, 2) := by decide +kernel
theorem dL_law_821 : decode cL_law 821 = .ok (.invokevirtual 99, 3) := by decide +kernel
theorem dL_law_824 : decode cL_law 824 = .ok (.istore 9, 2) := by decide +kernel
theorem dL_law_826 : decode cL_law 826 = .ok (.iload 7, 2) := by decide +kernel
theorem dL_law_828 : decode cL_law 828 = .ok (.iload 9, 2) := by decide +kernel
theorem dL_law_830 : decode cL_law 830 = .ok (.iand, 1) := by decide +kernel
theorem dL_law_831 : decode cL_law 831 = .ok (.iload 9, 2) := by decide +kernel
theorem dL_law_833 : decode cL_law 833 = .ok (.if_icmp .ne 28, 3) := by decide +kernel
theorem dL_law_836 : decode cL_law 836 = .ok (.iload 9, 2) := by decide +kernel
theorem dL_law_838 : decode cL_law 838 = .ok (.iload 8, 2) := by decide +kernel
theorem dL_law_840 : decode cL_law 840 = .ok (.ishr, 1) := by decide +kernel
theorem dL_law_841 : decode cL_law 841 = .ok (.iconst 1, 1) := by decide +kernel
theorem dL_law_842 : decode cL_law 842 = .ok (.iand, 1) := by decide +kernel
theorem dL_law_843 : decode cL_law 843 = .ok (.iconst 1, 1) := by decide +kernel
theorem dL_law_844 : decode cL_law 844 = .ok (.if_icmp .ne 17, 3) := by decide +kernel
theorem dL_law_847 : decode cL_law 847 = .ok (.iload 9, 2) := by decide +kernel
theorem dL_law_849 : decode cL_law 849 = .ok (.invokestatic 81, 3) := by decide +kernel
theorem dL_law_852 : decode cL_law 852 = .ok (.aload_n 1, 1) := by decide +kernel
theorem dL_law_853 : decode cL_law 853 = .ok (.bipush (-2), 2) := by decide +kernel
theorem dL_law_855 : decode cL_law 855 = .ok (.invokevirtual 99, 3) := by decide +kernel
theorem dL_law_858 : decode cL_law 858 = .ok (.if_icmp .le 5, 3) := by decide +kernel
theorem dL_law_861 : decode cL_law 861 = .ok (.iconst 0, 1) := by decide +kernel
theorem dL_law_862 : decode cL_law 862 = .ok (.ireturn, 1) := by decide +kernel
theorem dL_law_863 : decode cL_law 863 = .ok (.iload 7, 2) := by decide +kernel
theorem dL_law_865 : decode cL_law 865 = .ok (.iload 9, 2) := by decide +kernel
theorem dL_law_867 : decode cL_law 867 = .ok (.iconst (-1), 1) := by decide +kernel
theorem dL_law_868 : decode cL_law 868 = .ok (.ixor, 1) := by decide +kernel
theorem dL_law_869 : decode cL_law 869 = .ok (.iand, 1) := by decide +kernel
theorem dL_law_870 : decode cL_law 870 = .ok (.istore 7, 2) := by decide +kernel
theorem dL_law_872 : decode cL_law 872 = .ok (.iinc 6 1, 3) := by decide +kernel
theorem dL_law_875 : decode cL_law 875 = .ok (.iinc 8 1, 3) := by decide +kernel
theorem dL_law_878 : decode cL_law 878 = .ok (.goto (-212), 3) := by decide +kernel
theorem dL_law_881 : decode cL_law 881 = .ok (.iload 7, 2) := by decide +kernel
theorem dL_law_883 : decode cL_law 883 = .ok (.ifCond .ne 13, 3) := by decide +kernel
theorem dL_law_886 : decode cL_law 886 = .ok (.iload 6, 2) := by decide +kernel
theorem dL_law_888 : decode cL_law 888 = .ok (.aload_n 1, 1) := by decide +kernel
theorem dL_law_889 : decode cL_law 889 = .ok (.iconst (-1), 1) := by decide +kernel
theorem dL_law_890 : decode cL_law 890 = .ok (.invokevirtual 99, 3) := by decide +kernel
theorem dL_law_893 : decode cL_law 893 = .ok (.if_icmp .eq 5, 3) := by decide +kernel
theorem dL_law_896 : decode cL_law 896 = .ok (.iconst 0, 1) := by decide +kernel
theorem dL_law_897 : decode cL_law 897 = .ok (.ireturn, 1) := by decide +kernel
theorem dL_law_898 : decode cL_law 898 = .ok (.iconst 0, 1) := by decide +kernel
theorem dL_law_899 : decode cL_law 899 = .ok (.istore 8, 2) := by decide +kernel
theorem dL_law_901 : decode cL_law 901 = .ok (.iload 8, 2) := by decide +kernel
theorem dL_law_903 : decode cL_law 903 = .ok (.iload_n 2, 1) := by decide +kernel
theorem dL_law_904 : decode cL_law 904 = .ok (.if_icmp .ge 95, 3) := by decide +kernel
theorem dL_law_907 : decode cL_law 907 = .ok (.aload_n 1, 1) := by decide +kernel
theorem dL_law_908 : decode cL_law 908 = .ok (.iload 8, 2) := by decide +kernel
theorem dL_law_910 : decode cL_law 910 = .ok (.bipush 9, 2) := by decide +kernel
theorem dL_law_912 : decode cL_law 912 = .ok (.iconst 0, 1) := by decide +kernel
theorem dL_law_913 : decode cL_law 913 = .ok (.invokevirtual 105, 3) := by decide +kernel
theorem dL_law_916 : decode cL_law 916 = .ok (.istore 9, 2) := by decide +kernel
theorem dL_law_918 : decode cL_law 918 = .ok (.aload_n 1, 1) := by decide +kernel
theorem dL_law_919 : decode cL_law 919 = .ok (.iload 8, 2) := by decide +kernel
theorem dL_law_921 : decode cL_law 921 = .ok (.bipush 9, 2) := by decide +kernel
theorem dL_law_923 : decode cL_law 923 = .ok (.iconst 1, 1) := by decide +kernel
theorem dL_law_924 : decode cL_law 924 = .ok (.invokevirtual 105, 3) := by decide +kernel
theorem dL_law_927 : decode cL_law 927 = .ok (.istore 10, 2) := by decide +kernel
theorem dL_law_929 : decode cL_law 929 = .ok (.aload_n 1, 1) := by decide +kernel
theorem dL_law_930 : decode cL_law 930 = .ok (.iload 8, 2) := by decide +kernel
theorem dL_law_932 : decode cL_law 932 = .ok (.iload 9, 2) := by decide +kernel
theorem dL_law_934 : decode cL_law 934 = .ok (.invokevirtual 53, 3) := by decide +kernel
theorem dL_law_937 : decode cL_law 937 = .ok (.istore 11, 2) := by decide +kernel
theorem dL_law_939 : decode cL_law 939 = .ok (.iload 11, 2) := by decide +kernel
theorem dL_law_941 : decode cL_law 941 = .ok (.ifCond .lt 50, 3) := by decide +kernel
theorem dL_law_944 : decode cL_law 944 = .ok (.aload_n 1, 1) := by decide +kernel
theorem dL_law_945 : decode cL_law 945 = .ok (.iload 8, 2) := by decide +kernel
theorem dL_law_947 : decode cL_law 947 = .ok (.bipush 9, 2) := by decide +kernel
theorem dL_law_949 : decode cL_law 949 = .ok (.iconst 1, 1) := by decide +kernel
theorem dL_law_950 : decode cL_law 950 = .ok (.invokevirtual 108, 3) := by decide +kernel
theorem dL_law_953 : decode cL_law 953 = .ok (.iload 10, 2) := by decide +kernel
theorem dL_law_955 : decode cL_law 955 = .ok (.if_icmp .ne 36, 3) := by decide +kernel
theorem dL_law_958 : decode cL_law 958 = .ok (.aload_n 1, 1) := by decide +kernel
theorem dL_law_959 : decode cL_law 959 = .ok (.invokevirtual 111, 3) := by decide +kernel
theorem dL_law_962 : decode cL_law 962 = .ok (.ifCond .lt 29, 3) := by decide +kernel
theorem dL_law_965 : decode cL_law 965 = .ok (.aload_n 1, 1) := by decide +kernel
theorem dL_law_966 : decode cL_law 966 = .ok (.iload 8, 2) := by decide +kernel
theorem dL_law_968 : decode cL_law 968 = .ok (.iconst 3, 1) := by decide +kernel
theorem dL_law_969 : decode cL_law 969 = .ok (.invokevirtual 72, 3) := by decide +kernel
theorem dL_law_972 : decode cL_law 972 = .ok (.iload 11, 2) := by decide +kernel
theorem dL_law_974 : decode cL_law 974 = .ok (.if_icmp .ne 17, 3) := by decide +kernel
theorem dL_law_977 : decode cL_law 977 = .ok (.iload 10, 2) := by decide +kernel
theorem dL_law_979 : decode cL_law 979 = .ok (.aload_n 1, 1) := by decide +kernel
theorem dL_law_980 : decode cL_law 980 = .ok (.iload 8, 2) := by decide +kernel
theorem dL_law_982 : decode cL_law 982 = .ok (.bipush 9, 2) := by decide +kernel
theorem dL_law_984 : decode cL_law 984 = .ok (.iconst 1, 1) := by decide +kernel
theorem dL_law_985 : decode cL_law 985 = .ok (.invokevirtual 108, 3) := by decide +kernel
theorem dL_law_988 : decode cL_law 988 = .ok (.if_icmp .ge 5, 3) := by decide +kernel
theorem dL_law_991 : decode cL_law 991 = .ok (.iconst 0, 1) := by decide +kernel
theorem dL_law_992 : decode cL_law 992 = .ok (.ireturn, 1) := by decide +kernel
theorem dL_law_993 : decode cL_law 993 = .ok (.iinc 8 1, 3) := by decide +kernel
theorem dL_law_996 : decode cL_law 996 = .ok (.goto (-95), 3) := by decide +kernel
theorem dL_law_999 : decode cL_law 999 = .ok (.aload_n 1, 1) := by decide +kernel
theorem dL_law_1000 : decode cL_law 1000 = .ok (.invokevirtual 111, 3) := by decide +kernel
theorem dL_law_1003 : decode cL_law 1003 = .ok (.ifCond .lt 48, 3) := by decide +kernel
theorem dL_law_1006 : decode cL_law 1006 = .ok (.aload_n 1, 1) := by decide +kernel
theorem dL_law_1007 : decode cL_law 1007 = .ok (.iconst 3, 1) := by decide +kernel
theorem dL_law_1008 : decode cL_law 1008 = .ok (.invokevirtual 47, 3) := by decide +kernel
theorem dL_law_1011 : decode cL_law 1011 = .ok (.iload 4, 2) := by decide +kernel
theorem dL_law_1013 : decode cL_law 1013 = .ok (.bipush 11, 2) := by decide +kernel
theorem dL_law_1015 : decode cL_law 1015 = .ok (.iadd, 1) := by decide +kernel
theorem dL_law_1016 : decode cL_law 1016 = .ok (.if_icmp .ne 35, 3) := by decide +kernel
theorem dL_law_1019 : decode cL_law 1019 = .ok (.aload_n 1, 1) := by decide +kernel
theorem dL_law_1020 : decode cL_law 1020 = .ok (.invokevirtual 114, 3) := by decide +kernel
theorem dL_law_1023 : decode cL_law 1023 = .ok (.iload 4, 2) := by decide +kernel
theorem dL_law_1025 : decode cL_law 1025 = .ok (.if_icmp .ne 26, 3) := by decide +kernel
theorem dL_law_1028 : decode cL_law 1028 = .ok (.aload_n 1, 1) := by decide +kernel
theorem dL_law_1029 : decode cL_law 1029 = .ok (.iconst 3, 1) := by decide +kernel
theorem dL_law_1030 : decode cL_law 1030 = .ok (.invokevirtual 47, 3) := by decide +kernel
theorem dL_law_1033 : decode cL_law 1033 = .ok (.iload 4, 2) := by decide +kernel
theorem dL_law_1035 : decode cL_law 1035 = .ok (.if_icmp .ne 16, 3) := by decide +kernel
theorem dL_law_1038 : decode cL_law 1038 = .ok (.aload_n 1, 1) := by decide +kernel
theorem dL_law_1039 : decode cL_law 1039 = .ok (.bipush 8, 2) := by decide +kernel
theorem dL_law_1041 : decode cL_law 1041 = .ok (.invokevirtual 47, 3) := by decide +kernel
theorem dL_law_1044 : decode cL_law 1044 = .ok (.ifCond .ne 7, 3) := by decide +kernel
theorem dL_law_1047 : decode cL_law 1047 = .ok (.iconst 1, 1) := by decide +kernel
theorem dL_law_1048 : decode cL_law 1048 = .ok (.goto 4, 3) := by decide +kernel
theorem dL_law_1051 : decode cL_law 1051 = .ok (.iconst 0, 1) := by decide +kernel
theorem dL_law_1052 : decode cL_law 1052 = .ok (.ireturn, 1) := by decide +kernel
