theorem dX5_comes_18 : decode cX5_comes 18 = .ok (.ifCond .ge 10, 3) := by decide +kernel
theorem dX5_comes_21 : decode cX5_comes 21 = .ok (.aload_n 0, 1) := by decide +kernel
theorem dX5_comes_22 : decode cX5_comes 22 = .ok (.bipush (-4), 2) := by decide +kernel
theorem dX5_comes_24 : decode cX5_comes 24 = .ok (.invokevirtual 60, 3) := by decide +kernel
theorem dX5_comes_27 : decode cX5_comes 27 = .ok (.ireturn, 1) := by decide +kernel
theorem dX5_comes_28 : decode cX5_comes 28 = .ok (.iload_n 2, 1) := by decide +kernel
theorem dX5_comes_29 : decode cX5_comes 29 = .ok (.bipush 9, 2) := by decide +kernel
theorem dX5_comes_31 : decode cX5_comes 31 = .ok (.if_icmp .gt 14, 3) := by decide +kernel
theorem dX5_comes_34 : decode cX5_comes 34 = .ok (.aload_n 0, 1) := by decide +kernel
theorem dX5_comes_35 : decode cX5_comes 35 = .ok (.getfield 10, 3) := by decide +kernel
theorem dX5_comes_38 : decode cX5_comes 38 = .ok (.getfield 204, 3) := by decide +kernel
theorem dX5_comes_41 : decode cX5_comes 41 = .ok (.iconst 5, 1) := by decide +kernel
theorem dX5_comes_42 : decode cX5_comes 42 = .ok (.if_icmp .lt 10, 3) := by decide +kernel
theorem dX5_comes_45 : decode cX5_comes 45 = .ok (.aload_n 0, 1) := by decide +kernel
theorem dX5_comes_46 : decode cX5_comes 46 = .ok (.bipush (-6), 2) := by decide +kernel
theorem dX5_comes_48 : decode cX5_comes 48 = .ok (.invokevirtual 60, 3) := by decide +kernel
theorem dX5_comes_51 : decode cX5_comes 51 = .ok (.ireturn, 1) := by decide +kernel
theorem dX5_comes_52 : decode cX5_comes 52 = .ok (.aload_n 0, 1) := by decide +kernel
theorem dX5_comes_53 : decode cX5_comes 53 = .ok (.getfield 10, 3) := by decide +kernel
theorem dX5_comes_56 : decode cX5_comes 56 = .ok (.iload_n 1, 1) := by decide +kernel
theorem dX5_comes_57 : decode cX5_comes 57 = .ok (.iload_n 2, 1) := by decide +kernel
theorem dX5_comes_58 : decode cX5_comes 58 = .ok (.iload_n 3, 1) := by decide +kernel
theorem dX5_comes_59 : decode cX5_comes 59 = .ok (.invokevirtual 100, 3) := by decide +kernel
theorem dX5_comes_62 : decode cX5_comes 62 = .ok (.ifCond .ne 9, 3) := by decide +kernel
theorem dX5_comes_65 : decode cX5_comes 65 = .ok (.aload_n 0, 1) := by decide +kernel
theorem dX5_comes_66 : decode cX5_comes 66 = .ok (.iconst (-1), 1) := by decide +kernel
theorem dX5_comes_67 : decode cX5_comes 67 = .ok (.invokevirtual 60, 3) := by decide +kernel
theorem dX5_comes_70 : decode cX5_comes 70 = .ok (.ireturn, 1) := by decide +kernel
theorem dX5_comes_71 : decode cX5_comes 71 = .ok (.aload_n 0, 1) := by decide +kernel
theorem dX5_comes_72 : decode cX5_comes 72 = .ok (.iconst 0, 1) := by decide +kernel
theorem dX5_comes_73 : decode cX5_comes 73 = .ok (.putfield 27, 3) := by decide +kernel
theorem dX5_comes_76 : decode cX5_comes 76 = .ok (.aload_n 0, 1) := by decide +kernel
theorem dX5_comes_77 : decode cX5_comes 77 = .ok (.getfield 10, 3) := by decide +kernel
theorem dX5_comes_80 : decode cX5_comes 80 = .ok (.getfield 204, 3) := by decide +kernel
theorem dX5_comes_83 : decode cX5_comes 83 = .ok (.iconst 1, 1) := by decide +kernel
theorem dX5_comes_84 : decode cX5_comes 84 = .ok (.isub, 1) := by decide +kernel
theorem dX5_comes_85 : decode cX5_comes 85 = .ok (.ireturn, 1) := by decide +kernel
theorem dX5_lies_0 : decode cX5_lies 0 = .ok (.iload_n 1, 1) := by decide +kernel
theorem dX5_lies_1 : decode cX5_lies 1 = .ok (.ifCond .ge 10, 3) := by decide +kernel
theorem dX5_lies_4 : decode cX5_lies 4 = .ok (.aload_n 0, 1) := by decide +kernel
theorem dX5_lies_5 : decode cX5_lies 5 = .ok (.bipush (-4), 2) := by decide +kernel
theorem dX5_lies_7 : decode cX5_lies 7 = .ok (.invokevirtual 60, 3) := by decide +kernel
theorem dX5_lies_10 : decode cX5_lies 10 = .ok (.ireturn, 1) := by decide +kernel
theorem dX5_lies_11 : decode cX5_lies 11 = .ok (.iload_n 1, 1) := by decide +kernel
theorem dX5_lies_12 : decode cX5_lies 12 = .ok (.bipush 9, 2) := by decide +kernel
theorem dX5_lies_14 : decode cX5_lies 14 = .ok (.if_icmp .gt 15, 3) := by decide +kernel
theorem dX5_lies_17 : decode cX5_lies 17 = .ok (.aload_n 0, 1) := by decide +kernel
theorem dX5_lies_18 : decode cX5_lies 18 = .ok (.getfield 10, 3) := by decide +kernel
theorem dX5_lies_21 : decode cX5_lies 21 = .ok (.getfield 207, 3) := by decide +kernel
theorem dX5_lies_24 : decode cX5_lies 24 = .ok (.bipush 8, 2) := by decide +kernel
theorem dX5_lies_26 : decode cX5_lies 26 = .ok (.if_icmp .lt 10, 3) := by decide +kernel
theorem dX5_lies_29 : decode cX5_lies 29 = .ok (.aload_n 0, 1) := by decide +kernel
theorem dX5_lies_30 : decode cX5_lies 30 = .ok (.bipush (-6), 2) := by decide +kernel
theorem dX5_lies_32 : decode cX5_lies 32 = .ok (.invokevirtual 60, 3) := by decide +kernel
theorem dX5_lies_35 : decode cX5_lies 35 = .ok (.ireturn, 1) := by decide +kernel
theorem dX5_lies_36 : decode cX5_lies 36 = .ok (.aload_n 0, 1) := by decide +kernel
theorem dX5_lies_37 : decode cX5_lies 37 = .ok (.getfield 10, 3) := by decide +kernel
theorem dX5_lies_40 : decode cX5_lies 40 = .ok (.iload_n 1, 1) := by decide +kernel
theorem dX5_lies_41 : decode cX5_lies 41 = .ok (.iload_n 2, 1) := by decide +kernel
theorem dX5_lies_42 : decode cX5_lies 42 = .ok (.invokevirtual 103, 3) := by decide +kernel
theorem dX5_lies_45 : decode cX5_lies 45 = .ok (.ifCond .ne 9, 3) := by decide +kernel
theorem dX5_lies_48 : decode cX5_lies 48 = .ok (.aload_n 0, 1) := by decide +kernel
theorem dX5_lies_49 : decode cX5_lies 49 = .ok (.iconst (-1), 1) := by decide +kernel
theorem dX5_lies_50 : decode cX5_lies 50 = .ok (.invokevirtual 60, 3) := by decide +kernel
theorem dX5_lies_53 : decode cX5_lies 53 = .ok (.ireturn, 1) := by decide +kernel
theorem dX5_lies_54 : decode cX5_lies 54 = .ok (.aload_n 0, 1) := by decide +kernel
theorem dX5_lies_55 : decode cX5_lies 55 = .ok (.iconst 0, 1) := by decide +kernel
theorem dX5_lies_56 : decode cX5_lies 56 = .ok (.putfield 27, 3) := by decide +kernel
theorem dX5_lies_59 : decode cX5_lies 59 = .ok (.aload_n 0, 1) := by decide +kernel
theorem dX5_lies_60 : decode cX5_lies 60 = .ok (.getfield 10, 3) := by decide +kernel
theorem dX5_lies_63 : decode cX5_lies 63 = .ok (.getfield 207, 3) := by decide +kernel
theorem dX5_lies_66 : decode cX5_lies 66 = .ok (.iconst 1, 1) := by decide +kernel
theorem dX5_lies_67 : decode cX5_lies 67 = .ok (.isub, 1) := by decide +kernel
theorem dX5_lies_68 : decode cX5_lies 68 = .ok (.ireturn, 1) := by decide +kernel
theorem dX5_thick_0 : decode cX5_thick 0 = .ok (.iload_n 1, 1) := by decide +kernel
theorem dX5_thick_1 : decode cX5_thick 1 = .ok (.iconst 1, 1) := by decide +kernel
theorem dX5_thick_2 : decode cX5_thick 2 = .ok (.bipush 9, 2) := by decide +kernel
theorem dX5_thick_4 : decode cX5_thick 4 = .ok (.invokestatic 220, 3) := by decide +kernel
theorem dX5_thick_7 : decode cX5_thick 7 = .ok (.istore_n 2, 1) := by decide +kernel
theorem dX5_thick_8 : decode cX5_thick 8 = .ok (.iload_n 2, 1) := by decide +kernel
theorem dX5_thick_9 : decode cX5_thick 9 = .ok (.ifCond .eq 9, 3) := by decide +kernel
theorem dX5_thick_12 : decode cX5_thick 12 = .ok (.aload_n 0, 1) := by decide +kernel
theorem dX5_thick_13 : decode cX5_thick 13 = .ok (.iload_n 2, 1) := by decide +kernel
theorem dX5_thick_14 : decode cX5_thick 14 = .ok (.invokevirtual 60, 3) := by decide +kernel
theorem dX5_thick_17 : decode cX5_thick 17 = .ok (.ireturn, 1) := by decide +kernel
theorem dX5_thick_18 : decode cX5_thick 18 = .ok (.aload_n 0, 1) := by decide +kernel
theorem dX5_thick_19 : decode cX5_thick 19 = .ok (.invokevirtual 224, 3) := by decide +kernel
theorem dX5_thick_22 : decode cX5_thick 22 = .ok (.aload_n 0, 1) := by decide +kernel
theorem dX5_thick_23 : decode cX5_thick 23 = .ok (.getfield 10, 3) := by decide +kernel
theorem dX5_thick_26 : decode cX5_thick 26 = .ok (.getfield 107, 3) := by decide +kernel
theorem dX5_thick_29 : decode cX5_thick 29 = .ok (.istore_n 3, 1) := by decide +kernel
theorem dX5_thick_30 : decode cX5_thick 30 = .ok (.aload_n 0, 1) := by decide +kernel
theorem dX5_thick_31 : decode cX5_thick 31 = .ok (.getfield 10, 3) := by decide +kernel
theorem dX5_thick_34 : decode cX5_thick 34 = .ok (.iload_n 1, 1) := by decide +kernel
theorem dX5_thick_35 : decode cX5_thick 35 = .ok (.putfield 107, 3) := by decide +kernel
theorem dX5_thick_38 : decode cX5_thick 38 = .ok (.iload_n 3, 1) := by decide +kernel
theorem dX5_thick_39 : decode cX5_thick 39 = .ok (.ireturn, 1) := by decide +kernel
theorem dX5_owns_0 : decode cX5_owns 0 = .ok (.aload_n 0, 1) := by decide +kernel
theorem dX5_owns_1 : decode cX5_owns 1 = .ok (.getfield 10, 3) := by decide +kernel
theorem dX5_owns_4 : decode cX5_owns 4 = .ok (.iload_n 1, 1) := by decide +kernel
theorem dX5_owns_5 : decode cX5_owns 5 = .ok (.invokevirtual 159, 3) := by decide +kernel
theorem dX5_owns_8 : decode cX5_owns 8 = .ok (.ifCond .eq 19, 3) := by decide +kernel
theorem dX5_owns_11 : decode cX5_owns 11 = .ok (.iload_n 2, 1) := by decide +kernel
theorem dX5_owns_12 : decode cX5_owns 12 = .ok (.iconst (-1), 1) := by decide +kernel
theorem dX5_owns_13 : decode cX5_owns 13 = .ok (.if_icmp .eq 20, 3) := by decide +kernel
theorem dX5_owns_16 : decode cX5_owns 16 = .ok (.aload_n 0, 1) := by decide +kernel
theorem dX5_owns_17 : decode cX5_owns 17 = .ok (.getfield 10, 3) := by decide +kernel
theorem dX5_owns_20 : decode cX5_owns 20 = .ok (.iload_n 2, 1) := by decide +kernel
theorem dX5_owns_21 : decode cX5_owns 21 = .ok (.invokevirtual 123, 3) := by decide +kernel
theorem dX5_owns_24 : decode cX5_owns 24 = .ok (.ifCond .ne 9, 3) := by decide +kernel
theorem dX5_owns_27 : decode cX5_owns 27 = .ok (.aload_n 0, 1) := by decide +kernel
theorem dX5_owns_28 : decode cX5_owns 28 = .ok (.iconst (-1), 1) := by decide +kernel
theorem dX5_owns_29 : decode cX5_owns 29 = .ok (.invokevirtual 60, 3) := by decide +kernel
theorem dX5_owns_32 : decode cX5_owns 32 = .ok (.ireturn, 1) := by decide +kernel
theorem dX5_owns_33 : decode cX5_owns 33 = .ok (.aload_n 0, 1) := by decide +kernel
theorem dX5_owns_34 : decode cX5_owns 34 = .ok (.invokevirtual 224, 3) := by decide +kernel
theorem dX5_owns_37 : decode cX5_owns 37 = .ok (.aload_n 0, 1) := by decide +kernel
theorem dX5_owns_38 : decode cX5_owns 38 = .ok (.getfield 10, 3) := by decide +kernel
theorem dX5_owns_41 : decode cX5_owns 41 = .ok (.getfield 168, 3) := by decide +kernel
theorem dX5_owns_44 : decode cX5_owns 44 = .ok (.iload_n 1, 1) := by decide +kernel
theorem dX5_owns_45 : decode cX5_owns 45 = .ok (.iaload, 1) := by decide +kernel
theorem dX5_owns_46 : decode cX5_owns 46 = .ok (.istore_n 3, 1) := by decide +kernel
theorem dX5_owns_47 : decode cX5_owns 47 = .ok (.aload_n 0, 1) := by decide +kernel
theorem dX5_owns_48 : decode cX5_owns 48 = .ok (.getfield 10, 3) := by decide +kernel
theorem dX5_owns_51 : decode cX5_owns 51 = .ok (.getfield 168, 3) := by decide +kernel
theorem dX5_owns_54 : decode cX5_owns 54 = .ok (.iload_n 1, 1) := by decide +kernel
theorem dX5_owns_55 : decode cX5_owns 55 = .ok (.iload_n 2, 1) := by decide +kernel
theorem dX5_owns_56 : decode cX5_owns 56 = .ok (.iastore, 1) := by decide +kernel
theorem dX5_owns_57 : decode cX5_owns 57 = .ok (.iload_n 3, 1) := by decide +kernel
theorem dX5_owns_58 : decode cX5_owns 58 = .ok (.invokestatic 171, 3) := by decide +kernel
theorem dX5_owns_61 : decode cX5_owns 61 = .ok (.ireturn, 1) := by decide +kernel
theorem dX5_stands_0 : decode cX5_stands 0 = .ok (.aload_n 0, 1) := by decide +kernel
theorem dX5_stands_1 : decode cX5_stands 1 = .ok (.getfield 10, 3) := by decide +kernel
theorem dX5_stands_4 : decode cX5_stands 4 = .ok (.iload_n 1, 1) := by decide +kernel
theorem dX5_stands_5 : decode cX5_stands 5 = .ok (.invokevirtual 123, 3) := by decide +kernel
theorem dX5_stands_8 : decode cX5_stands 8 = .ok (.ifCond .eq 10, 3) := by decide +kernel
theorem dX5_stands_11 : decode cX5_stands 11 = .ok (.iload_n 2, 1) := by decide +kernel
theorem dX5_stands_12 : decode cX5_stands 12 = .ok (.invokestatic 186, 3) := by decide +kernel
theorem dX5_stands_15 : decode cX5_stands 15 = .ok (.ifCond .ne 9, 3) := by decide +kernel
theorem dX5_stands_18 : decode cX5_stands 18 = .ok (.aload_n 0, 1) := by decide +kernel
theorem dX5_stands_19 : decode cX5_stands 19 = .ok (.iconst (-1), 1) := by decide +kernel
theorem dX5_stands_20 : decode cX5_stands 20 = .ok (.invokevirtual 60, 3) := by decide +kernel
theorem dX5_stands_23 : decode cX5_stands 23 = .ok (.ireturn, 1) := by decide +kernel
theorem dX5_stands_24 : decode cX5_stands 24 = .ok (.aload_n 0, 1) := by decide +kernel
theorem dX5_stands_25 : decode cX5_stands 25 = .ok (.invokevirtual 224, 3) := by decide +kernel
theorem dX5_stands_28 : decode cX5_stands 28 = .ok (.aload_n 0, 1) := by decide +kernel
theorem dX5_stands_29 : decode cX5_stands 29 = .ok (.getfield 10, 3) := by decide +kernel
theorem dX5_stands_32 : decode cX5_stands 32 = .ok (.getfield 135, 3) := by decide +kernel
theorem dX5_stands_35 : decode cX5_stands 35 = .ok (.iload_n 1, 1) := by decide +kernel
theorem dX5_stands_36 : decode cX5_stands 36 = .ok (.iaload, 1) := by decide +kernel
theorem dX5_stands_37 : decode cX5_stands 37 = .ok (.istore_n 3, 1) := by decide +kernel
theorem dX5_stands_38 : decode cX5_stands 38 = .ok (.aload_n 0, 1) := by decide +kernel
theorem dX5_stands_39 : decode cX5_stands 39 = .ok (.getfield 10, 3) := by decide +kernel
theorem dX5_stands_42 : decode cX5_stands 42 = .ok (.getfield 135, 3) := by decide +kernel
theorem dX5_stands_45 : decode cX5_stands 45 = .ok (.iload_n 1, 1) := by decide +kernel
theorem dX5_stands_46 : decode cX5_stands 46 = .ok (.iload_n 2, 1) := by decide +kernel
theorem dX5_stands_47 : decode cX5_stands 47 = .ok (.iastore, 1) := by decide +kernel
theorem dX5_stands_48 : decode cX5_stands 48 = .ok (.iload_n 3, 1) := by decide +kernel
theorem dX5_stands_49 : decode cX5_stands 49 = .ok (.ireturn, 1) := by decide +kernel
theorem dX5_carries_0 : decode cX5_carries 0 = .ok (.aload_n 0, 1) := by decide +kernel
theorem dX5_carries_1 : decode cX5_carries 1 = .ok (.getfield 10, 3) := by decide +kernel
theorem dX5_carries_4 : decode cX5_carries 4 = .ok (.iload_n 1, 1) := by decide +kernel
theorem dX5_carries_5 : decode cX5_carries 5 = .ok (.invokevirtual 159, 3) := by decide +kernel
theorem dX5_carries_8 : decode cX5_carries 8 = .ok (.ifCond .eq 10, 3) := by decide +kernel
theorem dX5_carries_11 : decode cX5_carries 11 = .ok (.iload_n 2, 1) := by decide +kernel
theorem dX5_carries_12 : decode cX5_carries 12 = .ok (.invokestatic 186, 3) := by decide +kernel
theorem dX5_carries_15 : decode cX5_carries 15 = .ok (.ifCond .ne 9, 3) := by decide +kernel
theorem dX5_carries_18 : decode cX5_carries 18 = .ok (.aload_n 0, 1) := by decide +kernel
theorem dX5_carries_19 : decode cX5_carries 19 = .ok (.iconst (-1), 1) := by decide +kernel
theorem dX5_carries_20 : decode cX5_carries 20 = .ok (.invokevirtual 60, 3) := by decide +kernel
theorem dX5_carries_23 : decode cX5_carries 23 = .ok (.ireturn, 1) := by decide +kernel
theorem dX5_carries_24 : decode cX5_carries 24 = .ok (.aload_n 0, 1) := by decide +kernel
theorem dX5_carries_25 : decode cX5_carries 25 = .ok (.invokevirtual 224, 3) := by decide +kernel
theorem dX5_carries_28 : decode cX5_carries 28 = .ok (.aload_n 0, 1) := by decide +kernel
theorem dX5_carries_29 : decode cX5_carries 29 = .ok (.getfield 10, 3) := by decide +kernel
theorem dX5_carries_32 : decode cX5_carries 32 = .ok (.getfield 165, 3) := by decide +kernel
theorem dX5_carries_35 : decode cX5_carries 35 = .ok (.iload_n 1, 1) := by decide +kernel
theorem dX5_carries_36 : decode cX5_carries 36 = .ok (.iaload, 1) := by decide +kernel
theorem dX5_carries_37 : decode cX5_carries 37 = .ok (.istore_n 3, 1) := by decide +kernel
theorem dX5_carries_38 : decode cX5_carries 38 = .ok (.aload_n 0, 1) := by decide +kernel
theorem dX5_carries_39 : decode cX5_carries 39 = .ok (.getfield 10, 3) := by decide +kernel
theorem dX5_carries_42 : decode cX5_carries 42 = .ok (.getfield 165, 3) := by decide +kernel
theorem dX5_carries_45 : decode cX5_carries 45 = .ok (.iload_n 1, 1) := by decide +kernel
theorem dX5_carries_46 : decode cX5_carries 46 = .ok (.iload_n 2, 1) := by decide +kernel
theorem dX5_carries_47 : decode cX5_carries 47 = .ok (.iastore, 1) := by decide +kernel
theorem dX5_carries_48 : decode cX5_carries 48 = .ok (.iload_n 3, 1) := by decide +kernel
theorem dX5_carries_49 : decode cX5_carries 49 = .ok (.ireturn, 1) := by decide +kernel
theorem dX5_hours_0 : decode cX5_hours 0 = .ok (.iload_n 1, 1) := by decide +kernel
theorem dX5_hours_1 : decode cX5_hours 1 = .ok (.iconst 1, 1) := by decide +kernel
theorem dX5_hours_2 : decode cX5_hours 2 = .ok (.bipush 60, 2) := by decide +kernel
theorem dX5_hours_4 : decode cX5_hours 4 = .ok (.invokestatic 220, 3) := by decide +kernel
theorem dX5_hours_7 : decode cX5_hours 7 = .ok (.istore_n 2, 1) := by decide +kernel
theorem dX5_hours_8 : decode cX5_hours 8 = .ok (.iload_n 2, 1) := by decide +kernel
theorem dX5_hours_9 : decode cX5_hours 9 = .ok (.ifCond .eq 9, 3) := by decide +kernel
theorem dX5_hours_12 : decode cX5_hours 12 = .ok (.aload_n 0, 1) := by decide +kernel
theorem dX5_hours_13 : decode cX5_hours 13 = .ok (.iload_n 2, 1) := by decide +kernel
theorem dX5_hours_14 : decode cX5_hours 14 = .ok (.invokevirtual 60, 3) := by decide +kernel
theorem dX5_hours_17 : decode cX5_hours 17 = .ok (.ireturn, 1) := by decide +kernel
theorem dX5_hours_18 : decode cX5_hours 18 = .ok (.aload_n 0, 1) := by decide +kernel
theorem dX5_hours_19 : decode cX5_hours 19 = .ok (.getfield 10, 3) := by decide +kernel
theorem dX5_hours_22 : decode cX5_hours 22 = .ok (.getfield 116, 3) := by decide +kernel
theorem dX5_hours_25 : decode cX5_hours 25 = .ok (.iload_n 1, 1) := by decide +kernel
theorem dX5_hours_26 : decode cX5_hours 26 = .ok (.iadd, 1) := by decide +kernel
theorem dX5_hours_27 : decode cX5_hours 27 = .ok (.sipush 999, 3) := by decide +kernel
theorem dX5_hours_30 : decode cX5_hours 30 = .ok (.if_icmp .le 10, 3) := by decide +kernel
theorem dX5_hours_33 : decode cX5_hours 33 = .ok (.aload_n 0, 1) := by decide +kernel
theorem dX5_hours_34 : decode cX5_hours 34 = .ok (.bipush (-6), 2) := by decide +kernel
theorem dX5_hours_36 : decode cX5_hours 36 = .ok (.invokevirtual 60, 3) := by decide +kernel
theorem dX5_hours_39 : decode cX5_hours 39 = .ok (.ireturn, 1) := by decide +kernel
theorem dX5_hours_40 : decode cX5_hours 40 = .ok (.aload_n 0, 1) := by decide +kernel
theorem dX5_hours_41 : decode cX5_hours 41 = .ok (.invokevirtual 224, 3) := by decide +kernel
theorem dX5_hours_44 : decode cX5_hours 44 = .ok (.aload_n 0, 1) := by decide +kernel
theorem dX5_hours_45 : decode cX5_hours 45 = .ok (.iload_n 1, 1) := by decide +kernel
theorem dX5_hours_46 : decode cX5_hours 46 = .ok (.invokevirtual 227, 3) := by decide +kernel
theorem dX5_hours_49 : decode cX5_hours 49 = .ok (.aload_n 0, 1) := by decide +kernel
theorem dX5_hours_50 : decode cX5_hours 50 = .ok (.getfield 10, 3) := by decide +kernel
theorem dX5_hours_53 : decode cX5_hours 53 = .ok (.aload_n 0, 1) := by decide +kernel
theorem dX5_hours_54 : decode cX5_hours 54 = .ok (.getfield 50, 3) := by decide +kernel
theorem dX5_hours_57 : decode cX5_hours 57 = .ok (.getfield 81, 3) := by decide +kernel
theorem dX5_hours_60 : decode cX5_hours 60 = .ok (.invokevirtual 84, 3) := by decide +kernel
theorem dX5_hours_63 : decode cX5_hours 63 = .ok (.aload_n 0, 1) := by decide +kernel
theorem dX5_hours_64 : decode cX5_hours 64 = .ok (.getfield 10, 3) := by decide +kernel
theorem dX5_hours_67 : decode cX5_hours 67 = .ok (.invokevirtual 213, 3) := by decide +kernel
theorem dX5_hours_70 : decode cX5_hours 70 = .ok (.ireturn, 1) := by decide +kernel
theorem dX5_back_0 : decode cX5_back 0 = .ok (.aload_n 0, 1) := by decide +kernel
theorem dX5_back_1 : decode cX5_back 1 = .ok (.getfield 27, 3) := by decide +kernel
theorem dX5_back_4 : decode cX5_back 4 = .ok (.ifCond .le 12, 3) := by decide +kernel
theorem dX5_back_7 : decode cX5_back 7 = .ok (.aload_n 0, 1) := by decide +kernel
theorem dX5_back_8 : decode cX5_back 8 = .ok (.getfield 27, 3) := by decide +kernel
theorem dX5_back_11 : decode cX5_back 11 = .ok (.bipush 8, 2) := by decide +kernel
theorem dX5_back_13 : decode cX5_back 13 = .ok (.if_icmp .le 10, 3) := by decide +kernel
theorem dX5_back_16 : decode cX5_back 16 = .ok (.aload_n 0, 1) := by decide +kernel
theorem dX5_back_17 : decode cX5_back 17 = .ok (.bipush (-3), 2) := by decide +kernel
theorem dX5_back_19 : decode cX5_back 19 = .ok (.invokevirtual 60, 3) := by decide +kernel
theorem dX5_back_22 : decode cX5_back 22 = .ok (.ireturn, 1) := by decide +kernel
theorem dX5_back_23 : decode cX5_back 23 = .ok (.aload_n 0, 1) := by decide +kernel
theorem dX5_back_24 : decode cX5_back 24 = .ok (.dup, 1) := by decide +kernel
theorem dX5_back_25 : decode cX5_back 25 = .ok (.getfield 27, 3) := by decide +kernel
theorem dX5_back_28 : decode cX5_back 28 = .ok (.iconst 1, 1) := by decide +kernel
theorem dX5_back_29 : decode cX5_back 29 = .ok (.isub, 1) := by decide +kernel
theorem dX5_back_30 : decode cX5_back 30 = .ok (.putfield 27, 3) := by decide +kernel
theorem dX5_back_33 : decode cX5_back 33 = .ok (.aload_n 0, 1) := by decide +kernel
theorem dX5_back_34 : decode cX5_back 34 = .ok (.getfield 10, 3) := by decide +kernel
theorem dX5_back_37 : decode cX5_back 37 = .ok (.aload_n 0, 1) := by decide +kernel
theorem dX5_back_38 : decode cX5_back 38 = .ok (.getfield 23, 3) := by decide +kernel
theorem dX5_back_41 : decode cX5_back 41 = .ok (.aload_n 0, 1) := by decide +kernel
theorem dX5_back_42 : decode cX5_back 42 = .ok (.getfield 27, 3) := by decide +kernel
theorem dX5_back_45 : decode cX5_back 45 = .ok (.aaload, 1) := by decide +kernel
theorem dX5_back_46 : decode cX5_back 46 = .ok (.invokevirtual 84, 3) := by decide +kernel
theorem dX5_back_49 : decode cX5_back 49 = .ok (.aload_n 0, 1) := by decide +kernel
theorem dX5_back_50 : decode cX5_back 50 = .ok (.getfield 27, 3) := by decide +kernel
theorem dX5_back_53 : decode cX5_back 53 = .ok (.ireturn, 1) := by decide +kernel
theorem dX5_keepForBack_0 : decode cX5_keepForBack 0 = .ok (.aload_n 0, 1) := by decide +kernel
theorem dX5_keepForBack_1 : decode cX5_keepForBack 1 = .ok (.getfield 27, 3) := by decide +kernel
theorem dX5_keepForBack_4 : decode cX5_keepForBack 4 = .ok (.bipush 8, 2) := by decide +kernel
theorem dX5_keepForBack_6 : decode cX5_keepForBack 6 = .ok (.if_icmp .lt 52, 3) := by decide +kernel
theorem dX5_keepForBack_9 : decode cX5_keepForBack 9 = .ok (.aload_n 0, 1) := by decide +kernel
theorem dX5_keepForBack_10 : decode cX5_keepForBack 10 = .ok (.getfield 23, 3) := by decide +kernel
theorem dX5_keepForBack_13 : decode cX5_keepForBack 13 = .ok (.iconst 0, 1) := by decide +kernel
theorem dX5_keepForBack_14 : decode cX5_keepForBack 14 = .ok (.aaload, 1) := by decide +kernel
theorem dX5_keepForBack_15 : decode cX5_keepForBack 15 = .ok (.astore_n 1, 1) := by decide +kernel
theorem dX5_keepForBack_16 : decode cX5_keepForBack 16 = .ok (.iconst 1, 1) := by decide +kernel
theorem dX5_keepForBack_17 : decode cX5_keepForBack 17 = .ok (.istore_n 2, 1) := by decide +kernel
theorem dX5_keepForBack_18 : decode cX5_keepForBack 18 = .ok (.iload_n 2, 1) := by decide +kernel
theorem dX5_keepForBack_19 : decode cX5_keepForBack 19 = .ok (.bipush 8, 2) := by decide +kernel
theorem dX5_keepForBack_21 : decode cX5_keepForBack 21 = .ok (.if_icmp .ge 23, 3) := by decide +kernel
theorem dX5_keepForBack_24 : decode cX5_keepForBack 24 = .ok (.aload_n 0, 1) := by decide +kernel
theorem dX5_keepForBack_25 : decode cX5_keepForBack 25 = .ok (.getfield 23, 3) := by decide +kernel
theorem dX5_keepForBack_28 : decode cX5_keepForBack 28 = .ok (.iload_n 2, 1) := by decide +kernel
theorem dX5_keepForBack_29 : decode cX5_keepForBack 29 = .ok (.iconst 1, 1) := by decide +kernel
theorem dX5_keepForBack_30 : decode cX5_keepForBack 30 = .ok (.isub, 1) := by decide +kernel
theorem dX5_keepForBack_31 : decode cX5_keepForBack 31 = .ok (.aload_n 0, 1) := by decide +kernel
theorem dX5_keepForBack_32 : decode cX5_keepForBack 32 = .ok (.getfield 23, 3) := by decide +kernel
theorem dX5_keepForBack_35 : decode cX5_keepForBack 35 = .ok (.iload_n 2, 1) := by decide +kernel
theorem dX5_keepForBack_36 : decode cX5_keepForBack 36 = .ok (.aaload, 1) := by decide +kernel
theorem dX5_keepForBack_37 : decode cX5_keepForBack 37 = .ok (.aastore, 1) := by decide +kernel
theorem dX5_keepForBack_38 : decode cX5_keepForBack 38 = .ok (.iinc 2 1, 3) := by decide +kernel
theorem dX5_keepForBack_41 : decode cX5_keepForBack 41 = .ok (.goto (-23), 3) := by decide +kernel
theorem dX5_keepForBack_44 : decode cX5_keepForBack 44 = .ok (.aload_n 0, 1) := by decide +kernel
theorem dX5_keepForBack_45 : decode cX5_keepForBack 45 = .ok (.getfield 23, 3) := by decide +kernel
theorem dX5_keepForBack_48 : decode cX5_keepForBack 48 = .ok (.bipush 7, 2) := by decide +kernel
theorem dX5_keepForBack_50 : decode cX5_keepForBack 50 = .ok (.aload_n 1, 1) := by decide +kernel
theorem dX5_keepForBack_51 : decode cX5_keepForBack 51 = .ok (.aastore, 1) := by decide +kernel
theorem dX5_keepForBack_52 : decode cX5_keepForBack 52 = .ok (.aload_n 0, 1) := by decide +kernel
theorem dX5_keepForBack_53 : decode cX5_keepForBack 53 = .ok (.bipush 7, 2) := by decide +kernel
theorem dX5_keepForBack_55 : decode cX5_keepForBack 55 = .ok (.putfield 27, 3) := by decide +kernel
theorem dX5_keepForBack_58 : decode cX5_keepForBack 58 = .ok (.aload_n 0, 1) := by decide +kernel
theorem dX5_keepForBack_59 : decode cX5_keepForBack 59 = .ok (.getfield 23, 3) := by decide +kernel
theorem dX5_keepForBack_62 : decode cX5_keepForBack 62 = .ok (.aload_n 0, 1) := by decide +kernel
theorem dX5_keepForBack_63 : decode cX5_keepForBack 63 = .ok (.getfield 27, 3) := by decide +kernel
theorem dX5_keepForBack_66 : decode cX5_keepForBack 66 = .ok (.aaload, 1) := by decide +kernel
theorem dX5_keepForBack_67 : decode cX5_keepForBack 67 = .ok (.aload_n 0, 1) := by decide +kernel
theorem dX5_keepForBack_68 : decode cX5_keepForBack 68 = .ok (.getfield 10, 3) := by decide +kernel
theorem dX5_keepForBack_71 : decode cX5_keepForBack 71 = .ok (.invokevirtual 84, 3) := by decide +kernel
theorem dX5_keepForBack_74 : decode cX5_keepForBack 74 = .ok (.aload_n 0, 1) := by decide +kernel
theorem dX5_keepForBack_75 : decode cX5_keepForBack 75 = .ok (.dup, 1) := by decide +kernel
theorem dX5_keepForBack_76 : decode cX5_keepForBack 76 = .ok (.getfield 27, 3) := by decide +kernel
theorem dX5_keepForBack_79 : decode cX5_keepForBack 79 = .ok (.iconst 1, 1) := by decide +kernel
theorem dX5_keepForBack_80 : decode cX5_keepForBack 80 = .ok (.iadd, 1) := by decide +kernel
theorem dX5_keepForBack_81 : decode cX5_keepForBack 81 = .ok (.putfield 27, 3) := by decide +kernel
theorem dX5_keepForBack_84 : decode cX5_keepForBack 84 = .ok (.return_, 1) := by decide +kernel
theorem dX5_fogThen_0 : decode cX5_fogThen 0 = .ok (.iload_n 1, 1) := by decide +kernel
theorem dX5_fogThen_1 : decode cX5_fogThen 1 = .ok (.invokestatic 186, 3) := by decide +kernel
theorem dX5_fogThen_4 : decode cX5_fogThen 4 = .ok (.ifCond .ne 9, 3) := by decide +kernel
theorem dX5_fogThen_7 : decode cX5_fogThen 7 = .ok (.aload_n 0, 1) := by decide +kernel
theorem dX5_fogThen_8 : decode cX5_fogThen 8 = .ok (.iconst (-1), 1) := by decide +kernel
theorem dX5_fogThen_9 : decode cX5_fogThen 9 = .ok (.invokevirtual 60, 3) := by decide +kernel
theorem dX5_fogThen_12 : decode cX5_fogThen 12 = .ok (.ireturn, 1) := by decide +kernel
theorem dX5_fogThen_13 : decode cX5_fogThen 13 = .ok (.iload_n 2, 1) := by decide +kernel
theorem dX5_fogThen_14 : decode cX5_fogThen 14 = .ok (.iconst 0, 1) := by decide +kernel
theorem dX5_fogThen_15 : decode cX5_fogThen 15 = .ok (.bipush 60, 2) := by decide +kernel
theorem dX5_fogThen_17 : decode cX5_fogThen 17 = .ok (.invokestatic 220, 3) := by decide +kernel
theorem dX5_fogThen_20 : decode cX5_fogThen 20 = .ok (.istore_n 3, 1) := by decide +kernel
theorem dX5_fogThen_21 : decode cX5_fogThen 21 = .ok (.iload_n 3, 1) := by decide +kernel
theorem dX5_fogThen_22 : decode cX5_fogThen 22 = .ok (.ifCond .eq 9, 3) := by decide +kernel
theorem dX5_fogThen_25 : decode cX5_fogThen 25 = .ok (.aload_n 0, 1) := by decide +kernel
theorem dX5_fogThen_26 : decode cX5_fogThen 26 = .ok (.iload_n 3, 1) := by decide +kernel
theorem dX5_fogThen_27 : decode cX5_fogThen 27 = .ok (.invokevirtual 60, 3) := by decide +kernel
theorem dX5_fogThen_30 : decode cX5_fogThen 30 = .ok (.ireturn, 1) := by decide +kernel
theorem dX5_fogThen_31 : decode cX5_fogThen 31 = .ok (.aload_n 0, 1) := by decide +kernel
theorem dX5_fogThen_32 : decode cX5_fogThen 32 = .ok (.iload_n 2, 1) := by decide +kernel
theorem dX5_fogThen_33 : decode cX5_fogThen 33 = .ok (.invokevirtual 227, 3) := by decide +kernel
theorem dX5_fogThen_36 : decode cX5_fogThen 36 = .ok (.aload_n 0, 1) := by decide +kernel
theorem dX5_fogThen_37 : decode cX5_fogThen 37 = .ok (.getfield 50, 3) := by decide +kernel
theorem dX5_fogThen_40 : decode cX5_fogThen 40 = .ok (.iload_n 1, 1) := by decide +kernel
theorem dX5_fogThen_41 : decode cX5_fogThen 41 = .ok (.invokevirtual 192, 3) := by decide +kernel
theorem dX5_fogThen_44 : decode cX5_fogThen 44 = .ok (.ireturn, 1) := by decide +kernel
theorem dX5_then_0 : decode cX5_then 0 = .ok (.iload_n 1, 1) := by decide +kernel
theorem dX5_then_1 : decode cX5_then 1 = .ok (.iconst 0, 1) := by decide +kernel
theorem dX5_then_2 : decode cX5_then 2 = .ok (.bipush 60, 2) := by decide +kernel
theorem dX5_then_4 : decode cX5_then 4 = .ok (.invokestatic 220, 3) := by decide +kernel
theorem dX5_then_7 : decode cX5_then 7 = .ok (.istore_n 3, 1) := by decide +kernel
theorem dX5_then_8 : decode cX5_then 8 = .ok (.iload_n 3, 1) := by decide +kernel
theorem dX5_then_9 : decode cX5_then 9 = .ok (.ifCond .eq 9, 3) := by decide +kernel
theorem dX5_then_12 : decode cX5_then 12 = .ok (.aload_n 0, 1) := by decide +kernel
theorem dX5_then_13 : decode cX5_then 13 = .ok (.iload_n 3, 1) := by decide +kernel
theorem dX5_then_14 : decode cX5_then 14 = .ok (.invokevirtual 60, 3) := by decide +kernel
theorem dX5_then_17 : decode cX5_then 17 = .ok (.ireturn, 1) := by decide +kernel
theorem dX5_then_18 : decode cX5_then 18 = .ok (.iload_n 2, 1) := by decide +kernel
theorem dX5_then_19 : decode cX5_then 19 = .ok (.ifCond .lt 8, 3) := by decide +kernel
theorem dX5_then_22 : decode cX5_then 22 = .ok (.iload_n 2, 1) := by decide +kernel
theorem dX5_then_23 : decode cX5_then 23 = .ok (.iconst 2, 1) := by decide +kernel
theorem dX5_then_24 : decode cX5_then 24 = .ok (.if_icmp .le 10, 3) := by decide +kernel
theorem dX5_then_27 : decode cX5_then 27 = .ok (.aload_n 0, 1) := by decide +kernel
theorem dX5_then_28 : decode cX5_then 28 = .ok (.bipush (-2), 2) := by decide +kernel
theorem dX5_then_30 : decode cX5_then 30 = .ok (.invokevirtual 60, 3) := by decide +kernel
theorem dX5_then_33 : decode cX5_then 33 = .ok (.ireturn, 1) := by decide +kernel
theorem dX5_then_34 : decode cX5_then 34 = .ok (.aload_n 0, 1) := by decide +kernel
theorem dX5_then_35 : decode cX5_then 35 = .ok (.iload_n 1, 1) := by decide +kernel
theorem dX5_then_36 : decode cX5_then 36 = .ok (.invokevirtual 227, 3) := by decide +kernel
theorem dX5_then_39 : decode cX5_then 39 = .ok (.iload_n 2, 1) := by decide +kernel
theorem dX5_then_40 : decode cX5_then 40 = .ok (.lookupswitch 47 #[(0, 28), (1, 36)], 28) := by decide +kernel
theorem dX5_then_68 : decode cX5_then 68 = .ok (.aload_n 0, 1) := by decide +kernel
theorem dX5_then_69 : decode cX5_then 69 = .ok (.getfield 50, 3) := by decide +kernel
theorem dX5_then_72 : decode cX5_then 72 = .ok (.invokevirtual 217, 3) := by decide +kernel
theorem dX5_then_75 : decode cX5_then 75 = .ok (.ireturn, 1) := by decide +kernel
theorem dX5_then_76 : decode cX5_then 76 = .ok (.aload_n 0, 1) := by decide +kernel
theorem dX5_then_77 : decode cX5_then 77 = .ok (.getfield 50, 3) := by decide +kernel
theorem dX5_then_80 : decode cX5_then 80 = .ok (.getfield 81, 3) := by decide +kernel
theorem dX5_then_83 : decode cX5_then 83 = .ok (.invokevirtual 213, 3) := by decide +kernel
theorem dX5_then_86 : decode cX5_then 86 = .ok (.ireturn, 1) := by decide +kernel
theorem dX5_then_87 : decode cX5_then 87 = .ok (.aload_n 0, 1) := by decide +kernel
theorem dX5_then_88 : decode cX5_then 88 = .ok (.getfield 50, 3) := by decide +kernel
theorem dX5_then_91 : decode cX5_then 91 = .ok (.getfield 81, 3) := by decide +kernel
theorem dX5_then_94 : decode cX5_then 94 = .ok (.invokevirtual 230, 3) := by decide +kernel
theorem dX5_then_97 : decode cX5_then 97 = .ok (.ireturn, 1) := by decide +kernel
theorem dX5_ownerThen_0 : decode cX5_ownerThen 0 = .ok (.aload_n 0, 1) := by decide +kernel
theorem dX5_ownerThen_1 : decode cX5_ownerThen 1 = .ok (.getfield 10, 3) := by decide +kernel
theorem dX5_ownerThen_4 : decode cX5_ownerThen 4 = .ok (.iload_n 1, 1) := by decide +kernel
theorem dX5_ownerThen_5 : decode cX5_ownerThen 5 = .ok (.invokevirtual 159, 3) := by decide +kernel
theorem dX5_ownerThen_8 : decode cX5_ownerThen 8 = .ok (.ifCond .ne 9, 3) := by decide +kernel
theorem dX5_ownerThen_11 : decode cX5_ownerThen 11 = .ok (.aload_n 0, 1) := by decide +kernel
theorem dX5_ownerThen_12 : decode cX5_ownerThen 12 = .ok (.iconst (-1), 1) := by decide +kernel
theorem dX5_ownerThen_13 : decode cX5_ownerThen 13 = .ok (.invokevirtual 60, 3) := by decide +kernel
theorem dX5_ownerThen_16 : decode cX5_ownerThen 16 = .ok (.ireturn, 1) := by decide +kernel
theorem dX5_ownerThen_17 : decode cX5_ownerThen 17 = .ok (.iload_n 2, 1) := by decide +kernel
theorem dX5_ownerThen_18 : decode cX5_ownerThen 18 = .ok (.iconst 0, 1) := by decide +kernel
theorem dX5_ownerThen_19 : decode cX5_ownerThen 19 = .ok (.bipush 60, 2) := by decide +kernel
theorem dX5_ownerThen_21 : decode cX5_ownerThen 21 = .ok (.invokestatic 220, 3) := by decide +kernel
theorem dX5_ownerThen_24 : decode cX5_ownerThen 24 = .ok (.istore_n 3, 1) := by decide +kernel
theorem dX5_ownerThen_25 : decode cX5_ownerThen 25 = .ok (.iload_n 3, 1) := by decide +kernel
theorem dX5_ownerThen_26 : decode cX5_ownerThen 26 = .ok (.ifCond .eq 9, 3) := by decide +kernel
theorem dX5_ownerThen_29 : decode cX5_ownerThen 29 = .ok (.aload_n 0, 1) := by decide +kernel
theorem dX5_ownerThen_30 : decode cX5_ownerThen 30 = .ok (.iload_n 3, 1) := by decide +kernel
theorem dX5_ownerThen_31 : decode cX5_ownerThen 31 = .ok (.invokevirtual 60, 3) := by decide +kernel
theorem dX5_ownerThen_34 : decode cX5_ownerThen 34 = .ok (.ireturn, 1) := by decide +kernel
theorem dX5_ownerThen_35 : decode cX5_ownerThen 35 = .ok (.aload_n 0, 1) := by decide +kernel
theorem dX5_ownerThen_36 : decode cX5_ownerThen 36 = .ok (.iload_n 2, 1) := by decide +kernel
theorem dX5_ownerThen_37 : decode cX5_ownerThen 37 = .ok (.invokevirtual 227, 3) := by decide +kernel
theorem dX5_ownerThen_40 : decode cX5_ownerThen 40 = .ok (.aload_n 0, 1) := by decide +kernel
theorem dX5_ownerThen_41 : decode cX5_ownerThen 41 = .ok (.getfield 50, 3) := by decide +kernel
theorem dX5_ownerThen_44 : decode cX5_ownerThen 44 = .ok (.getfield 81, 3) := by decide +kernel
theorem dX5_ownerThen_47 : decode cX5_ownerThen 47 = .ok (.getfield 168, 3) := by decide +kernel
theorem dX5_ownerThen_50 : decode cX5_ownerThen 50 = .ok (.iload_n 1, 1) := by decide +kernel
theorem dX5_ownerThen_51 : decode cX5_ownerThen 51 = .ok (.iaload, 1) := by decide +kernel
theorem dX5_ownerThen_52 : decode cX5_ownerThen 52 = .ok (.invokestatic 171, 3) := by decide +kernel
theorem dX5_ownerThen_55 : decode cX5_ownerThen 55 = .ok (.ireturn, 1) := by decide +kernel
theorem dX5_personThen_0 : decode cX5_personThen 0 = .ok (.aload_n 0, 1) := by decide +kernel
theorem dX5_personThen_1 : decode cX5_personThen 1 = .ok (.getfield 10, 3) := by decide +kernel
theorem dX5_personThen_4 : decode cX5_personThen 4 = .ok (.iload_n 1, 1) := by decide +kernel
theorem dX5_personThen_5 : decode cX5_personThen 5 = .ok (.invokevirtual 123, 3) := by decide +kernel
theorem dX5_personThen_8 : decode cX5_personThen 8 = .ok (.ifCond .ne 9, 3) := by decide +kernel
theorem dX5_personThen_11 : decode cX5_personThen 11 = .ok (.aload_n 0, 1) := by decide +kernel
theorem dX5_personThen_12 : decode cX5_personThen 12 = .ok (.iconst (-1), 1) := by decide +kernel
theorem dX5_personThen_13 : decode cX5_personThen 13 = .ok (.invokevirtual 60, 3) := by decide +kernel
theorem dX5_personThen_16 : decode cX5_personThen 16 = .ok (.ireturn, 1) := by decide +kernel
theorem dX5_personThen_17 : decode cX5_personThen 17 = .ok (.iload_n 2, 1) := by decide +kernel
theorem dX5_personThen_18 : decode cX5_personThen 18 = .ok (.iconst 0, 1) := by decide +kernel
theorem dX5_personThen_19 : decode cX5_personThen 19 = .ok (.bipush 60, 2) := by decide +kernel
theorem dX5_personThen_21 : decode cX5_personThen 21 = .ok (.invokestatic 220, 3) := by decide +kernel
theorem dX5_personThen_24 : decode cX5_personThen 24 = .ok (.istore 4, 2) := by decide +kernel
theorem dX5_personThen_26 : decode cX5_personThen 26 = .ok (.iload 4, 2) := by decide +kernel
theorem dX5_personThen_28 : decode cX5_personThen 28 = .ok (.ifCond .eq 10, 3) := by decide +kernel
theorem dX5_personThen_31 : decode cX5_personThen 31 = .ok (.aload_n 0, 1) := by decide +kernel
theorem dX5_personThen_32 : decode cX5_personThen 32 = .ok (.iload 4, 2) := by decide +kernel
theorem dX5_personThen_34 : decode cX5_personThen 34 = .ok (.invokevirtual 60, 3) := by decide +kernel
theorem dX5_personThen_37 : decode cX5_personThen 37 = .ok (.ireturn, 1) := by decide +kernel
theorem dX5_personThen_38 : decode cX5_personThen 38 = .ok (.iload_n 3, 1) := by decide +kernel
theorem dX5_personThen_39 : decode cX5_personThen 39 = .ok (.ifCond .eq 15, 3) := by decide +kernel
theorem dX5_personThen_42 : decode cX5_personThen 42 = .ok (.iload_n 3, 1) := by decide +kernel
theorem dX5_personThen_43 : decode cX5_personThen 43 = .ok (.iconst 1, 1) := by decide +kernel
theorem dX5_personThen_44 : decode cX5_personThen 44 = .ok (.if_icmp .eq 10, 3) := by decide +kernel
theorem dX5_personThen_47 : decode cX5_personThen 47 = .ok (.aload_n 0, 1) := by decide +kernel
theorem dX5_personThen_48 : decode cX5_personThen 48 = .ok (.bipush (-2), 2) := by decide +kernel
theorem dX5_personThen_50 : decode cX5_personThen 50 = .ok (.invokevirtual 60, 3) := by decide +kernel
theorem dX5_personThen_53 : decode cX5_personThen 53 = .ok (.ireturn, 1) := by decide +kernel
theorem dX5_personThen_54 : decode cX5_personThen 54 = .ok (.aload_n 0, 1) := by decide +kernel
theorem dX5_personThen_55 : decode cX5_personThen 55 = .ok (.iload_n 2, 1) := by decide +kernel
theorem dX5_personThen_56 : decode cX5_personThen 56 = .ok (.invokevirtual 227, 3) := by decide +kernel
theorem dX5_personThen_59 : decode cX5_personThen 59 = .ok (.iload_n 3, 1) := by decide +kernel
theorem dX5_personThen_60 : decode cX5_personThen 60 = .ok (.ifCond .ne 18, 3) := by decide +kernel
theorem dX5_personThen_63 : decode cX5_personThen 63 = .ok (.aload_n 0, 1) := by decide +kernel
theorem dX5_personThen_64 : decode cX5_personThen 64 = .ok (.getfield 50, 3) := by decide +kernel
theorem dX5_personThen_67 : decode cX5_personThen 67 = .ok (.getfield 81, 3) := by decide +kernel
theorem dX5_personThen_70 : decode cX5_personThen 70 = .ok (.getfield 135, 3) := by decide +kernel
theorem dX5_personThen_73 : decode cX5_personThen 73 = .ok (.iload_n 1, 1) := by decide +kernel
theorem dX5_personThen_74 : decode cX5_personThen 74 = .ok (.iaload, 1) := by decide +kernel
theorem dX5_personThen_75 : decode cX5_personThen 75 = .ok (.goto 14, 3) := by decide +kernel
theorem dX5_personThen_78 : decode cX5_personThen 78 = .ok (.aload_n 0, 1) := by decide +kernel
theorem dX5_personThen_79 : decode cX5_personThen 79 = .ok (.getfield 50, 3) := by decide +kernel
theorem dX5_personThen_82 : decode cX5_personThen 82 = .ok (.getfield 81, 3) := by decide +kernel
theorem dX5_personThen_85 : decode cX5_personThen 85 = .ok (.iload_n 1, 1) := by decide +kernel
theorem dX5_personThen_86 : decode cX5_personThen 86 = .ok (.invokevirtual 156, 3) := by decide +kernel
theorem dX5_personThen_89 : decode cX5_personThen 89 = .ok (.ireturn, 1) := by decide +kernel
theorem dX5_when_0 : decode cX5_when 0 = .ok (.aload_n 0, 1) := by decide +kernel
theorem dX5_when_1 : decode cX5_when 1 = .ok (.getfield 10, 3) := by decide +kernel
theorem dX5_when_4 : decode cX5_when 4 = .ok (.iload_n 1, 1) := by decide +kernel
theorem dX5_when_5 : decode cX5_when 5 = .ok (.invokevirtual 123, 3) := by decide +kernel
theorem dX5_when_8 : decode cX5_when 8 = .ok (.ifCond .eq 14, 3) := by decide +kernel
theorem dX5_when_11 : decode cX5_when 11 = .ok (.aload_n 0, 1) := by decide +kernel
theorem dX5_when_12 : decode cX5_when 12 = .ok (.getfield 10, 3) := by decide +kernel
theorem dX5_when_15 : decode cX5_when 15 = .ok (.iload_n 2, 1) := by decide +kernel
theorem dX5_when_16 : decode cX5_when 16 = .ok (.invokevirtual 159, 3) := by decide +kernel
theorem dX5_when_19 : decode cX5_when 19 = .ok (.ifCond .ne 9, 3) := by decide +kernel
theorem dX5_when_22 : decode cX5_when 22 = .ok (.aload_n 0, 1) := by decide +kernel
theorem dX5_when_23 : decode cX5_when 23 = .ok (.iconst (-1), 1) := by decide +kernel
theorem dX5_when_24 : decode cX5_when 24 = .ok (.invokevirtual 60, 3) := by decide +kernel
theorem dX5_when_27 : decode cX5_when 27 = .ok (.ireturn, 1) := by decide +kernel
theorem dX5_when_28 : decode cX5_when 28 = .ok (.aload_n 0, 1) := by decide +kernel
theorem dX5_when_29 : decode cX5_when 29 = .ok (.getfield 50, 3) := by decide +kernel
theorem dX5_when_32 : decode cX5_when 32 = .ok (.aload_n 0, 1) := by decide +kernel
theorem dX5_when_33 : decode cX5_when 33 = .ok (.getfield 10, 3) := by decide +kernel
theorem dX5_when_36 : decode cX5_when 36 = .ok (.invokevirtual 67, 3) := by decide +kernel
theorem dX5_when_39 : decode cX5_when 39 = .ok (.iconst 0, 1) := by decide +kernel
theorem dX5_when_40 : decode cX5_when 40 = .ok (.istore_n 3, 1) := by decide +kernel
theorem dX5_when_41 : decode cX5_when 41 = .ok (.iload_n 3, 1) := by decide +kernel
theorem dX5_when_42 : decode cX5_when 42 = .ok (.bipush 60, 2) := by decide +kernel
theorem dX5_when_44 : decode cX5_when 44 = .ok (.if_icmp .gt 35, 3) := by decide +kernel
theorem dX5_when_47 : decode cX5_when 47 = .ok (.aload_n 0, 1) := by decide +kernel
theorem dX5_when_48 : decode cX5_when 48 = .ok (.getfield 50, 3) := by decide +kernel
theorem dX5_when_51 : decode cX5_when 51 = .ok (.getfield 81, 3) := by decide +kernel
theorem dX5_when_54 : decode cX5_when 54 = .ok (.getfield 168, 3) := by decide +kernel
theorem dX5_when_57 : decode cX5_when 57 = .ok (.iload_n 2, 1) := by decide +kernel
theorem dX5_when_58 : decode cX5_when 58 = .ok (.iaload, 1) := by decide +kernel
theorem dX5_when_59 : decode cX5_when 59 = .ok (.iload_n 1, 1) := by decide +kernel
theorem dX5_when_60 : decode cX5_when 60 = .ok (.if_icmp .ne 5, 3) := by decide +kernel
theorem dX5_when_63 : decode cX5_when 63 = .ok (.iload_n 3, 1) := by decide +kernel
theorem dX5_when_64 : decode cX5_when 64 = .ok (.ireturn, 1) := by decide +kernel
theorem dX5_when_65 : decode cX5_when 65 = .ok (.aload_n 0, 1) := by decide +kernel
theorem dX5_when_66 : decode cX5_when 66 = .ok (.getfield 50, 3) := by decide +kernel
theorem dX5_when_69 : decode cX5_when 69 = .ok (.iconst 1, 1) := by decide +kernel
theorem dX5_when_70 : decode cX5_when 70 = .ok (.invokevirtual 119, 3) := by decide +kernel
theorem dX5_when_73 : decode cX5_when 73 = .ok (.iinc 3 1, 3) := by decide +kernel
theorem dX5_when_76 : decode cX5_when 76 = .ok (.goto (-35), 3) := by decide +kernel
theorem dX5_when_79 : decode cX5_when 79 = .ok (.bipush (-9), 2) := by decide +kernel
theorem dX5_when_81 : decode cX5_when 81 = .ok (.ireturn, 1) := by decide +kernel
theorem dX5_first_0 : decode cX5_first 0 = .ok (.aload_n 0, 1) := by decide +kernel
theorem dX5_first_1 : decode cX5_first 1 = .ok (.getfield 10, 3) := by decide +kernel
theorem dX5_first_4 : decode cX5_first 4 = .ok (.invokevirtual 230, 3) := by decide +kernel
theorem dX5_first_7 : decode cX5_first 7 = .ok (.istore_n 1, 1) := by decide +kernel
theorem dX5_first_8 : decode cX5_first 8 = .ok (.aload_n 0, 1) := by decide +kernel
theorem dX5_first_9 : decode cX5_first 9 = .ok (.getfield 50, 3) := by decide +kernel
theorem dX5_first_12 : decode cX5_first 12 = .ok (.aload_n 0, 1) := by decide +kernel
theorem dX5_first_13 : decode cX5_first 13 = .ok (.getfield 10, 3) := by decide +kernel
theorem dX5_first_16 : decode cX5_first 16 = .ok (.invokevirtual 67, 3) := by decide +kernel
theorem dX5_first_19 : decode cX5_first 19 = .ok (.iconst 0, 1) := by decide +kernel
theorem dX5_first_20 : decode cX5_first 20 = .ok (.istore_n 2, 1) := by decide +kernel
theorem dX5_first_21 : decode cX5_first 21 = .ok (.iload_n 2, 1) := by decide +kernel
theorem dX5_first_22 : decode cX5_first 22 = .ok (.bipush 60, 2) := by decide +kernel
theorem dX5_first_24 : decode cX5_first 24 = .ok (.if_icmp .ge 41, 3) := by decide +kernel
theorem dX5_first_27 : decode cX5_first 27 = .ok (.aload_n 0, 1) := by decide +kernel
theorem dX5_first_28 : decode cX5_first 28 = .ok (.getfield 50, 3) := by decide +kernel
theorem dX5_first_31 : decode cX5_first 31 = .ok (.iconst 1, 1) := by decide +kernel
theorem dX5_first_32 : decode cX5_first 32 = .ok (.invokevirtual 119, 3) := by decide +kernel
theorem dX5_first_35 : decode cX5_first 35 = .ok (.iload_n 1, 1) := by decide +kernel
theorem dX5_first_36 : decode cX5_first 36 = .ok (.aload_n 0, 1) := by decide +kernel
theorem dX5_first_37 : decode cX5_first 37 = .ok (.getfield 50, 3) := by decide +kernel
theorem dX5_first_40 : decode cX5_first 40 = .ok (.getfield 81, 3) := by decide +kernel
theorem dX5_first_43 : decode cX5_first 43 = .ok (.invokevirtual 230, 3) := by decide +kernel
theorem dX5_first_46 : decode cX5_first 46 = .ok (.iconst (-1), 1) := by decide +kernel
theorem dX5_first_47 : decode cX5_first 47 = .ok (.ixor, 1) := by decide +kernel
theorem dX5_first_48 : decode cX5_first 48 = .ok (.iand, 1) := by decide +kernel
theorem dX5_first_49 : decode cX5_first 49 = .ok (.istore_n 3, 1) := by decide +kernel
theorem dX5_first_50 : decode cX5_first 50 = .ok (.iload_n 3, 1) := by decide +kernel
theorem dX5_first_51 : decode cX5_first 51 = .ok (.ifCond .eq 8, 3) := by decide +kernel
theorem dX5_first_54 : decode cX5_first 54 = .ok (.iload_n 3, 1) := by decide +kernel
theorem dX5_first_55 : decode cX5_first 55 = .ok (.invokestatic 233, 3) := by decide +kernel
theorem dX5_first_58 : decode cX5_first 58 = .ok (.ireturn, 1) := by decide +kernel
theorem dX5_first_59 : decode cX5_first 59 = .ok (.iinc 2 1, 3) := by decide +kernel
theorem dX5_first_62 : decode cX5_first 62 = .ok (.goto (-41), 3) := by decide +kernel
theorem dX5_first_65 : decode cX5_first 65 = .ok (.bipush (-9), 2) := by decide +kernel
theorem dX5_first_67 : decode cX5_first 67 = .ok (.ireturn, 1) := by decide +kernel
theorem dX5_clears_0 : decode cX5_clears 0 = .ok (.iload_n 1, 1) := by decide +kernel
theorem dX5_clears_1 : decode cX5_clears 1 = .ok (.invokestatic 186, 3) := by decide +kernel
theorem dX5_clears_4 : decode cX5_clears 4 = .ok (.ifCond .ne 9, 3) := by decide +kernel
theorem dX5_clears_7 : decode cX5_clears 7 = .ok (.aload_n 0, 1) := by decide +kernel
theorem dX5_clears_8 : decode cX5_clears 8 = .ok (.iconst (-1), 1) := by decide +kernel
theorem dX5_clears_9 : decode cX5_clears 9 = .ok (.invokevirtual 60, 3) := by decide +kernel
theorem dX5_clears_12 : decode cX5_clears 12 = .ok (.ireturn, 1) := by decide +kernel
theorem dX5_clears_13 : decode cX5_clears 13 = .ok (.aload_n 0, 1) := by decide +kernel
theorem dX5_clears_14 : decode cX5_clears 14 = .ok (.getfield 50, 3) := by decide +kernel
theorem dX5_clears_17 : decode cX5_clears 17 = .ok (.aload_n 0, 1) := by decide +kernel
theorem dX5_clears_18 : decode cX5_clears 18 = .ok (.getfield 10, 3) := by decide +kernel
theorem dX5_clears_21 : decode cX5_clears 21 = .ok (.invokevirtual 67, 3) := by decide +kernel
theorem dX5_clears_24 : decode cX5_clears 24 = .ok (.iconst 0, 1) := by decide +kernel
theorem dX5_clears_25 : decode cX5_clears 25 = .ok (.istore_n 2, 1) := by decide +kernel
theorem dX5_clears_26 : decode cX5_clears 26 = .ok (.iload_n 2, 1) := by decide +kernel
theorem dX5_clears_27 : decode cX5_clears 27 = .ok (.bipush 60, 2) := by decide +kernel
theorem dX5_clears_29 : decode cX5_clears 29 = .ok (.if_icmp .gt 30, 3) := by decide +kernel
theorem dX5_clears_32 : decode cX5_clears 32 = .ok (.aload_n 0, 1) := by decide +kernel
theorem dX5_clears_33 : decode cX5_clears 33 = .ok (.getfield 50, 3) := by decide +kernel
theorem dX5_clears_36 : decode cX5_clears 36 = .ok (.iload_n 1, 1) := by decide +kernel
theorem dX5_clears_37 : decode cX5_clears 37 = .ok (.invokevirtual 195, 3) := by decide +kernel
theorem dX5_clears_40 : decode cX5_clears 40 = .ok (.ifCond .ne 5, 3) := by decide +kernel
theorem dX5_clears_43 : decode cX5_clears 43 = .ok (.iload_n 2, 1) := by decide +kernel
theorem dX5_clears_44 : decode cX5_clears 44 = .ok (.ireturn, 1) := by decide +kernel
theorem dX5_clears_45 : decode cX5_clears 45 = .ok (.aload_n 0, 1) := by decide +kernel
theorem dX5_clears_46 : decode cX5_clears 46 = .ok (.getfield 50, 3) := by decide +kernel
theorem dX5_clears_49 : decode cX5_clears 49 = .ok (.iconst 1, 1) := by decide +kernel
theorem dX5_clears_50 : decode cX5_clears 50 = .ok (.invokevirtual 119, 3) := by decide +kernel
theorem dX5_clears_53 : decode cX5_clears 53 = .ok (.iinc 2 1, 3) := by decide +kernel
theorem dX5_clears_56 : decode cX5_clears 56 = .ok (.goto (-30), 3) := by decide +kernel
theorem dX5_clears_59 : decode cX5_clears 59 = .ok (.bipush (-9), 2) := by decide +kernel
theorem dX5_clears_61 : decode cX5_clears 61 = .ok (.ireturn, 1) := by decide +kernel
theorem dX5_stand_0 : decode cX5_stand 0 = .ok (.aload_n 0, 1) := by decide +kernel
theorem dX5_stand_1 : decode cX5_stand 1 = .ok (.getfield 10, 3) := by decide +kernel
theorem dX5_stand_4 : decode cX5_stand 4 = .ok (.iload_n 1, 1) := by decide +kernel
theorem dX5_stand_5 : decode cX5_stand 5 = .ok (.invokevirtual 123, 3) := by decide +kernel
theorem dX5_stand_8 : decode cX5_stand 8 = .ok (.ifCond .ne 9, 3) := by decide +kernel
theorem dX5_stand_11 : decode cX5_stand 11 = .ok (.aload_n 0, 1) := by decide +kernel
theorem dX5_stand_12 : decode cX5_stand 12 = .ok (.iconst (-1), 1) := by decide +kernel
theorem dX5_stand_13 : decode cX5_stand 13 = .ok (.invokevirtual 60, 3) := by decide +kernel
theorem dX5_stand_16 : decode cX5_stand 16 = .ok (.ireturn, 1) := by decide +kernel
theorem dX5_stand_17 : decode cX5_stand 17 = .ok (.iload_n 2, 1) := by decide +kernel
theorem dX5_stand_18 : decode cX5_stand 18 = .ok (.iconst 0, 1) := by decide +kernel
theorem dX5_stand_19 : decode cX5_stand 19 = .ok (.bipush 30, 2) := by decide +kernel
theorem dX5_stand_21 : decode cX5_stand 21 = .ok (.invokestatic 220, 3) := by decide +kernel
theorem dX5_stand_24 : decode cX5_stand 24 = .ok (.istore 4, 2) := by decide +kernel
theorem dX5_stand_26 : decode cX5_stand 26 = .ok (.iload 4, 2) := by decide +kernel
theorem dX5_stand_28 : decode cX5_stand 28 = .ok (.ifCond .eq 10, 3) := by decide +kernel
theorem dX5_stand_31 : decode cX5_stand 31 = .ok (.aload_n 0, 1) := by decide +kernel
theorem dX5_stand_32 : decode cX5_stand 32 = .ok (.iload 4, 2) := by decide +kernel
theorem dX5_stand_34 : decode cX5_stand 34 = .ok (.invokevirtual 60, 3) := by decide +kernel
theorem dX5_stand_37 : decode cX5_stand 37 = .ok (.ireturn, 1) := by decide +kernel
theorem dX5_stand_38 : decode cX5_stand 38 = .ok (.iload_n 3, 1) := by decide +kernel
theorem dX5_stand_39 : decode cX5_stand 39 = .ok (.ifCond .eq 15, 3) := by decide +kernel
theorem dX5_stand_42 : decode cX5_stand 42 = .ok (.iload_n 3, 1) := by decide +kernel
theorem dX5_stand_43 : decode cX5_stand 43 = .ok (.iconst 1, 1) := by decide +kernel
theorem dX5_stand_44 : decode cX5_stand 44 = .ok (.if_icmp .eq 10, 3) := by decide +kernel
theorem dX5_stand_47 : decode cX5_stand 47 = .ok (.aload_n 0, 1) := by decide +kernel
theorem dX5_stand_48 : decode cX5_stand 48 = .ok (.bipush (-2), 2) := by decide +kernel
theorem dX5_stand_50 : decode cX5_stand 50 = .ok (.invokevirtual 60, 3) := by decide +kernel
theorem dX5_stand_53 : decode cX5_stand 53 = .ok (.ireturn, 1) := by decide +kernel
theorem dX5_stand_54 : decode cX5_stand 54 = .ok (.iconst (-1), 1) := by decide +kernel
theorem dX5_stand_55 : decode cX5_stand 55 = .ok (.istore 5, 2) := by decide +kernel
theorem dX5_stand_57 : decode cX5_stand 57 = .ok (.iconst (-1), 1) := by decide +kernel
theorem dX5_stand_58 : decode cX5_stand 58 = .ok (.istore 6, 2) := by decide +kernel
theorem dX5_stand_60 : decode cX5_stand 60 = .ok (.iconst 0, 1) := by decide +kernel
theorem dX5_stand_61 : decode cX5_stand 61 = .ok (.istore 7, 2) := by decide +kernel
theorem dX5_stand_63 : decode cX5_stand 63 = .ok (.iload 7, 2) := by decide +kernel
theorem dX5_stand_65 : decode cX5_stand 65 = .ok (.bipush 24, 2) := by decide +kernel
theorem dX5_stand_67 : decode cX5_stand 67 = .ok (.if_icmp .ge 70, 3) := by decide +kernel
theorem dX5_stand_70 : decode cX5_stand 70 = .ok (.aload_n 0, 1) := by decide +kernel
theorem dX5_stand_71 : decode cX5_stand 71 = .ok (.getfield 50, 3) := by decide +kernel
theorem dX5_stand_74 : decode cX5_stand 74 = .ok (.aload_n 0, 1) := by decide +kernel
theorem dX5_stand_75 : decode cX5_stand 75 = .ok (.getfield 10, 3) := by decide +kernel
theorem dX5_stand_78 : decode cX5_stand 78 = .ok (.invokevirtual 67, 3) := by decide +kernel
theorem dX5_stand_81 : decode cX5_stand 81 = .ok (.aload_n 0, 1) := by decide +kernel
theorem dX5_stand_82 : decode cX5_stand 82 = .ok (.getfield 50, 3) := by decide +kernel
theorem dX5_stand_85 : decode cX5_stand 85 = .ok (.getfield 81, 3) := by decide +kernel
theorem dX5_stand_88 : decode cX5_stand 88 = .ok (.getfield 135, 3) := by decide +kernel
theorem dX5_stand_91 : decode cX5_stand 91 = .ok (.iload_n 1, 1) := by decide +kernel
theorem dX5_stand_92 : decode cX5_stand 92 = .ok (.iload 7, 2) := by decide +kernel
theorem dX5_stand_94 : decode cX5_stand 94 = .ok (.iastore, 1) := by decide +kernel
theorem dX5_stand_95 : decode cX5_stand 95 = .ok (.aload_n 0, 1) := by decide +kernel
theorem dX5_stand_96 : decode cX5_stand 96 = .ok (.getfield 50, 3) := by decide +kernel
theorem dX5_stand_99 : decode cX5_stand 99 = .ok (.iload_n 2, 1) := by decide +kernel
theorem dX5_stand_100 : decode cX5_stand 100 = .ok (.invokevirtual 119, 3) := by decide +kernel
theorem dX5_stand_103 : decode cX5_stand 103 = .ok (.aload_n 0, 1) := by decide +kernel
theorem dX5_stand_104 : decode cX5_stand 104 = .ok (.getfield 50, 3) := by decide +kernel
theorem dX5_stand_107 : decode cX5_stand 107 = .ok (.getfield 81, 3) := by decide +kernel
theorem dX5_stand_110 : decode cX5_stand 110 = .ok (.iload_n 1, 1) := by decide +kernel
theorem dX5_stand_111 : decode cX5_stand 111 = .ok (.invokevirtual 156, 3) := by decide +kernel
theorem dX5_stand_114 : decode cX5_stand 114 = .ok (.istore 8, 2) := by decide +kernel
theorem dX5_stand_116 : decode cX5_stand 116 = .ok (.iload 8, 2) := by decide +kernel
theorem dX5_stand_118 : decode cX5_stand 118 = .ok (.iload 6, 2) := by decide +kernel
theorem dX5_stand_120 : decode cX5_stand 120 = .ok (.if_icmp .le 11, 3) := by decide +kernel
theorem dX5_stand_123 : decode cX5_stand 123 = .ok (.iload 8, 2) := by decide +kernel
theorem dX5_stand_125 : decode cX5_stand 125 = .ok (.istore 6, 2) := by decide +kernel
theorem dX5_stand_127 : decode cX5_stand 127 = .ok (.iload 7, 2) := by decide +kernel
theorem dX5_stand_129 : decode cX5_stand 129 = .ok (.istore 5, 2) := by decide +kernel
theorem dX5_stand_131 : decode cX5_stand 131 = .ok (.iinc 7 1, 3) := by decide +kernel
theorem dX5_stand_134 : decode cX5_stand 134 = .ok (.goto (-71), 3) := by decide +kernel
theorem dX5_stand_137 : decode cX5_stand 137 = .ok (.iload_n 3, 1) := by decide +kernel
theorem dX5_stand_138 : decode cX5_stand 138 = .ok (.ifCond .ne 8, 3) := by decide +kernel
theorem dX5_stand_141 : decode cX5_stand 141 = .ok (.iload 5, 2) := by decide +kernel
theorem dX5_stand_143 : decode cX5_stand 143 = .ok (.goto 5, 3) := by decide +kernel
theorem dX5_stand_146 : decode cX5_stand 146 = .ok (.iload 6, 2) := by decide +kernel
theorem dX5_stand_148 : decode cX5_stand 148 = .ok (.ireturn, 1) := by decide +kernel
theorem dX5_kettle_0 : decode cX5_kettle 0 = .ok (.aload_n 0, 1) := by decide +kernel
theorem dX5_kettle_1 : decode cX5_kettle 1 = .ok (.getfield 10, 3) := by decide +kernel
theorem dX5_kettle_4 : decode cX5_kettle 4 = .ok (.iload_n 1, 1) := by decide +kernel
theorem dX5_kettle_5 : decode cX5_kettle 5 = .ok (.invokevirtual 123, 3) := by decide +kernel
theorem dX5_kettle_8 : decode cX5_kettle 8 = .ok (.ifCond .eq 14, 3) := by decide +kernel
theorem dX5_kettle_11 : decode cX5_kettle 11 = .ok (.aload_n 0, 1) := by decide +kernel
theorem dX5_kettle_12 : decode cX5_kettle 12 = .ok (.getfield 10, 3) := by decide +kernel
theorem dX5_kettle_15 : decode cX5_kettle 15 = .ok (.iload_n 2, 1) := by decide +kernel
theorem dX5_kettle_16 : decode cX5_kettle 16 = .ok (.invokevirtual 159, 3) := by decide +kernel
theorem dX5_kettle_19 : decode cX5_kettle 19 = .ok (.ifCond .ne 9, 3) := by decide +kernel
theorem dX5_kettle_22 : decode cX5_kettle 22 = .ok (.aload_n 0, 1) := by decide +kernel
theorem dX5_kettle_23 : decode cX5_kettle 23 = .ok (.iconst (-1), 1) := by decide +kernel
theorem dX5_kettle_24 : decode cX5_kettle 24 = .ok (.invokevirtual 60, 3) := by decide +kernel
theorem dX5_kettle_27 : decode cX5_kettle 27 = .ok (.ireturn, 1) := by decide +kernel
theorem dX5_kettle_28 : decode cX5_kettle 28 = .ok (.iload_n 3, 1) := by decide +kernel
theorem dX5_kettle_29 : decode cX5_kettle 29 = .ok (.iconst 0, 1) := by decide +kernel
theorem dX5_kettle_30 : decode cX5_kettle 30 = .ok (.bipush 30, 2) := by decide +kernel
theorem dX5_kettle_32 : decode cX5_kettle 32 = .ok (.invokestatic 220, 3) := by decide +kernel
theorem dX5_kettle_35 : decode cX5_kettle 35 = .ok (.istore 4, 2) := by decide +kernel
theorem dX5_kettle_37 : decode cX5_kettle 37 = .ok (.iload 4, 2) := by decide +kernel
theorem dX5_kettle_39 : decode cX5_kettle 39 = .ok (.ifCond .eq 10, 3) := by decide +kernel
theorem dX5_kettle_42 : decode cX5_kettle 42 = .ok (.aload_n 0, 1) := by decide +kernel
theorem dX5_kettle_43 : decode cX5_kettle 43 = .ok (.iload 4, 2) := by decide +kernel
theorem dX5_kettle_45 : decode cX5_kettle 45 = .ok (.invokevirtual 60, 3) := by decide +kernel
theorem dX5_kettle_48 : decode cX5_kettle 48 = .ok (.ireturn, 1) := by decide +kernel
theorem dX5_kettle_49 : decode cX5_kettle 49 = .ok (.iconst 0, 1) := by decide +kernel
theorem dX5_kettle_50 : decode cX5_kettle 50 = .ok (.istore 5, 2) := by decide +kernel
theorem dX5_kettle_52 : decode cX5_kettle 52 = .ok (.iload 5, 2) := by decide +kernel
theorem dX5_kettle_54 : decode cX5_kettle 54 = .ok (.bipush 24, 2) := by decide +kernel
theorem dX5_kettle_56 : decode cX5_kettle 56 = .ok (.if_icmp .ge 56, 3) := by decide +kernel
theorem dX5_kettle_59 : decode cX5_kettle 59 = .ok (.aload_n 0, 1) := by decide +kernel
theorem dX5_kettle_60 : decode cX5_kettle 60 = .ok (.getfield 50, 3) := by decide +kernel
theorem dX5_kettle_63 : decode cX5_kettle 63 = .ok (.aload_n 0, 1) := by decide +kernel
theorem dX5_kettle_64 : decode cX5_kettle 64 = .ok (.getfield 10, 3) := by decide +kernel
theorem dX5_kettle_67 : decode cX5_kettle 67 = .ok (.invokevirtual 67, 3) := by decide +kernel
theorem dX5_kettle_70 : decode cX5_kettle 70 = .ok (.aload_n 0, 1) := by decide +kernel
theorem dX5_kettle_71 : decode cX5_kettle 71 = .ok (.getfield 50, 3) := by decide +kernel
theorem dX5_kettle_74 : decode cX5_kettle 74 = .ok (.iload 5, 2) := by decide +kernel
theorem dX5_kettle_76 : decode cX5_kettle 76 = .ok (.putfield 236, 3) := by decide +kernel
theorem dX5_kettle_79 : decode cX5_kettle 79 = .ok (.aload_n 0, 1) := by decide +kernel
theorem dX5_kettle_80 : decode cX5_kettle 80 = .ok (.getfield 50, 3) := by decide +kernel
theorem dX5_kettle_83 : decode cX5_kettle 83 = .ok (.iload_n 3, 1) := by decide +kernel
theorem dX5_kettle_84 : decode cX5_kettle 84 = .ok (.invokevirtual 119, 3) := by decide +kernel
theorem dX5_kettle_87 : decode cX5_kettle 87 = .ok (.aload_n 0, 1) := by decide +kernel
theorem dX5_kettle_88 : decode cX5_kettle 88 = .ok (.getfield 50, 3) := by decide +kernel
theorem dX5_kettle_91 : decode cX5_kettle 91 = .ok (.getfield 81, 3) := by decide +kernel
theorem dX5_kettle_94 : decode cX5_kettle 94 = .ok (.getfield 168, 3) := by decide +kernel
theorem dX5_kettle_97 : decode cX5_kettle 97 = .ok (.iload_n 2, 1) := by decide +kernel
theorem dX5_kettle_98 : decode cX5_kettle 98 = .ok (.iaload, 1) := by decide +kernel
theorem dX5_kettle_99 : decode cX5_kettle 99 = .ok (.iload_n 1, 1) := by decide +kernel
theorem dX5_kettle_100 : decode cX5_kettle 100 = .ok (.if_icmp .ne 6, 3) := by decide +kernel
theorem dX5_kettle_103 : decode cX5_kettle 103 = .ok (.iload 5, 2) := by decide +kernel
theorem dX5_kettle_105 : decode cX5_kettle 105 = .ok (.ireturn, 1) := by decide +kernel
theorem dX5_kettle_106 : decode cX5_kettle 106 = .ok (.iinc 5 1, 3) := by decide +kernel
theorem dX5_kettle_109 : decode cX5_kettle 109 = .ok (.goto (-57), 3) := by decide +kernel
theorem dX5_kettle_112 : decode cX5_kettle 112 = .ok (.bipush (-9), 2) := by decide +kernel
theorem dX5_kettle_114 : decode cX5_kettle 114 = .ok (.ireturn, 1) := by decide +kernel
theorem dX5_without_0 : decode cX5_without 0 = .ok (.iload_n 1, 1) := by decide +kernel
theorem dX5_without_1 : decode cX5_without 1 = .ok (.iconst 0, 1) := by decide +kernel
theorem dX5_without_2 : decode cX5_without 2 = .ok (.bipush 60, 2) := by decide +kernel
theorem dX5_without_4 : decode cX5_without 4 = .ok (.invokestatic 220, 3) := by decide +kernel
theorem dX5_without_7 : decode cX5_without 7 = .ok (.istore_n 3, 1) := by decide +kernel
theorem dX5_without_8 : decode cX5_without 8 = .ok (.iload_n 3, 1) := by decide +kernel
theorem dX5_without_9 : decode cX5_without 9 = .ok (.ifCond .eq 9, 3) := by decide +kernel
theorem dX5_without_12 : decode cX5_without 12 = .ok (.aload_n 0, 1) := by decide +kernel
theorem dX5_without_13 : decode cX5_without 13 = .ok (.iload_n 3, 1) := by decide +kernel
theorem dX5_without_14 : decode cX5_without 14 = .ok (.invokevirtual 60, 3) := by decide +kernel
theorem dX5_without_17 : decode cX5_without 17 = .ok (.ireturn, 1) := by decide +kernel
theorem dX5_without_18 : decode cX5_without 18 = .ok (.iload_n 2, 1) := by decide +kernel
theorem dX5_without_19 : decode cX5_without 19 = .ok (.ifCond .eq 15, 3) := by decide +kernel
theorem dX5_without_22 : decode cX5_without 22 = .ok (.iload_n 2, 1) := by decide +kernel
theorem dX5_without_23 : decode cX5_without 23 = .ok (.iconst 1, 1) := by decide +kernel
theorem dX5_without_24 : decode cX5_without 24 = .ok (.if_icmp .eq 10, 3) := by decide +kernel
theorem dX5_without_27 : decode cX5_without 27 = .ok (.aload_n 0, 1) := by decide +kernel
theorem dX5_without_28 : decode cX5_without 28 = .ok (.bipush (-2), 2) := by decide +kernel
theorem dX5_without_30 : decode cX5_without 30 = .ok (.invokevirtual 60, 3) := by decide +kernel
theorem dX5_without_33 : decode cX5_without 33 = .ok (.ireturn, 1) := by decide +kernel
theorem dX5_without_34 : decode cX5_without 34 = .ok (.bipush (-9), 2) := by decide +kernel
theorem dX5_without_36 : decode cX5_without 36 = .ok (.istore 4, 2) := by decide +kernel
theorem dX5_without_38 : decode cX5_without 38 = .ok (.bipush (-9), 2) := by decide +kernel
theorem dX5_without_40 : decode cX5_without 40 = .ok (.istore 5, 2) := by decide +kernel
theorem dX5_without_42 : decode cX5_without 42 = .ok (.iconst 0, 1) := by decide +kernel
theorem dX5_without_43 : decode cX5_without 43 = .ok (.istore 6, 2) := by decide +kernel
theorem dX5_without_45 : decode cX5_without 45 = .ok (.iload 6, 2) := by decide +kernel
theorem dX5_without_47 : decode cX5_without 47 = .ok (.aload_n 0, 1) := by decide +kernel
theorem dX5_without_48 : decode cX5_without 48 = .ok (.getfield 10, 3) := by decide +kernel
theorem dX5_without_51 : decode cX5_without 51 = .ok (.getfield 210, 3) := by decide +kernel
theorem dX5_without_54 : decode cX5_without 54 = .ok (.if_icmp .ge 72, 3) := by decide +kernel
theorem dX5_without_57 : decode cX5_without 57 = .ok (.aload_n 0, 1) := by decide +kernel
theorem dX5_without_58 : decode cX5_without 58 = .ok (.getfield 50, 3) := by decide +kernel
theorem dX5_without_61 : decode cX5_without 61 = .ok (.aload_n 0, 1) := by decide +kernel
theorem dX5_without_62 : decode cX5_without 62 = .ok (.getfield 10, 3) := by decide +kernel
theorem dX5_without_65 : decode cX5_without 65 = .ok (.invokevirtual 67, 3) := by decide +kernel
theorem dX5_without_68 : decode cX5_without 68 = .ok (.aload_n 0, 1) := by decide +kernel
theorem dX5_without_69 : decode cX5_without 69 = .ok (.getfield 50, 3) := by decide +kernel
theorem dX5_without_72 : decode cX5_without 72 = .ok (.getfield 81, 3) := by decide +kernel
theorem dX5_without_75 : decode cX5_without 75 = .ok (.iload 6, 2) := by decide +kernel
theorem dX5_without_77 : decode cX5_without 77 = .ok (.invokevirtual 239, 3) := by decide +kernel
theorem dX5_without_80 : decode cX5_without 80 = .ok (.aload_n 0, 1) := by decide +kernel
theorem dX5_without_81 : decode cX5_without 81 = .ok (.getfield 50, 3) := by decide +kernel
theorem dX5_without_84 : decode cX5_without 84 = .ok (.iload_n 1, 1) := by decide +kernel
theorem dX5_without_85 : decode cX5_without 85 = .ok (.invokevirtual 119, 3) := by decide +kernel
theorem dX5_without_88 : decode cX5_without 88 = .ok (.aload_n 0, 1) := by decide +kernel
theorem dX5_without_89 : decode cX5_without 89 = .ok (.getfield 50, 3) := by decide +kernel
theorem dX5_without_92 : decode cX5_without 92 = .ok (.invokevirtual 217, 3) := by decide +kernel
theorem dX5_without_95 : decode cX5_without 95 = .ok (.invokestatic 242, 3) := by decide +kernel
theorem dX5_without_98 : decode cX5_without 98 = .ok (.istore 7, 2) := by decide +kernel
theorem dX5_without_100 : decode cX5_without 100 = .ok (.iload 6, 2) := by decide +kernel
theorem dX5_without_102 : decode cX5_without 102 = .ok (.ifCond .eq 10, 3) := by decide +kernel
theorem dX5_without_105 : decode cX5_without 105 = .ok (.iload 7, 2) := by decide +kernel
theorem dX5_without_107 : decode cX5_without 107 = .ok (.iload 5, 2) := by decide +kernel
theorem dX5_without_109 : decode cX5_without 109 = .ok (.if_icmp .ge 11, 3) := by decide +kernel
theorem dX5_without_112 : decode cX5_without 112 = .ok (.iload 7, 2) := by decide +kernel
theorem dX5_without_114 : decode cX5_without 114 = .ok (.istore 5, 2) := by decide +kernel
theorem dX5_without_116 : decode cX5_without 116 = .ok (.iload 6, 2) := by decide +kernel
theorem dX5_without_118 : decode cX5_without 118 = .ok (.istore 4, 2) := by decide +kernel
theorem dX5_without_120 : decode cX5_without 120 = .ok (.iinc 6 1, 3) := by decide +kernel
theorem dX5_without_123 : decode cX5_without 123 = .ok (.goto (-78), 3) := by decide +kernel
theorem dX5_without_126 : decode cX5_without 126 = .ok (.iload_n 2, 1) := by decide +kernel
theorem dX5_without_127 : decode cX5_without 127 = .ok (.ifCond .ne 8, 3) := by decide +kernel
theorem dX5_without_130 : decode cX5_without 130 = .ok (.iload 4, 2) := by decide +kernel
theorem dX5_without_132 : decode cX5_without 132 = .ok (.goto 5, 3) := by decide +kernel
theorem dX5_without_135 : decode cX5_without 135 = .ok (.iload 5, 2) := by decide +kernel
theorem dX5_without_137 : decode cX5_without 137 = .ok (.ireturn, 1) := by decide +kernel
theorem dX5_swap_0 : decode cX5_swap 0 = .ok (.iload_n 1, 1) := by decide +kernel
theorem dX5_swap_1 : decode cX5_swap 1 = .ok (.iconst 0, 1) := by decide +kernel
theorem dX5_swap_2 : decode cX5_swap 2 = .ok (.bipush 30, 2) := by decide +kernel
theorem dX5_swap_4 : decode cX5_swap 4 = .ok (.invokestatic 220, 3) := by decide +kernel
theorem dX5_swap_7 : decode cX5_swap 7 = .ok (.istore_n 2, 1) := by decide +kernel
theorem dX5_swap_8 : decode cX5_swap 8 = .ok (.iload_n 2, 1) := by decide +kernel
theorem dX5_swap_9 : decode cX5_swap 9 = .ok (.ifCond .eq 9, 3) := by decide +kernel
theorem dX5_swap_12 : decode cX5_swap 12 = .ok (.aload_n 0, 1) := by decide +kernel
theorem dX5_swap_13 : decode cX5_swap 13 = .ok (.iload_n 2, 1) := by decide +kernel
theorem dX5_swap_14 : decode cX5_swap 14 = .ok (.invokevirtual 60, 3) := by decide +kernel
theorem dX5_swap_17 : decode cX5_swap 17 = .ok (.ireturn, 1) := by decide +kernel
theorem dX5_swap_18 : decode cX5_swap 18 = .ok (.aload_n 0, 1) := by decide +kernel
theorem dX5_swap_19 : decode cX5_swap 19 = .ok (.iload_n 1, 1) := by decide +kernel
theorem dX5_swap_20 : decode cX5_swap 20 = .ok (.invokevirtual 227, 3) := by decide +kernel
theorem dX5_swap_23 : decode cX5_swap 23 = .ok (.bipush (-9), 2) := by decide +kernel
theorem dX5_swap_25 : decode cX5_swap 25 = .ok (.istore_n 3, 1) := by decide +kernel
theorem dX5_swap_26 : decode cX5_swap 26 = .ok (.aload_n 0, 1) := by decide +kernel
theorem dX5_swap_27 : decode cX5_swap 27 = .ok (.getfield 50, 3) := by decide +kernel
theorem dX5_swap_30 : decode cX5_swap 30 = .ok (.getfield 81, 3) := by decide +kernel
theorem dX5_swap_33 : decode cX5_swap 33 = .ok (.invokevirtual 213, 3) := by decide +kernel
theorem dX5_swap_36 : decode cX5_swap 36 = .ok (.istore 4, 2) := by decide +kernel
theorem dX5_swap_38 : decode cX5_swap 38 = .ok (.iconst 0, 1) := by decide +kernel
theorem dX5_swap_39 : decode cX5_swap 39 = .ok (.istore 5, 2) := by decide +kernel
theorem dX5_swap_41 : decode cX5_swap 41 = .ok (.iload 5, 2) := by decide +kernel
theorem dX5_swap_43 : decode cX5_swap 43 = .ok (.aload_n 0, 1) := by decide +kernel
theorem dX5_swap_44 : decode cX5_swap 44 = .ok (.getfield 10, 3) := by decide +kernel
theorem dX5_swap_47 : decode cX5_swap 47 = .ok (.getfield 204, 3) := by decide +kernel
theorem dX5_swap_50 : decode cX5_swap 50 = .ok (.if_icmp .ge 98, 3) := by decide +kernel
theorem dX5_swap_53 : decode cX5_swap 53 = .ok (.iload 5, 2) := by decide +kernel
theorem dX5_swap_55 : decode cX5_swap 55 = .ok (.iconst 1, 1) := by decide +kernel
theorem dX5_swap_56 : decode cX5_swap 56 = .ok (.iadd, 1) := by decide +kernel
theorem dX5_swap_57 : decode cX5_swap 57 = .ok (.istore 6, 2) := by decide +kernel
theorem dX5_swap_59 : decode cX5_swap 59 = .ok (.iload 6, 2) := by decide +kernel
theorem dX5_swap_61 : decode cX5_swap 61 = .ok (.aload_n 0, 1) := by decide +kernel
theorem dX5_swap_62 : decode cX5_swap 62 = .ok (.getfield 10, 3) := by decide +kernel
theorem dX5_swap_65 : decode cX5_swap 65 = .ok (.getfield 204, 3) := by decide +kernel
theorem dX5_swap_68 : decode cX5_swap 68 = .ok (.if_icmp .ge 74, 3) := by decide +kernel
theorem dX5_swap_71 : decode cX5_swap 71 = .ok (.aload_n 0, 1) := by decide +kernel
theorem dX5_swap_72 : decode cX5_swap 72 = .ok (.getfield 50, 3) := by decide +kernel
theorem dX5_swap_75 : decode cX5_swap 75 = .ok (.aload_n 0, 1) := by decide +kernel
theorem dX5_swap_76 : decode cX5_swap 76 = .ok (.getfield 10, 3) := by decide +kernel
theorem dX5_swap_79 : decode cX5_swap 79 = .ok (.invokevirtual 67, 3) := by decide +kernel
theorem dX5_swap_82 : decode cX5_swap 82 = .ok (.aload_n 0, 1) := by decide +kernel
theorem dX5_swap_83 : decode cX5_swap 83 = .ok (.getfield 50, 3) := by decide +kernel
theorem dX5_swap_86 : decode cX5_swap 86 = .ok (.getfield 81, 3) := by decide +kernel
theorem dX5_swap_89 : decode cX5_swap 89 = .ok (.iload 5, 2) := by decide +kernel
theorem dX5_swap_91 : decode cX5_swap 91 = .ok (.iload 6, 2) := by decide +kernel
theorem dX5_swap_93 : decode cX5_swap 93 = .ok (.invokevirtual 247, 3) := by decide +kernel
theorem dX5_swap_96 : decode cX5_swap 96 = .ok (.aload_n 0, 1) := by decide +kernel
theorem dX5_swap_97 : decode cX5_swap 97 = .ok (.getfield 50, 3) := by decide +kernel
theorem dX5_swap_100 : decode cX5_swap 100 = .ok (.iload_n 1, 1) := by decide +kernel
theorem dX5_swap_101 : decode cX5_swap 101 = .ok (.invokevirtual 119, 3) := by decide +kernel
theorem dX5_swap_104 : decode cX5_swap 104 = .ok (.aload_n 0, 1) := by decide +kernel
theorem dX5_swap_105 : decode cX5_swap 105 = .ok (.getfield 50, 3) := by decide +kernel
theorem dX5_swap_108 : decode cX5_swap 108 = .ok (.getfield 81, 3) := by decide +kernel
theorem dX5_swap_111 : decode cX5_swap 111 = .ok (.invokevirtual 213, 3) := by decide +kernel
theorem dX5_swap_114 : decode cX5_swap 114 = .ok (.istore 7, 2) := by decide +kernel
theorem dX5_swap_116 : decode cX5_swap 116 = .ok (.iload 7, 2) := by decide +kernel
theorem dX5_swap_118 : decode cX5_swap 118 = .ok (.iload 4, 2) := by decide +kernel
theorem dX5_swap_120 : decode cX5_swap 120 = .ok (.if_icmp .le 16, 3) := by decide +kernel
theorem dX5_swap_123 : decode cX5_swap 123 = .ok (.iload 7, 2) := by decide +kernel
theorem dX5_swap_125 : decode cX5_swap 125 = .ok (.istore 4, 2) := by decide +kernel
theorem dX5_swap_127 : decode cX5_swap 127 = .ok (.bipush 10, 2) := by decide +kernel
theorem dX5_swap_129 : decode cX5_swap 129 = .ok (.iload 5, 2) := by decide +kernel
theorem dX5_swap_131 : decode cX5_swap 131 = .ok (.imul, 1) := by decide +kernel
theorem dX5_swap_132 : decode cX5_swap 132 = .ok (.iload 6, 2) := by decide +kernel
theorem dX5_swap_134 : decode cX5_swap 134 = .ok (.iadd, 1) := by decide +kernel
theorem dX5_swap_135 : decode cX5_swap 135 = .ok (.istore_n 3, 1) := by decide +kernel
theorem dX5_swap_136 : decode cX5_swap 136 = .ok (.iinc 6 1, 3) := by decide +kernel
theorem dX5_swap_139 : decode cX5_swap 139 = .ok (.goto (-80), 3) := by decide +kernel
theorem dX5_swap_142 : decode cX5_swap 142 = .ok (.iinc 5 1, 3) := by decide +kernel
theorem dX5_swap_145 : decode cX5_swap 145 = .ok (.goto (-104), 3) := by decide +kernel
theorem dX5_swap_148 : decode cX5_swap 148 = .ok (.iload_n 3, 1) := by decide +kernel
theorem dX5_swap_149 : decode cX5_swap 149 = .ok (.ireturn, 1) := by decide +kernel
theorem dX5_whatKind_0 : decode cX5_whatKind 0 = .ok (.aload_n 0, 1) := by decide +kernel
theorem dX5_whatKind_1 : decode cX5_whatKind 1 = .ok (.getfield 10, 3) := by decide +kernel
theorem dX5_whatKind_4 : decode cX5_whatKind 4 = .ok (.iload_n 1, 1) := by decide +kernel
theorem dX5_whatKind_5 : decode cX5_whatKind 5 = .ok (.invokevirtual 123, 3) := by decide +kernel
theorem dX5_whatKind_8 : decode cX5_whatKind 8 = .ok (.ifCond .ne 9, 3) := by decide +kernel
theorem dX5_whatKind_11 : decode cX5_whatKind 11 = .ok (.aload_n 0, 1) := by decide +kernel
theorem dX5_whatKind_12 : decode cX5_whatKind 12 = .ok (.iconst (-1), 1) := by decide +kernel
theorem dX5_whatKind_13 : decode cX5_whatKind 13 = .ok (.invokevirtual 60, 3) := by decide +kernel
theorem dX5_whatKind_16 : decode cX5_whatKind 16 = .ok (.ireturn, 1) := by decide +kernel
theorem dX5_whatKind_17 : decode cX5_whatKind 17 = .ok (.iload_n 2, 1) := by decide +kernel
theorem dX5_whatKind_18 : decode cX5_whatKind 18 = .ok (.ifCond .eq 15, 3) := by decide +kernel
theorem dX5_whatKind_21 : decode cX5_whatKind 21 = .ok (.iload_n 2, 1) := by decide +kernel
theorem dX5_whatKind_22 : decode cX5_whatKind 22 = .ok (.iconst 1, 1) := by decide +kernel
theorem dX5_whatKind_23 : decode cX5_whatKind 23 = .ok (.if_icmp .eq 10, 3) := by decide +kernel
theorem dX5_whatKind_26 : decode cX5_whatKind 26 = .ok (.aload_n 0, 1) := by decide +kernel
theorem dX5_whatKind_27 : decode cX5_whatKind 27 = .ok (.bipush (-2), 2) := by decide +kernel
theorem dX5_whatKind_29 : decode cX5_whatKind 29 = .ok (.invokevirtual 60, 3) := by decide +kernel
theorem dX5_whatKind_32 : decode cX5_whatKind 32 = .ok (.ireturn, 1) := by decide +kernel
theorem dX5_whatKind_33 : decode cX5_whatKind 33 = .ok (.iload_n 2, 1) := by decide +kernel
theorem dX5_whatKind_34 : decode cX5_whatKind 34 = .ok (.ifCond .ne 8, 3) := by decide +kernel
theorem dX5_whatKind_37 : decode cX5_whatKind 37 = .ok (.bipush 8, 2) := by decide +kernel
theorem dX5_whatKind_39 : decode cX5_whatKind 39 = .ok (.goto 5, 3) := by decide +kernel
theorem dX5_whatKind_42 : decode cX5_whatKind 42 = .ok (.bipush 10, 2) := by decide +kernel
theorem dX5_whatKind_44 : decode cX5_whatKind 44 = .ok (.istore_n 3, 1) := by decide +kernel
theorem dX5_whatKind_45 : decode cX5_whatKind 45 = .ok (.iconst 0, 1) := by decide +kernel
theorem dX5_whatKind_46 : decode cX5_whatKind 46 = .ok (.istore 4, 2) := by decide +kernel
theorem dX5_whatKind_48 : decode cX5_whatKind 48 = .ok (.iconst 0, 1) := by decide +kernel
theorem dX5_whatKind_49 : decode cX5_whatKind 49 = .ok (.istore 5, 2) := by decide +kernel
theorem dX5_whatKind_51 : decode cX5_whatKind 51 = .ok (.iload 5, 2) := by decide +kernel
theorem dX5_whatKind_53 : decode cX5_whatKind 53 = .ok (.iload_n 3, 1) := by decide +kernel
theorem dX5_whatKind_54 : decode cX5_whatKind 54 = .ok (.if_icmp .ge 72, 3) := by decide +kernel
theorem dX5_whatKind_57 : decode cX5_whatKind 57 = .ok (.aload_n 0, 1) := by decide +kernel
theorem dX5_whatKind_58 : decode cX5_whatKind 58 = .ok (.getfield 50, 3) := by decide +kernel
theorem dX5_whatKind_61 : decode cX5_whatKind 61 = .ok (.aload_n 0, 1) := by decide +kernel
theorem dX5_whatKind_62 : decode cX5_whatKind 62 = .ok (.getfield 10, 3) := by decide +kernel
theorem dX5_whatKind_65 : decode cX5_whatKind 65 = .ok (.invokevirtual 67, 3) := by decide +kernel
theorem dX5_whatKind_68 : decode cX5_whatKind 68 = .ok (.iload_n 2, 1) := by decide +kernel
theorem dX5_whatKind_69 : decode cX5_whatKind 69 = .ok (.ifCond .ne 20, 3) := by decide +kernel
theorem dX5_whatKind_72 : decode cX5_whatKind 72 = .ok (.aload_n 0, 1) := by decide +kernel
theorem dX5_whatKind_73 : decode cX5_whatKind 73 = .ok (.getfield 50, 3) := by decide +kernel
theorem dX5_whatKind_76 : decode cX5_whatKind 76 = .ok (.getfield 81, 3) := by decide +kernel
theorem dX5_whatKind_79 : decode cX5_whatKind 79 = .ok (.getfield 126, 3) := by decide +kernel
theorem dX5_whatKind_82 : decode cX5_whatKind 82 = .ok (.iload_n 1, 1) := by decide +kernel
theorem dX5_whatKind_83 : decode cX5_whatKind 83 = .ok (.iload 5, 2) := by decide +kernel
theorem dX5_whatKind_85 : decode cX5_whatKind 85 = .ok (.iastore, 1) := by decide +kernel
theorem dX5_whatKind_86 : decode cX5_whatKind 86 = .ok (.goto 17, 3) := by decide +kernel
theorem dX5_whatKind_89 : decode cX5_whatKind 89 = .ok (.aload_n 0, 1) := by decide +kernel
theorem dX5_whatKind_90 : decode cX5_whatKind 90 = .ok (.getfield 50, 3) := by decide +kernel
theorem dX5_whatKind_93 : decode cX5_whatKind 93 = .ok (.getfield 81, 3) := by decide +kernel
theorem dX5_whatKind_96 : decode cX5_whatKind 96 = .ok (.getfield 129, 3) := by decide +kernel
theorem dX5_whatKind_99 : decode cX5_whatKind 99 = .ok (.iload_n 1, 1) := by decide +kernel
theorem dX5_whatKind_100 : decode cX5_whatKind 100 = .ok (.iload 5, 2) := by decide +kernel
theorem dX5_whatKind_102 : decode cX5_whatKind 102 = .ok (.iastore, 1) := by decide +kernel
theorem dX5_whatKind_103 : decode cX5_whatKind 103 = .ok (.aload_n 0, 1) := by decide +kernel
theorem dX5_whatKind_104 : decode cX5_whatKind 104 = .ok (.iload_n 1, 1) := by decide +kernel
theorem dX5_whatKind_105 : decode cX5_whatKind 105 = .ok (.invokevirtual 251, 3) := by decide +kernel
theorem dX5_whatKind_108 : decode cX5_whatKind 108 = .ok (.ifCond .eq 12, 3) := by decide +kernel
theorem dX5_whatKind_111 : decode cX5_whatKind 111 = .ok (.iload 4, 2) := by decide +kernel
theorem dX5_whatKind_113 : decode cX5_whatKind 113 = .ok (.iconst 1, 1) := by decide +kernel
theorem dX5_whatKind_114 : decode cX5_whatKind 114 = .ok (.iload 5, 2) := by decide +kernel
theorem dX5_whatKind_116 : decode cX5_whatKind 116 = .ok (.ishl, 1) := by decide +kernel
theorem dX5_whatKind_117 : decode cX5_whatKind 117 = .ok (.ior, 1) := by decide +kernel
theorem dX5_whatKind_118 : decode cX5_whatKind 118 = .ok (.istore 4, 2) := by decide +kernel
theorem dX5_whatKind_120 : decode cX5_whatKind 120 = .ok (.iinc 5 1, 3) := by decide +kernel
theorem dX5_whatKind_123 : decode cX5_whatKind 123 = .ok (.goto (-72), 3) := by decide +kernel
theorem dX5_whatKind_126 : decode cX5_whatKind 126 = .ok (.iload 4, 2) := by decide +kernel
theorem dX5_whatKind_128 : decode cX5_whatKind 128 = .ok (.ireturn, 1) := by decide +kernel
theorem dX5_goesByTheRow_0 : decode cX5_goesByTheRow 0 = .ok (.iconst 0, 1) := by decide +kernel
theorem dX5_goesByTheRow_1 : decode cX5_goesByTheRow 1 = .ok (.istore_n 2, 1) := by decide +kernel
theorem dX5_goesByTheRow_2 : decode cX5_goesByTheRow 2 = .ok (.iload_n 2, 1) := by decide +kernel
theorem dX5_goesByTheRow_3 : decode cX5_goesByTheRow 3 = .ok (.aload_n 0, 1) := by decide +kernel
theorem dX5_goesByTheRow_4 : decode cX5_goesByTheRow 4 = .ok (.getfield 41, 3) := by decide +kernel
theorem dX5_goesByTheRow_7 : decode cX5_goesByTheRow 7 = .ok (.if_icmp .ge 44, 3) := by decide +kernel
theorem dX5_goesByTheRow_10 : decode cX5_goesByTheRow 10 = .ok (.iload_n 2, 1) := by decide +kernel
theorem dX5_goesByTheRow_11 : decode cX5_goesByTheRow 11 = .ok (.ifCond .le 11, 3) := by decide +kernel
theorem dX5_goesByTheRow_14 : decode cX5_goesByTheRow 14 = .ok (.aload_n 0, 1) := by decide +kernel
theorem dX5_goesByTheRow_15 : decode cX5_goesByTheRow 15 = .ok (.getfield 50, 3) := by decide +kernel
theorem dX5_goesByTheRow_18 : decode cX5_goesByTheRow 18 = .ok (.iconst 1, 1) := by decide +kernel
theorem dX5_goesByTheRow_19 : decode cX5_goesByTheRow 19 = .ok (.invokevirtual 119, 3) := by decide +kernel
theorem dX5_goesByTheRow_22 : decode cX5_goesByTheRow 22 = .ok (.aload_n 0, 1) := by decide +kernel
theorem dX5_goesByTheRow_23 : decode cX5_goesByTheRow 23 = .ok (.getfield 50, 3) := by decide +kernel
theorem dX5_goesByTheRow_26 : decode cX5_goesByTheRow 26 = .ok (.getfield 81, 3) := by decide +kernel
theorem dX5_goesByTheRow_29 : decode cX5_goesByTheRow 29 = .ok (.getfield 135, 3) := by decide +kernel
theorem dX5_goesByTheRow_32 : decode cX5_goesByTheRow 32 = .ok (.iload_n 1, 1) := by decide +kernel
theorem dX5_goesByTheRow_33 : decode cX5_goesByTheRow 33 = .ok (.iaload, 1) := by decide +kernel
theorem dX5_goesByTheRow_34 : decode cX5_goesByTheRow 34 = .ok (.aload_n 0, 1) := by decide +kernel
theorem dX5_goesByTheRow_35 : decode cX5_goesByTheRow 35 = .ok (.getfield 38, 3) := by decide +kernel
theorem dX5_goesByTheRow_38 : decode cX5_goesByTheRow 38 = .ok (.iload_n 2, 1) := by decide +kernel
theorem dX5_goesByTheRow_39 : decode cX5_goesByTheRow 39 = .ok (.iaload, 1) := by decide +kernel
theorem dX5_goesByTheRow_40 : decode cX5_goesByTheRow 40 = .ok (.if_icmp .eq 5, 3) := by decide +kernel
theorem dX5_goesByTheRow_43 : decode cX5_goesByTheRow 43 = .ok (.iconst 0, 1) := by decide +kernel
theorem dX5_goesByTheRow_44 : decode cX5_goesByTheRow 44 = .ok (.ireturn, 1) := by decide +kernel
theorem dX5_goesByTheRow_45 : decode cX5_goesByTheRow 45 = .ok (.iinc 2 1, 3) := by decide +kernel
theorem dX5_goesByTheRow_48 : decode cX5_goesByTheRow 48 = .ok (.goto (-46), 3) := by decide +kernel
theorem dX5_goesByTheRow_51 : decode cX5_goesByTheRow 51 = .ok (.iconst 1, 1) := by decide +kernel
theorem dX5_goesByTheRow_52 : decode cX5_goesByTheRow 52 = .ok (.ireturn, 1) := by decide +kernel
theorem dX5_whichFront_0 : decode cX5_whichFront 0 = .ok (.aload_n 0, 1) := by decide +kernel
theorem dX5_whichFront_1 : decode cX5_whichFront 1 = .ok (.getfield 10, 3) := by decide +kernel
theorem dX5_whichFront_4 : decode cX5_whichFront 4 = .ok (.iload_n 1, 1) := by decide +kernel
theorem dX5_whichFront_5 : decode cX5_whichFront 5 = .ok (.invokevirtual 174, 3) := by decide +kernel
theorem dX5_whichFront_8 : decode cX5_whichFront 8 = .ok (.ifCond .eq 10, 3) := by decide +kernel
theorem dX5_whichFront_11 : decode cX5_whichFront 11 = .ok (.iload_n 2, 1) := by decide +kernel
theorem dX5_whichFront_12 : decode cX5_whichFront 12 = .ok (.invokestatic 186, 3) := by decide +kernel
theorem dX5_whichFront_15 : decode cX5_whichFront 15 = .ok (.ifCond .ne 9, 3) := by decide +kernel
theorem dX5_whichFront_18 : decode cX5_whichFront 18 = .ok (.aload_n 0, 1) := by decide +kernel
theorem dX5_whichFront_19 : decode cX5_whichFront 19 = .ok (.iconst (-1), 1) := by decide +kernel
theorem dX5_whichFront_20 : decode cX5_whichFront 20 = .ok (.invokevirtual 60, 3) := by decide +kernel
theorem dX5_whichFront_23 : decode cX5_whichFront 23 = .ok (.ireturn, 1) := by decide +kernel
theorem dX5_whichFront_24 : decode cX5_whichFront 24 = .ok (.iconst 0, 1) := by decide +kernel
theorem dX5_whichFront_25 : decode cX5_whichFront 25 = .ok (.istore_n 3, 1) := by decide +kernel
theorem dX5_whichFront_26 : decode cX5_whichFront 26 = .ok (.iconst 0, 1) := by decide +kernel
theorem dX5_whichFront_27 : decode cX5_whichFront 27 = .ok (.istore 4, 2) := by decide +kernel
theorem dX5_whichFront_29 : decode cX5_whichFront 29 = .ok (.iload 4, 2) := by decide +kernel
theorem dX5_whichFront_31 : decode cX5_whichFront 31 = .ok (.bipush 7, 2) := by decide +kernel
theorem dX5_whichFront_33 : decode cX5_whichFront 33 = .ok (.if_icmp .ge 49, 3) := by decide +kernel
theorem dX5_whichFront_36 : decode cX5_whichFront 36 = .ok (.aload_n 0, 1) := by decide +kernel
theorem dX5_whichFront_37 : decode cX5_whichFront 37 = .ok (.getfield 50, 3) := by decide +kernel
theorem dX5_whichFront_40 : decode cX5_whichFront 40 = .ok (.aload_n 0, 1) := by decide +kernel
theorem dX5_whichFront_41 : decode cX5_whichFront 41 = .ok (.getfield 10, 3) := by decide +kernel
theorem dX5_whichFront_44 : decode cX5_whichFront 44 = .ok (.invokevirtual 67, 3) := by decide +kernel
theorem dX5_whichFront_47 : decode cX5_whichFront 47 = .ok (.aload_n 0, 1) := by decide +kernel
theorem dX5_whichFront_48 : decode cX5_whichFront 48 = .ok (.getfield 50, 3) := by decide +kernel
theorem dX5_whichFront_51 : decode cX5_whichFront 51 = .ok (.getfield 81, 3) := by decide +kernel
theorem dX5_whichFront_54 : decode cX5_whichFront 54 = .ok (.getfield 177, 3) := by decide +kernel
theorem dX5_whichFront_57 : decode cX5_whichFront 57 = .ok (.iload_n 1, 1) := by decide +kernel
theorem dX5_whichFront_58 : decode cX5_whichFront 58 = .ok (.iload 4, 2) := by decide +kernel
theorem dX5_whichFront_60 : decode cX5_whichFront 60 = .ok (.iastore, 1) := by decide +kernel
theorem dX5_whichFront_61 : decode cX5_whichFront 61 = .ok (.aload_n 0, 1) := by decide +kernel
theorem dX5_whichFront_62 : decode cX5_whichFront 62 = .ok (.iload_n 2, 1) := by decide +kernel
theorem dX5_whichFront_63 : decode cX5_whichFront 63 = .ok (.invokevirtual 254, 3) := by decide +kernel
theorem dX5_whichFront_66 : decode cX5_whichFront 66 = .ok (.ifCond .eq 10, 3) := by decide +kernel
theorem dX5_whichFront_69 : decode cX5_whichFront 69 = .ok (.iload_n 3, 1) := by decide +kernel
theorem dX5_whichFront_70 : decode cX5_whichFront 70 = .ok (.iconst 1, 1) := by decide +kernel
theorem dX5_whichFront_71 : decode cX5_whichFront 71 = .ok (.iload 4, 2) := by decide +kernel
theorem dX5_whichFront_73 : decode cX5_whichFront 73 = .ok (.ishl, 1) := by decide +kernel
theorem dX5_whichFront_74 : decode cX5_whichFront 74 = .ok (.ior, 1) := by decide +kernel
theorem dX5_whichFront_75 : decode cX5_whichFront 75 = .ok (.istore_n 3, 1) := by decide +kernel
theorem dX5_whichFront_76 : decode cX5_whichFront 76 = .ok (.iinc 4 1, 3) := by decide +kernel
theorem dX5_whichFront_79 : decode cX5_whichFront 79 = .ok (.goto (-50), 3) := by decide +kernel
theorem dX5_whichFront_82 : decode cX5_whichFront 82 = .ok (.iload_n 3, 1) := by decide +kernel
theorem dX5_whichFront_83 : decode cX5_whichFront 83 = .ok (.ireturn, 1) := by decide +kernel
theorem dX5_airIsAsTheRow_0 : decode cX5_airIsAsTheRow 0 = .ok (.iconst 0, 1) := by decide +kernel
theorem dX5_airIsAsTheRow_1 : decode cX5_airIsAsTheRow 1 = .ok (.istore_n 2, 1) := by decide +kernel
theorem dX5_airIsAsTheRow_2 : decode cX5_airIsAsTheRow 2 = .ok (.iload_n 2, 1) := by decide +kernel
theorem dX5_airIsAsTheRow_3 : decode cX5_airIsAsTheRow 3 = .ok (.aload_n 0, 1) := by decide +kernel
theorem dX5_airIsAsTheRow_4 : decode cX5_airIsAsTheRow 4 = .ok (.getfield 41, 3) := by decide +kernel
theorem dX5_airIsAsTheRow_7 : decode cX5_airIsAsTheRow 7 = .ok (.if_icmp .ge 51, 3) := by decide +kernel
theorem dX5_airIsAsTheRow_10 : decode cX5_airIsAsTheRow 10 = .ok (.aload_n 0, 1) := by decide +kernel
theorem dX5_airIsAsTheRow_11 : decode cX5_airIsAsTheRow 11 = .ok (.getfield 50, 3) := by decide +kernel
theorem dX5_airIsAsTheRow_14 : decode cX5_airIsAsTheRow 14 = .ok (.invokevirtual 150, 3) := by decide +kernel
theorem dX5_airIsAsTheRow_17 : decode cX5_airIsAsTheRow 17 = .ok (.aload_n 0, 1) := by decide +kernel
theorem dX5_airIsAsTheRow_18 : decode cX5_airIsAsTheRow 18 = .ok (.getfield 50, 3) := by decide +kernel
theorem dX5_airIsAsTheRow_21 : decode cX5_airIsAsTheRow 21 = .ok (.iload_n 1, 1) := by decide +kernel
theorem dX5_airIsAsTheRow_22 : decode cX5_airIsAsTheRow 22 = .ok (.invokevirtual 189, 3) := by decide +kernel
theorem dX5_airIsAsTheRow_25 : decode cX5_airIsAsTheRow 25 = .ok (.aload_n 0, 1) := by decide +kernel
theorem dX5_airIsAsTheRow_26 : decode cX5_airIsAsTheRow 26 = .ok (.getfield 38, 3) := by decide +kernel
theorem dX5_airIsAsTheRow_29 : decode cX5_airIsAsTheRow 29 = .ok (.iload_n 2, 1) := by decide +kernel
theorem dX5_airIsAsTheRow_30 : decode cX5_airIsAsTheRow 30 = .ok (.iaload, 1) := by decide +kernel
theorem dX5_airIsAsTheRow_31 : decode cX5_airIsAsTheRow 31 = .ok (.if_icmp .eq 5, 3) := by decide +kernel
theorem dX5_airIsAsTheRow_34 : decode cX5_airIsAsTheRow 34 = .ok (.iconst 0, 1) := by decide +kernel
theorem dX5_airIsAsTheRow_35 : decode cX5_airIsAsTheRow 35 = .ok (.ireturn, 1) := by decide +kernel
theorem dX5_airIsAsTheRow_36 : decode cX5_airIsAsTheRow 36 = .ok (.aload_n 0, 1) := by decide +kernel
theorem dX5_airIsAsTheRow_37 : decode cX5_airIsAsTheRow 37 = .ok (.getfield 50, 3) := by decide +kernel
theorem dX5_airIsAsTheRow_40 : decode cX5_airIsAsTheRow 40 = .ok (.getfield 81, 3) := by decide +kernel
theorem dX5_airIsAsTheRow_43 : decode cX5_airIsAsTheRow 43 = .ok (.dup, 1) := by decide +kernel
theorem dX5_airIsAsTheRow_44 : decode cX5_airIsAsTheRow 44 = .ok (.getfield 116, 3) := by decide +kernel
theorem dX5_airIsAsTheRow_47 : decode cX5_airIsAsTheRow 47 = .ok (.iconst 1, 1) := by decide +kernel
theorem dX5_airIsAsTheRow_48 : decode cX5_airIsAsTheRow 48 = .ok (.iadd, 1) := by decide +kernel
theorem dX5_airIsAsTheRow_49 : decode cX5_airIsAsTheRow 49 = .ok (.putfield 116, 3) := by decide +kernel
theorem dX5_airIsAsTheRow_52 : decode cX5_airIsAsTheRow 52 = .ok (.iinc 2 1, 3) := by decide +kernel
theorem dX5_airIsAsTheRow_55 : decode cX5_airIsAsTheRow 55 = .ok (.goto (-53), 3) := by decide +kernel
theorem dX5_airIsAsTheRow_58 : decode cX5_airIsAsTheRow 58 = .ok (.iconst 1, 1) := by decide +kernel
theorem dX5_airIsAsTheRow_59 : decode cX5_airIsAsTheRow 59 = .ok (.ireturn, 1) := by decide +kernel
theorem dX5_two_0 : decode cX5_two 0 = .ok (.aload_n 0, 1) := by decide +kernel
theorem dX5_two_1 : decode cX5_two 1 = .ok (.getfield 10, 3) := by decide +kernel
theorem dX5_two_4 : decode cX5_two 4 = .ok (.iload_n 1, 1) := by decide +kernel
theorem dX5_two_5 : decode cX5_two 5 = .ok (.invokevirtual 123, 3) := by decide +kernel
theorem dX5_two_8 : decode cX5_two 8 = .ok (.ifCond .eq 19, 3) := by decide +kernel
theorem dX5_two_11 : decode cX5_two 11 = .ok (.aload_n 0, 1) := by decide +kernel
theorem dX5_two_12 : decode cX5_two 12 = .ok (.getfield 10, 3) := by decide +kernel
theorem dX5_two_15 : decode cX5_two 15 = .ok (.iload_n 2, 1) := by decide +kernel
theorem dX5_two_16 : decode cX5_two 16 = .ok (.invokevirtual 123, 3) := by decide +kernel
theorem dX5_two_19 : decode cX5_two 19 = .ok (.ifCond .eq 8, 3) := by decide +kernel
theorem dX5_two_22 : decode cX5_two 22 = .ok (.iload_n 1, 1) := by decide +kernel
theorem dX5_two_23 : decode cX5_two 23 = .ok (.iload_n 2, 1) := by decide +kernel
theorem dX5_two_24 : decode cX5_two 24 = .ok (.if_icmp .ne 9, 3) := by decide +kernel
theorem dX5_two_27 : decode cX5_two 27 = .ok (.aload_n 0, 1) := by decide +kernel
theorem dX5_two_28 : decode cX5_two 28 = .ok (.iconst (-1), 1) := by decide +kernel
theorem dX5_two_29 : decode cX5_two 29 = .ok (.invokevirtual 60, 3) := by decide +kernel
theorem dX5_two_32 : decode cX5_two 32 = .ok (.ireturn, 1) := by decide +kernel
theorem dX5_two_33 : decode cX5_two 33 = .ok (.iload_n 3, 1) := by decide +kernel
theorem dX5_two_34 : decode cX5_two 34 = .ok (.iconst 1, 1) := by decide +kernel
theorem dX5_two_35 : decode cX5_two 35 = .ok (.bipush 30, 2) := by decide +kernel
theorem dX5_two_37 : decode cX5_two 37 = .ok (.invokestatic 220, 3) := by decide +kernel
theorem dX5_two_40 : decode cX5_two 40 = .ok (.istore 4, 2) := by decide +kernel
theorem dX5_two_42 : decode cX5_two 42 = .ok (.iload 4, 2) := by decide +kernel
theorem dX5_two_44 : decode cX5_two 44 = .ok (.ifCond .eq 10, 3) := by decide +kernel
theorem dX5_two_47 : decode cX5_two 47 = .ok (.aload_n 0, 1) := by decide +kernel
theorem dX5_two_48 : decode cX5_two 48 = .ok (.iload 4, 2) := by decide +kernel
theorem dX5_two_50 : decode cX5_two 50 = .ok (.invokevirtual 60, 3) := by decide +kernel
theorem dX5_two_53 : decode cX5_two 53 = .ok (.ireturn, 1) := by decide +kernel
theorem dX5_two_54 : decode cX5_two 54 = .ok (.iconst 0, 1) := by decide +kernel
theorem dX5_two_55 : decode cX5_two 55 = .ok (.istore 5, 2) := by decide +kernel
theorem dX5_two_57 : decode cX5_two 57 = .ok (.iload 5, 2) := by decide +kernel
theorem dX5_two_59 : decode cX5_two 59 = .ok (.iconst 4, 1) := by decide +kernel
theorem dX5_two_60 : decode cX5_two 60 = .ok (.if_icmp .ge 118, 3) := by decide +kernel
theorem dX5_two_63 : decode cX5_two 63 = .ok (.aload_n 0, 1) := by decide +kernel
theorem dX5_two_64 : decode cX5_two 64 = .ok (.getfield 50, 3) := by decide +kernel
theorem dX5_two_67 : decode cX5_two 67 = .ok (.aload_n 0, 1) := by decide +kernel
theorem dX5_two_68 : decode cX5_two 68 = .ok (.getfield 10, 3) := by decide +kernel
theorem dX5_two_71 : decode cX5_two 71 = .ok (.invokevirtual 67, 3) := by decide +kernel
theorem dX5_two_74 : decode cX5_two 74 = .ok (.iload 5, 2) := by decide +kernel
theorem dX5_two_76 : decode cX5_two 76 = .ok (.iconst 2, 1) := by decide +kernel
theorem dX5_two_77 : decode cX5_two 77 = .ok (.iand, 1) := by decide +kernel
theorem dX5_two_78 : decode cX5_two 78 = .ok (.ifCond .eq 14, 3) := by decide +kernel
theorem dX5_two_81 : decode cX5_two 81 = .ok (.aload_n 0, 1) := by decide +kernel
theorem dX5_two_82 : decode cX5_two 82 = .ok (.getfield 50, 3) := by decide +kernel
theorem dX5_two_85 : decode cX5_two 85 = .ok (.getfield 81, 3) := by decide +kernel
theorem dX5_two_88 : decode cX5_two 88 = .ok (.iload_n 1, 1) := by decide +kernel
theorem dX5_two_89 : decode cX5_two 89 = .ok (.invokevirtual 257, 3) := by decide +kernel
theorem dX5_two_92 : decode cX5_two 92 = .ok (.iload 5, 2) := by decide +kernel
theorem dX5_two_94 : decode cX5_two 94 = .ok (.iconst 1, 1) := by decide +kernel
theorem dX5_two_95 : decode cX5_two 95 = .ok (.iand, 1) := by decide +kernel
theorem dX5_two_96 : decode cX5_two 96 = .ok (.ifCond .eq 14, 3) := by decide +kernel
theorem dX5_two_99 : decode cX5_two 99 = .ok (.aload_n 0, 1) := by decide +kernel
theorem dX5_two_100 : decode cX5_two 100 = .ok (.getfield 50, 3) := by decide +kernel
theorem dX5_two_103 : decode cX5_two 103 = .ok (.getfield 81, 3) := by decide +kernel
theorem dX5_two_106 : decode cX5_two 106 = .ok (.iload_n 2, 1) := by decide +kernel
theorem dX5_two_107 : decode cX5_two 107 = .ok (.invokevirtual 257, 3) := by decide +kernel
theorem dX5_two_110 : decode cX5_two 110 = .ok (.aload_n 0, 1) := by decide +kernel
theorem dX5_two_111 : decode cX5_two 111 = .ok (.getfield 50, 3) := by decide +kernel
theorem dX5_two_114 : decode cX5_two 114 = .ok (.iload_n 3, 1) := by decide +kernel
theorem dX5_two_115 : decode cX5_two 115 = .ok (.invokevirtual 119, 3) := by decide +kernel
theorem dX5_two_118 : decode cX5_two 118 = .ok (.aload_n 0, 1) := by decide +kernel
theorem dX5_two_119 : decode cX5_two 119 = .ok (.getfield 50, 3) := by decide +kernel
theorem dX5_two_122 : decode cX5_two 122 = .ok (.getfield 81, 3) := by decide +kernel
theorem dX5_two_125 : decode cX5_two 125 = .ok (.iload_n 1, 1) := by decide +kernel
theorem dX5_two_126 : decode cX5_two 126 = .ok (.invokevirtual 156, 3) := by decide +kernel
theorem dX5_two_129 : decode cX5_two 129 = .ok (.istore 6, 2) := by decide +kernel
theorem dX5_two_131 : decode cX5_two 131 = .ok (.aload_n 0, 1) := by decide +kernel
theorem dX5_two_132 : decode cX5_two 132 = .ok (.getfield 50, 3) := by decide +kernel
theorem dX5_two_135 : decode cX5_two 135 = .ok (.getfield 81, 3) := by decide +kernel
theorem dX5_two_138 : decode cX5_two 138 = .ok (.iload_n 2, 1) := by decide +kernel
theorem dX5_two_139 : decode cX5_two 139 = .ok (.invokevirtual 156, 3) := by decide +kernel
theorem dX5_two_142 : decode cX5_two 142 = .ok (.istore 7, 2) := by decide +kernel
theorem dX5_two_144 : decode cX5_two 144 = .ok (.aload_n 0, 1) := by decide +kernel
theorem dX5_two_145 : decode cX5_two 145 = .ok (.getfield 54, 3) := by decide +kernel
theorem dX5_two_148 : decode cX5_two 148 = .ok (.iload 5, 2) := by decide +kernel
theorem dX5_two_150 : decode cX5_two 150 = .ok (.iload 6, 2) := by decide +kernel
theorem dX5_two_152 : decode cX5_two 152 = .ok (.iload 7, 2) := by decide +kernel
theorem dX5_two_154 : decode cX5_two 154 = .ok (.iconst 2, 1) := by decide +kernel
theorem dX5_two_155 : decode cX5_two 155 = .ok (.idiv, 1) := by decide +kernel
theorem dX5_two_156 : decode cX5_two 156 = .ok (.isub, 1) := by decide +kernel
theorem dX5_two_157 : decode cX5_two 157 = .ok (.iastore, 1) := by decide +kernel
theorem dX5_two_158 : decode cX5_two 158 = .ok (.aload_n 0, 1) := by decide +kernel
theorem dX5_two_159 : decode cX5_two 159 = .ok (.getfield 57, 3) := by decide +kernel
theorem dX5_two_162 : decode cX5_two 162 = .ok (.iload 5, 2) := by decide +kernel
theorem dX5_two_164 : decode cX5_two 164 = .ok (.iload 7, 2) := by decide +kernel
theorem dX5_two_166 : decode cX5_two 166 = .ok (.iload 6, 2) := by decide +kernel
theorem dX5_two_168 : decode cX5_two 168 = .ok (.iconst 2, 1) := by decide +kernel
theorem dX5_two_169 : decode cX5_two 169 = .ok (.idiv, 1) := by decide +kernel
theorem dX5_two_170 : decode cX5_two 170 = .ok (.isub, 1) := by decide +kernel
theorem dX5_two_171 : decode cX5_two 171 = .ok (.iastore, 1) := by decide +kernel
theorem dX5_two_172 : decode cX5_two 172 = .ok (.iinc 5 1, 3) := by decide +kernel
theorem dX5_two_175 : decode cX5_two 175 = .ok (.goto (-118), 3) := by decide +kernel
theorem dX5_two_178 : decode cX5_two 178 = .ok (.iconst 0, 1) := by decide +kernel
theorem dX5_two_179 : decode cX5_two 179 = .ok (.istore 5, 2) := by decide +kernel
theorem dX5_two_181 : decode cX5_two 181 = .ok (.iload 5, 2) := by decide +kernel
theorem dX5_two_183 : decode cX5_two 183 = .ok (.iconst 4, 1) := by decide +kernel
theorem dX5_two_184 : decode cX5_two 184 = .ok (.if_icmp .ge 84, 3) := by decide +kernel
theorem dX5_two_187 : decode cX5_two 187 = .ok (.aload_n 0, 1) := by decide +kernel
theorem dX5_two_188 : decode cX5_two 188 = .ok (.getfield 54, 3) := by decide +kernel
theorem dX5_two_191 : decode cX5_two 191 = .ok (.iload 5, 2) := by decide +kernel
theorem dX5_two_193 : decode cX5_two 193 = .ok (.iaload, 1) := by decide +kernel
theorem dX5_two_194 : decode cX5_two 194 = .ok (.aload_n 0, 1) := by decide +kernel
theorem dX5_two_195 : decode cX5_two 195 = .ok (.getfield 54, 3) := by decide +kernel
theorem dX5_two_198 : decode cX5_two 198 = .ok (.iload 5, 2) := by decide +kernel
theorem dX5_two_200 : decode cX5_two 200 = .ok (.iconst 2, 1) := by decide +kernel
theorem dX5_two_201 : decode cX5_two 201 = .ok (.ixor, 1) := by decide +kernel
theorem dX5_two_202 : decode cX5_two 202 = .ok (.iaload, 1) := by decide +kernel
theorem dX5_two_203 : decode cX5_two 203 = .ok (.if_icmp .lt 7, 3) := by decide +kernel
theorem dX5_two_206 : decode cX5_two 206 = .ok (.iconst 1, 1) := by decide +kernel
theorem dX5_two_207 : decode cX5_two 207 = .ok (.goto 4, 3) := by decide +kernel
theorem dX5_two_210 : decode cX5_two 210 = .ok (.iconst 0, 1) := by decide +kernel
theorem dX5_two_211 : decode cX5_two 211 = .ok (.istore 6, 2) := by decide +kernel
theorem dX5_two_213 : decode cX5_two 213 = .ok (.aload_n 0, 1) := by decide +kernel
theorem dX5_two_214 : decode cX5_two 214 = .ok (.getfield 57, 3) := by decide +kernel
theorem dX5_two_217 : decode cX5_two 217 = .ok (.iload 5, 2) := by decide +kernel
theorem dX5_two_219 : decode cX5_two 219 = .ok (.iaload, 1) := by decide +kernel
theorem dX5_two_220 : decode cX5_two 220 = .ok (.aload_n 0, 1) := by decide +kernel
theorem dX5_two_221 : decode cX5_two 221 = .ok (.getfield 57, 3) := by decide +kernel
theorem dX5_two_224 : decode cX5_two 224 = .ok (.iload 5, 2) := by decide +kernel
theorem dX5_two_226 : decode cX5_two 226 = .ok (.iconst 1, 1) := by decide +kernel
theorem dX5_two_227 : decode cX5_two 227 = .ok (.ixor, 1) := by decide +kernel
theorem dX5_two_228 : decode cX5_two 228 = .ok (.iaload, 1) := by decide +kernel
theorem dX5_two_229 : decode cX5_two 229 = .ok (.if_icmp .lt 7, 3) := by decide +kernel
theorem dX5_two_232 : decode cX5_two 232 = .ok (.iconst 1, 1) := by decide +kernel
theorem dX5_two_233 : decode cX5_two 233 = .ok (.goto 4, 3) := by decide +kernel
theorem dX5_two_236 : decode cX5_two 236 = .ok (.iconst 0, 1) := by decide +kernel
theorem dX5_two_237 : decode cX5_two 237 = .ok (.istore 7, 2) := by decide +kernel
theorem dX5_two_239 : decode cX5_two 239 = .ok (.iload 6, 2) := by decide +kernel
theorem dX5_two_241 : decode cX5_two 241 = .ok (.ifCond .eq 21, 3) := by decide +kernel
theorem dX5_two_244 : decode cX5_two 244 = .ok (.iload 7, 2) := by decide +kernel
theorem dX5_two_246 : decode cX5_two 246 = .ok (.ifCond .eq 16, 3) := by decide +kernel
theorem dX5_two_249 : decode cX5_two 249 = .ok (.bipush 10, 2) := by decide +kernel
theorem dX5_two_251 : decode cX5_two 251 = .ok (.iload 5, 2) := by decide +kernel
theorem dX5_two_253 : decode cX5_two 253 = .ok (.iconst 1, 1) := by decide +kernel
theorem dX5_two_254 : decode cX5_two 254 = .ok (.ishr, 1) := by decide +kernel
theorem dX5_two_255 : decode cX5_two 255 = .ok (.imul, 1) := by decide +kernel
theorem dX5_two_256 : decode cX5_two 256 = .ok (.iload 5, 2) := by decide +kernel
theorem dX5_two_258 : decode cX5_two 258 = .ok (.iconst 1, 1) := by decide +kernel
theorem dX5_two_259 : decode cX5_two 259 = .ok (.iand, 1) := by decide +kernel
theorem dX5_two_260 : decode cX5_two 260 = .ok (.iadd, 1) := by decide +kernel
theorem dX5_two_261 : decode cX5_two 261 = .ok (.ireturn, 1) := by decide +kernel
theorem dX5_two_262 : decode cX5_two 262 = .ok (.iinc 5 1, 3) := by decide +kernel
theorem dX5_two_265 : decode cX5_two 265 = .ok (.goto (-84), 3) := by decide +kernel
theorem dX5_two_268 : decode cX5_two 268 = .ok (.bipush (-9), 2) := by decide +kernel
theorem dX5_two_270 : decode cX5_two 270 = .ok (.ireturn, 1) := by decide +kernel
theorem dX5_sun_0 : decode cX5_sun 0 = .ok (.aload_n 0, 1) := by decide +kernel
theorem dX5_sun_1 : decode cX5_sun 1 = .ok (.getfield 10, 3) := by decide +kernel
theorem dX5_sun_4 : decode cX5_sun 4 = .ok (.iload_n 1, 1) := by decide +kernel
theorem dX5_sun_5 : decode cX5_sun 5 = .ok (.invokevirtual 123, 3) := by decide +kernel
theorem dX5_sun_8 : decode cX5_sun 8 = .ok (.ifCond .eq 14, 3) := by decide +kernel
theorem dX5_sun_11 : decode cX5_sun 11 = .ok (.aload_n 0, 1) := by decide +kernel
theorem dX5_sun_12 : decode cX5_sun 12 = .ok (.getfield 10, 3) := by decide +kernel
theorem dX5_sun_15 : decode cX5_sun 15 = .ok (.iload_n 2, 1) := by decide +kernel
theorem dX5_sun_16 : decode cX5_sun 16 = .ok (.invokevirtual 159, 3) := by decide +kernel
theorem dX5_sun_19 : decode cX5_sun 19 = .ok (.ifCond .ne 9, 3) := by decide +kernel
theorem dX5_sun_22 : decode cX5_sun 22 = .ok (.aload_n 0, 1) := by decide +kernel
theorem dX5_sun_23 : decode cX5_sun 23 = .ok (.iconst (-1), 1) := by decide +kernel
theorem dX5_sun_24 : decode cX5_sun 24 = .ok (.invokevirtual 260, 3) := by decide +kernel
theorem dX5_sun_27 : decode cX5_sun 27 = .ok (.lreturn, 1) := by decide +kernel
theorem dX5_sun_28 : decode cX5_sun 28 = .ok (.iload_n 3, 1) := by decide +kernel
theorem dX5_sun_29 : decode cX5_sun 29 = .ok (.ifCond .lt 9, 3) := by decide +kernel
theorem dX5_sun_32 : decode cX5_sun 32 = .ok (.iload 4, 2) := by decide +kernel
theorem dX5_sun_34 : decode cX5_sun 34 = .ok (.iconst 2, 1) := by decide +kernel
theorem dX5_sun_35 : decode cX5_sun 35 = .ok (.if_icmp .ge 10, 3) := by decide +kernel
theorem dX5_sun_38 : decode cX5_sun 38 = .ok (.aload_n 0, 1) := by decide +kernel
theorem dX5_sun_39 : decode cX5_sun 39 = .ok (.bipush (-4), 2) := by decide +kernel
theorem dX5_sun_41 : decode cX5_sun 41 = .ok (.invokevirtual 260, 3) := by decide +kernel
theorem dX5_sun_44 : decode cX5_sun 44 = .ok (.lreturn, 1) := by decide +kernel
theorem dX5_sun_45 : decode cX5_sun 45 = .ok (.iload_n 3, 1) := by decide +kernel
theorem dX5_sun_46 : decode cX5_sun 46 = .ok (.bipush 7, 2) := by decide +kernel
theorem dX5_sun_48 : decode cX5_sun 48 = .ok (.if_icmp .gt 10, 3) := by decide +kernel
theorem dX5_sun_51 : decode cX5_sun 51 = .ok (.iload 4, 2) := by decide +kernel
theorem dX5_sun_53 : decode cX5_sun 53 = .ok (.bipush 20, 2) := by decide +kernel
theorem dX5_sun_55 : decode cX5_sun 55 = .ok (.if_icmp .le 10, 3) := by decide +kernel
theorem dX5_sun_58 : decode cX5_sun 58 = .ok (.aload_n 0, 1) := by decide +kernel
theorem dX5_sun_59 : decode cX5_sun 59 = .ok (.bipush (-6), 2) := by decide +kernel
theorem dX5_sun_61 : decode cX5_sun 61 = .ok (.invokevirtual 260, 3) := by decide +kernel
theorem dX5_sun_64 : decode cX5_sun 64 = .ok (.lreturn, 1) := by decide +kernel
theorem dX5_sun_65 : decode cX5_sun 65 = .ok (.iload 5, 2) := by decide +kernel
theorem dX5_sun_67 : decode cX5_sun 67 = .ok (.ifCond .eq 16, 3) := by decide +kernel
theorem dX5_sun_70 : decode cX5_sun 70 = .ok (.iload 5, 2) := by decide +kernel
theorem dX5_sun_72 : decode cX5_sun 72 = .ok (.iconst 1, 1) := by decide +kernel
theorem dX5_sun_73 : decode cX5_sun 73 = .ok (.if_icmp .eq 10, 3) := by decide +kernel
theorem dX5_sun_76 : decode cX5_sun 76 = .ok (.aload_n 0, 1) := by decide +kernel
theorem dX5_sun_77 : decode cX5_sun 77 = .ok (.bipush (-2), 2) := by decide +kernel
theorem dX5_sun_79 : decode cX5_sun 79 = .ok (.invokevirtual 260, 3) := by decide +kernel
theorem dX5_sun_82 : decode cX5_sun 82 = .ok (.lreturn, 1) := by decide +kernel
theorem dX5_sun_83 : decode cX5_sun 83 = .ok (.lconst 0, 1) := by decide +kernel
theorem dX5_sun_84 : decode cX5_sun 84 = .ok (.lstore 6, 2) := by decide +kernel
theorem dX5_sun_86 : decode cX5_sun 86 = .ok (.iconst 0, 1) := by decide +kernel
theorem dX5_sun_87 : decode cX5_sun 87 = .ok (.istore 8, 2) := by decide +kernel
theorem dX5_sun_89 : decode cX5_sun 89 = .ok (.iload 8, 2) := by decide +kernel
theorem dX5_sun_91 : decode cX5_sun 91 = .ok (.iconst 1, 1) := by decide +kernel
theorem dX5_sun_92 : decode cX5_sun 92 = .ok (.iload_n 3, 1) := by decide +kernel
theorem dX5_sun_93 : decode cX5_sun 93 = .ok (.ishl, 1) := by decide +kernel
theorem dX5_sun_94 : decode cX5_sun 94 = .ok (.if_icmp .ge 41, 3) := by decide +kernel
theorem dX5_sun_97 : decode cX5_sun 97 = .ok (.aload_n 0, 1) := by decide +kernel
theorem dX5_sun_98 : decode cX5_sun 98 = .ok (.iload_n 1, 1) := by decide +kernel
theorem dX5_sun_99 : decode cX5_sun 99 = .ok (.iload_n 2, 1) := by decide +kernel
theorem dX5_sun_100 : decode cX5_sun 100 = .ok (.iload_n 3, 1) := by decide +kernel
