theorem pty_int {κ : KP} {I : List Nat} (h : I.all (fun q => q != 131) = true) : pty κ I = I.map (fun q => (κ.2.1 q, FieldType.int)) :=
  List.map_congr_left (fun q hq => by rw [if_neg (by simpa using List.all_eq_true.mp h q hq)])
set_option maxHeartbeats 4000000 in
set_option maxRecDepth 100000 in
theorem i_X6 (l : Launch) : InitC l yX6_init cX6_init 1 1 20 1112 4 [.null, .null, .null, .null, .null, .null, .null, .null, .null, .null, .null, .int 0, .int 0, .int 0, .int 0, .int 0, .null, .null, .int 0, .int 0, .null, .null, .null, .null, .int 0, .int 0, .int 0, .int 0, .null, .int 0, .int 0, .int 0, .int 0, .int 0, .null, .int 0, .null, .int 0] I6 137 := by
  refine init_of (own := RX6) (by decide +kernel) rfl rfl (by decide) ?_
  intro D h0 p e s m below meth c hname hr hlocks
  refine z_aload (i := 0) (j := 0) dX6_init_0 rfl rfl ?_
  refine z_obj dX6_init_1 (gm (i := 770) (by decide +kernel) rfl) (Nat.le_of_ble_eq_true rfl) (Nat.le_of_ble_eq_true rfl) ?_
  refine z_aload (i := 0) (j := 0) dX6_init_4 rfl rfl ?_
  refine z_bipush (v := 7) dX6_init_5 (by decide) ?_
  refine s_newa (N := 7) dX6_init_7 (by decide) rfl (Nat.le_of_ble_eq_true rfl) (Nat.le_of_ble_eq_true rfl) (Nat.le_of_ble_eq_true rfl) (fun q1 c1 => ?_)
  refine s_putF_X6 (k := 0) (fs' := [.ref q1, .null, .null, .null, .null, .null, .null, .null, .null, .null, .null, .int 0, .int 0, .int 0, .int 0, .int 0, .null, .null, .int 0, .int 0, .null, .null, .null, .null, .int 0, .int 0, .int 0, .int 0, .null, .int 0, .int 0, .int 0, .int 0, .int 0, .null, .int 0, .null, .int 0]) dX6_init_9 f_X6_7 (by decide) rfl rfl hname rfl rfl (Nat.le_of_ble_eq_true rfl) rfl ?_
  refine z_aload (i := 0) (j := 0) dX6_init_12 rfl rfl ?_
  refine z_bipush (v := 6) dX6_init_13 (by decide) ?_
  refine s_newa (N := 6) dX6_init_15 (by decide) rfl (Nat.le_of_ble_eq_true rfl) (Nat.le_of_ble_eq_true rfl) (Nat.le_of_ble_eq_true rfl) (fun q2 c2 => ?_)
  refine s_putF_X6 (k := 1) (fs' := [.ref q1, .ref q2, .null, .null, .null, .null, .null, .null, .null, .null, .null, .int 0, .int 0, .int 0, .int 0, .int 0, .null, .null, .int 0, .int 0, .null, .null, .null, .null, .int 0, .int 0, .int 0, .int 0, .null, .int 0, .int 0, .int 0, .int 0, .int 0, .null, .int 0, .null, .int 0]) dX6_init_17 f_X6_13 (by decide) rfl rfl hname rfl rfl (Nat.le_of_ble_eq_true rfl) rfl ?_
  refine z_aload (i := 0) (j := 0) dX6_init_20 rfl rfl ?_
  refine z_bipush (v := 6) dX6_init_21 (by decide) ?_
  refine s_newa (N := 6) dX6_init_23 (by decide) rfl (Nat.le_of_ble_eq_true rfl) (Nat.le_of_ble_eq_true rfl) (Nat.le_of_ble_eq_true rfl) (fun q3 c3 => ?_)
  refine s_putF_X6 (k := 2) (fs' := [.ref q1, .ref q2, .ref q3, .null, .null, .null, .null, .null, .null, .null, .null, .int 0, .int 0, .int 0, .int 0, .int 0, .null, .null, .int 0, .int 0, .null, .null, .null, .null, .int 0, .int 0, .int 0, .int 0, .null, .int 0, .int 0, .int 0, .int 0, .int 0, .null, .int 0, .null, .int 0]) dX6_init_25 f_X6_16 (by decide) rfl rfl hname rfl rfl (Nat.le_of_ble_eq_true rfl) rfl ?_
  refine z_aload (i := 0) (j := 0) dX6_init_28 rfl rfl ?_
  refine z_bipush (v := 6) dX6_init_29 (by decide) ?_
  refine s_newa (N := 6) dX6_init_31 (by decide) rfl (Nat.le_of_ble_eq_true rfl) (Nat.le_of_ble_eq_true rfl) (Nat.le_of_ble_eq_true rfl) (fun q4 c4 => ?_)
  refine s_putF_X6 (k := 3) (fs' := [.ref q1, .ref q2, .ref q3, .ref q4, .null, .null, .null, .null, .null, .null, .null, .int 0, .int 0, .int 0, .int 0, .int 0, .null, .null, .int 0, .int 0, .null, .null, .null, .null, .int 0, .int 0, .int 0, .int 0, .null, .int 0, .int 0, .int 0, .int 0, .int 0, .null, .int 0, .null, .int 0]) dX6_init_33 f_X6_19 (by decide) rfl rfl hname rfl rfl (Nat.le_of_ble_eq_true rfl) rfl ?_
  refine z_aload (i := 0) (j := 0) dX6_init_36 rfl rfl ?_
  refine z_bipush (v := 8) dX6_init_37 (by decide) ?_
  refine s_newa (N := 8) dX6_init_39 (by decide) rfl (Nat.le_of_ble_eq_true rfl) (Nat.le_of_ble_eq_true rfl) (Nat.le_of_ble_eq_true rfl) (fun q5 c5 => ?_)
  refine s_putF_X6 (k := 4) (fs' := [.ref q1, .ref q2, .ref q3, .ref q4, .ref q5, .null, .null, .null, .null, .null, .null, .int 0, .int 0, .int 0, .int 0, .int 0, .null, .null, .int 0, .int 0, .null, .null, .null, .null, .int 0, .int 0, .int 0, .int 0, .null, .int 0, .int 0, .int 0, .int 0, .int 0, .null, .int 0, .null, .int 0]) dX6_init_41 f_X6_22 (by decide) rfl rfl hname rfl rfl (Nat.le_of_ble_eq_true rfl) rfl ?_
  refine z_aload (i := 0) (j := 0) dX6_init_44 rfl rfl ?_
  refine z_bipush (v := 8) dX6_init_45 (by decide) ?_
  refine s_newa (N := 8) dX6_init_47 (by decide) rfl (Nat.le_of_ble_eq_true rfl) (Nat.le_of_ble_eq_true rfl) (Nat.le_of_ble_eq_true rfl) (fun q6 c6 => ?_)
  refine s_putF_X6 (k := 5) (fs' := [.ref q1, .ref q2, .ref q3, .ref q4, .ref q5, .ref q6, .null, .null, .null, .null, .null, .int 0, .int 0, .int 0, .int 0, .int 0, .null, .null, .int 0, .int 0, .null, .null, .null, .null, .int 0, .int 0, .int 0, .int 0, .null, .int 0, .int 0, .int 0, .int 0, .int 0, .null, .int 0, .null, .int 0]) dX6_init_49 f_X6_25 (by decide) rfl rfl hname rfl rfl (Nat.le_of_ble_eq_true rfl) rfl ?_
  refine z_aload (i := 0) (j := 0) dX6_init_52 rfl rfl ?_
  refine z_bipush (v := 8) dX6_init_53 (by decide) ?_
  refine s_newa (N := 8) dX6_init_55 (by decide) rfl (Nat.le_of_ble_eq_true rfl) (Nat.le_of_ble_eq_true rfl) (Nat.le_of_ble_eq_true rfl) (fun q7 c7 => ?_)
  refine s_putF_X6 (k := 6) (fs' := [.ref q1, .ref q2, .ref q3, .ref q4, .ref q5, .ref q6, .ref q7, .null, .null, .null, .null, .int 0, .int 0, .int 0, .int 0, .int 0, .null, .null, .int 0, .int 0, .null, .null, .null, .null, .int 0, .int 0, .int 0, .int 0, .null, .int 0, .int 0, .int 0, .int 0, .int 0, .null, .int 0, .null, .int 0]) dX6_init_57 f_X6_28 (by decide) rfl rfl hname rfl rfl (Nat.le_of_ble_eq_true rfl) rfl ?_
  refine z_aload (i := 0) (j := 0) dX6_init_60 rfl rfl ?_
  refine z_iconst (v := 5) dX6_init_61 (by decide) ?_
  refine s_newa (N := 5) dX6_init_62 (by decide) rfl (Nat.le_of_ble_eq_true rfl) (Nat.le_of_ble_eq_true rfl) (Nat.le_of_ble_eq_true rfl) (fun q8 c8 => ?_)
  refine s_putF_X6 (k := 7) (fs' := [.ref q1, .ref q2, .ref q3, .ref q4, .ref q5, .ref q6, .ref q7, .ref q8, .null, .null, .null, .int 0, .int 0, .int 0, .int 0, .int 0, .null, .null, .int 0, .int 0, .null, .null, .null, .null, .int 0, .int 0, .int 0, .int 0, .null, .int 0, .int 0, .int 0, .int 0, .int 0, .null, .int 0, .null, .int 0]) dX6_init_64 f_X6_31 (by decide) rfl rfl hname rfl rfl (Nat.le_of_ble_eq_true rfl) rfl ?_
  refine z_aload (i := 0) (j := 0) dX6_init_67 rfl rfl ?_
  refine z_iconst (v := 5) dX6_init_68 (by decide) ?_
  refine s_newa (N := 5) dX6_init_69 (by decide) rfl (Nat.le_of_ble_eq_true rfl) (Nat.le_of_ble_eq_true rfl) (Nat.le_of_ble_eq_true rfl) (fun q9 c9 => ?_)
  refine s_putF_X6 (k := 8) (fs' := [.ref q1, .ref q2, .ref q3, .ref q4, .ref q5, .ref q6, .ref q7, .ref q8, .ref q9, .null, .null, .int 0, .int 0, .int 0, .int 0, .int 0, .null, .null, .int 0, .int 0, .null, .null, .null, .null, .int 0, .int 0, .int 0, .int 0, .null, .int 0, .int 0, .int 0, .int 0, .int 0, .null, .int 0, .null, .int 0]) dX6_init_71 f_X6_34 (by decide) rfl rfl hname rfl rfl (Nat.le_of_ble_eq_true rfl) rfl ?_
  refine z_aload (i := 0) (j := 0) dX6_init_74 rfl rfl ?_
  refine z_iconst (v := 5) dX6_init_75 (by decide) ?_
  refine s_newa (N := 5) dX6_init_76 (by decide) rfl (Nat.le_of_ble_eq_true rfl) (Nat.le_of_ble_eq_true rfl) (Nat.le_of_ble_eq_true rfl) (fun q10 c10 => ?_)
  refine s_putF_X6 (k := 9) (fs' := [.ref q1, .ref q2, .ref q3, .ref q4, .ref q5, .ref q6, .ref q7, .ref q8, .ref q9, .ref q10, .null, .int 0, .int 0, .int 0, .int 0, .int 0, .null, .null, .int 0, .int 0, .null, .null, .null, .null, .int 0, .int 0, .int 0, .int 0, .null, .int 0, .int 0, .int 0, .int 0, .int 0, .null, .int 0, .null, .int 0]) dX6_init_78 f_X6_37 (by decide) rfl rfl hname rfl rfl (Nat.le_of_ble_eq_true rfl) rfl ?_
  refine z_aload (i := 0) (j := 0) dX6_init_81 rfl rfl ?_
  refine z_iconst (v := 5) dX6_init_82 (by decide) ?_
  refine s_newa (N := 5) dX6_init_83 (by decide) rfl (Nat.le_of_ble_eq_true rfl) (Nat.le_of_ble_eq_true rfl) (Nat.le_of_ble_eq_true rfl) (fun q11 c11 => ?_)
  refine s_putF_X6 (k := 10) (fs' := [.ref q1, .ref q2, .ref q3, .ref q4, .ref q5, .ref q6, .ref q7, .ref q8, .ref q9, .ref q10, .ref q11, .int 0, .int 0, .int 0, .int 0, .int 0, .null, .null, .int 0, .int 0, .null, .null, .null, .null, .int 0, .int 0, .int 0, .int 0, .null, .int 0, .int 0, .int 0, .int 0, .int 0, .null, .int 0, .null, .int 0]) dX6_init_85 f_X6_40 (by decide) rfl rfl hname rfl rfl (Nat.le_of_ble_eq_true rfl) rfl ?_
  refine z_aload (i := 0) (j := 0) dX6_init_88 rfl rfl ?_
  refine z_bipush (v := 6) dX6_init_89 (by decide) ?_
  refine s_newa (N := 6) dX6_init_91 (by decide) rfl (Nat.le_of_ble_eq_true rfl) (Nat.le_of_ble_eq_true rfl) (Nat.le_of_ble_eq_true rfl) (fun q12 c12 => ?_)
  refine s_putF_X6 (k := 16) (fs' := [.ref q1, .ref q2, .ref q3, .ref q4, .ref q5, .ref q6, .ref q7, .ref q8, .ref q9, .ref q10, .ref q11, .int 0, .int 0, .int 0, .int 0, .int 0, .ref q12, .null, .int 0, .int 0, .null, .null, .null, .null, .int 0, .int 0, .int 0, .int 0, .null, .int 0, .int 0, .int 0, .int 0, .int 0, .null, .int 0, .null, .int 0]) dX6_init_93 f_X6_43 (by decide) rfl rfl hname rfl rfl (Nat.le_of_ble_eq_true rfl) rfl ?_
  refine z_aload (i := 0) (j := 0) dX6_init_96 rfl rfl ?_
  refine z_bipush (v := 6) dX6_init_97 (by decide) ?_
  refine s_newa (N := 6) dX6_init_99 (by decide) rfl (Nat.le_of_ble_eq_true rfl) (Nat.le_of_ble_eq_true rfl) (Nat.le_of_ble_eq_true rfl) (fun q13 c13 => ?_)
  refine s_putF_X6 (k := 17) (fs' := [.ref q1, .ref q2, .ref q3, .ref q4, .ref q5, .ref q6, .ref q7, .ref q8, .ref q9, .ref q10, .ref q11, .int 0, .int 0, .int 0, .int 0, .int 0, .ref q12, .ref q13, .int 0, .int 0, .null, .null, .null, .null, .int 0, .int 0, .int 0, .int 0, .null, .int 0, .int 0, .int 0, .int 0, .int 0, .null, .int 0, .null, .int 0]) dX6_init_101 f_X6_46 (by decide) rfl rfl hname rfl rfl (Nat.le_of_ble_eq_true rfl) rfl ?_
  refine z_aload (i := 0) (j := 0) dX6_init_104 rfl rfl ?_
  refine z_bipush (v := (-9)) dX6_init_105 (by decide) ?_
  refine s_put_X6 (k := 18) (fs' := [.ref q1, .ref q2, .ref q3, .ref q4, .ref q5, .ref q6, .ref q7, .ref q8, .ref q9, .ref q10, .ref q11, .int 0, .int 0, .int 0, .int 0, .int 0, .ref q12, .ref q13, .int (-9), .int 0, .null, .null, .null, .null, .int 0, .int 0, .int 0, .int 0, .null, .int 0, .int 0, .int 0, .int 0, .int 0, .null, .int 0, .null, .int 0]) dX6_init_107 f_X6_49 (by decide) rfl  rfl rfl (Nat.le_of_ble_eq_true rfl) rfl ?_
  refine z_aload (i := 0) (j := 0) dX6_init_110 rfl rfl ?_
  refine z_bipush (v := 96) dX6_init_111 (by decide) ?_
  refine s_newa (N := 96) dX6_init_113 (by decide) rfl (Nat.le_of_ble_eq_true rfl) (Nat.le_of_ble_eq_true rfl) (Nat.le_of_ble_eq_true rfl) (fun q14 c14 => ?_)
  refine s_putF_X6 (k := 20) (fs' := [.ref q1, .ref q2, .ref q3, .ref q4, .ref q5, .ref q6, .ref q7, .ref q8, .ref q9, .ref q10, .ref q11, .int 0, .int 0, .int 0, .int 0, .int 0, .ref q12, .ref q13, .int (-9), .int 0, .ref q14, .null, .null, .null, .int 0, .int 0, .int 0, .int 0, .null, .int 0, .int 0, .int 0, .int 0, .int 0, .null, .int 0, .null, .int 0]) dX6_init_115 f_X6_53 (by decide) rfl rfl hname rfl rfl (Nat.le_of_ble_eq_true rfl) rfl ?_
  refine z_aload (i := 0) (j := 0) dX6_init_118 rfl rfl ?_
  refine z_bipush (v := 33) dX6_init_119 (by decide) ?_
  refine s_newa (N := 33) dX6_init_121 (by decide) rfl (Nat.le_of_ble_eq_true rfl) (Nat.le_of_ble_eq_true rfl) (Nat.le_of_ble_eq_true rfl) (fun q15 c15 => ?_)
  refine s_putF_X6 (k := 21) (fs' := [.ref q1, .ref q2, .ref q3, .ref q4, .ref q5, .ref q6, .ref q7, .ref q8, .ref q9, .ref q10, .ref q11, .int 0, .int 0, .int 0, .int 0, .int 0, .ref q12, .ref q13, .int (-9), .int 0, .ref q14, .ref q15, .null, .null, .int 0, .int 0, .int 0, .int 0, .null, .int 0, .int 0, .int 0, .int 0, .int 0, .null, .int 0, .null, .int 0]) dX6_init_123 f_X6_56 (by decide) rfl rfl hname rfl rfl (Nat.le_of_ble_eq_true rfl) rfl ?_
  refine z_aload (i := 0) (j := 0) dX6_init_126 rfl rfl ?_
  refine z_bipush (v := 33) dX6_init_127 (by decide) ?_
  refine s_newa (N := 33) dX6_init_129 (by decide) rfl (Nat.le_of_ble_eq_true rfl) (Nat.le_of_ble_eq_true rfl) (Nat.le_of_ble_eq_true rfl) (fun q16 c16 => ?_)
  refine s_putF_X6 (k := 22) (fs' := [.ref q1, .ref q2, .ref q3, .ref q4, .ref q5, .ref q6, .ref q7, .ref q8, .ref q9, .ref q10, .ref q11, .int 0, .int 0, .int 0, .int 0, .int 0, .ref q12, .ref q13, .int (-9), .int 0, .ref q14, .ref q15, .ref q16, .null, .int 0, .int 0, .int 0, .int 0, .null, .int 0, .int 0, .int 0, .int 0, .int 0, .null, .int 0, .null, .int 0]) dX6_init_131 f_X6_59 (by decide) rfl rfl hname rfl rfl (Nat.le_of_ble_eq_true rfl) rfl ?_
  refine z_aload (i := 0) (j := 0) dX6_init_134 rfl rfl ?_
  refine z_bipush (v := 99) dX6_init_135 (by decide) ?_
  refine s_newa (N := 99) dX6_init_137 (by decide) rfl (Nat.le_of_ble_eq_true rfl) (Nat.le_of_ble_eq_true rfl) (Nat.le_of_ble_eq_true rfl) (fun q17 c17 => ?_)
  refine s_putF_X6 (k := 23) (fs' := [.ref q1, .ref q2, .ref q3, .ref q4, .ref q5, .ref q6, .ref q7, .ref q8, .ref q9, .ref q10, .ref q11, .int 0, .int 0, .int 0, .int 0, .int 0, .ref q12, .ref q13, .int (-9), .int 0, .ref q14, .ref q15, .ref q16, .ref q17, .int 0, .int 0, .int 0, .int 0, .null, .int 0, .int 0, .int 0, .int 0, .int 0, .null, .int 0, .null, .int 0]) dX6_init_139 f_X6_62 (by decide) rfl rfl hname rfl rfl (Nat.le_of_ble_eq_true rfl) rfl ?_
  refine z_aload (i := 0) (j := 0) dX6_init_142 rfl rfl ?_
  refine z_sipush (v := 750) dX6_init_143 (by decide) ?_
  refine s_newa (N := 750) dX6_init_146 (by decide) rfl (Nat.le_of_ble_eq_true rfl) (Nat.le_of_ble_eq_true rfl) (Nat.le_of_ble_eq_true rfl) (fun q18 c18 => ?_)
  refine s_putF_X6 (k := 28) (fs' := [.ref q1, .ref q2, .ref q3, .ref q4, .ref q5, .ref q6, .ref q7, .ref q8, .ref q9, .ref q10, .ref q11, .int 0, .int 0, .int 0, .int 0, .int 0, .ref q12, .ref q13, .int (-9), .int 0, .ref q14, .ref q15, .ref q16, .ref q17, .int 0, .int 0, .int 0, .int 0, .ref q18, .int 0, .int 0, .int 0, .int 0, .int 0, .null, .int 0, .null, .int 0]) dX6_init_148 f_X6_65 (by decide) rfl rfl hname rfl rfl (Nat.le_of_ble_eq_true rfl) rfl ?_
  refine z_aload (i := 0) (j := 0) dX6_init_151 rfl rfl ?_
  refine z_bipush (v := 12) dX6_init_152 (by decide) ?_
  refine s_newa (N := 12) dX6_init_154 (by decide) rfl (Nat.le_of_ble_eq_true rfl) (Nat.le_of_ble_eq_true rfl) (Nat.le_of_ble_eq_true rfl) (fun q19 c19 => ?_)
  refine s_putF_X6 (k := 34) (fs' := [.ref q1, .ref q2, .ref q3, .ref q4, .ref q5, .ref q6, .ref q7, .ref q8, .ref q9, .ref q10, .ref q11, .int 0, .int 0, .int 0, .int 0, .int 0, .ref q12, .ref q13, .int (-9), .int 0, .ref q14, .ref q15, .ref q16, .ref q17, .int 0, .int 0, .int 0, .int 0, .ref q18, .int 0, .int 0, .int 0, .int 0, .int 0, .ref q19, .int 0, .null, .int 0]) dX6_init_156 f_X6_68 (by decide) rfl rfl hname rfl rfl (Nat.le_of_ble_eq_true rfl) rfl ?_
  refine z_aload (i := 0) (j := 0) dX6_init_159 rfl rfl ?_
  refine z_bipush (v := 8) dX6_init_160 (by decide) ?_
  refine s_newa (N := 8) dX6_init_162 (by decide) rfl (Nat.le_of_ble_eq_true rfl) (Nat.le_of_ble_eq_true rfl) (Nat.le_of_ble_eq_true rfl) (fun q20 c20 => ?_)
  refine s_putF_X6 (k := 36) (fs' := [.ref q1, .ref q2, .ref q3, .ref q4, .ref q5, .ref q6, .ref q7, .ref q8, .ref q9, .ref q10, .ref q11, .int 0, .int 0, .int 0, .int 0, .int 0, .ref q12, .ref q13, .int (-9), .int 0, .ref q14, .ref q15, .ref q16, .ref q17, .int 0, .int 0, .int 0, .int 0, .ref q18, .int 0, .int 0, .int 0, .int 0, .int 0, .ref q19, .int 0, .ref q20, .int 0]) dX6_init_164 f_X6_71 (by decide) rfl rfl hname rfl rfl (Nat.le_of_ble_eq_true rfl) rfl ?_
  refine z_aload (i := 0) (j := 0) dX6_init_167 rfl rfl ?_
  refine z_iconst (v := 3) dX6_init_168 (by decide) ?_
  refine s_put_X6 (k := 14) (fs' := [.ref q1, .ref q2, .ref q3, .ref q4, .ref q5, .ref q6, .ref q7, .ref q8, .ref q9, .ref q10, .ref q11, .int 0, .int 0, .int 0, .int 3, .int 0, .ref q12, .ref q13, .int (-9), .int 0, .ref q14, .ref q15, .ref q16, .ref q17, .int 0, .int 0, .int 0, .int 0, .ref q18, .int 0, .int 0, .int 0, .int 0, .int 0, .ref q19, .int 0, .ref q20, .int 0]) dX6_init_169 f_X6_74 (by decide) rfl  rfl rfl (Nat.le_of_ble_eq_true rfl) rfl ?_
  refine z_ret (KL 137 [h0, q2, q3, q4, q5, q6, q7, q8, q9, q10, q11, q1, q12, q13, q14, q15, q16, q17, q18, q19, q20] [c1, c2, c3, c4, c5, c6, c7, c8, c9, c10, c11, c1, c12, c13, c14, c15, c16, c17, c18, c19, c20] D) dX6_init_172 hr hlocks (Nat.le_of_ble_eq_true rfl) (Nat.le_of_ble_eq_true rfl) rfl rfl ?_ ?_
  · simp only [pt, I6, List.map_cons, List.map_nil, c0_137, c0_148, c0_138, c0_139, c0_140, c0_141, c0_142, c0_143, c0_144, c0_145, c0_146, c0_147, c0_149, c0_150, c0_151, c0_152, c0_153, c0_154, c0_155, c0_156, c0_157, List.nil_append, List.cons_append]
    rfl
  · rw [pty_int (by decide +kernel)]
    simp only [List.nil_append, List.cons_append]
    exact fm_mem [0, 0, 1, 2, 3, 4, 5, 6, 7, 8, 9, 10, 11, 12, 13, 14, 15, 16, 17, 18, 19] rfl
