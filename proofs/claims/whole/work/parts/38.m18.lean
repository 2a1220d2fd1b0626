def m_X6_two_44 (n : Nat) : Nat → Mem → Int → Rs
  | 0, _, _ => none
  | t + 1, M, a5 => if I32 a5 then (if 4 ≤ a5 then (some ((-9), M)) else (if 0 ≤ (2 * (bXor a5 2)) ∧ (2 * (bXor a5 2)) < 8 then (if 0 ≤ (2 * a5) ∧ (2 * a5) < 8 then (if (rd M 157 (Int.toNat (2 * a5))) < (rd M 157 (Int.toNat (2 * (bXor a5 2)))) then ((m_X6_two_44 n t) M (a5 + 1)) else (if 0 ≤ ((2 * (bXor a5 1)) + 1) ∧ ((2 * (bXor a5 1)) + 1) < 8 then (if 0 ≤ ((2 * a5) + 1) ∧ ((2 * a5) + 1) < 8 then (if (rd M 157 (Int.toNat ((2 * a5) + 1))) < (rd M 157 (Int.toNat ((2 * (bXor a5 1)) + 1))) then ((m_X6_two_44 n t) M (a5 + 1)) else (some (((10 * (Int.tdiv a5 2)) + (Int.tmod a5 2)), M))) else none) else none)) else none) else none)) else none
theorem t_X6_two_44 (n : Nat) : ∀ (t : Nat) (M : Mem) (a5 : Int), Y RX6 cX6_two 6 9 0 none 44 [some (rv 137), none, none, none, none, some (iv a5)] [] M (m_X6_two_44 n t M a5) := by
  intro t
  induction t with
  | zero => intro M a5; exact y_none
  | succ t ih =>
    intro M a5
    rewrite [m_X6_two_44]
    refine y_iload (pc := 44) dX6_two_44 rfl ?_
    refine y_iconst (pc := 46) dX6_two_46 ?_
    refine y_gd (fun h1 => ?_)
    refine y_icmp_ge (off := 72) (tgt := 119) (pc := 47) dX6_two_47 (by decide) h1 (by decide) (fun h2 => ?_) (fun h2 => ?_)
    · refine y_bipush (pc := 119) dX6_two_119 (by decide) ?_
      exact y_iret (pc := 121) dX6_two_121
    · refine y_aload_n (pc := 50) dX6_two_50 rfl ?_
      refine y_getref (pc := 51) (x := 157) g_X6_71 dX6_two_51 ?_
      refine y_iconst (pc := 54) dX6_two_54 ?_
      refine y_iload (pc := 55) dX6_two_55 rfl ?_
      refine y_iconst (pc := 57) dX6_two_57 ?_
      refine y_ixor (pc := 58) dX6_two_58 ?_
      refine y_imul (pc := 59) dX6_two_59 ?_
      refine y_gd (fun h3 => ?_)
      refine y_iald (pc := 60) dX6_two_60 ar_157 h3 ?_
      refine y_aload_n (pc := 61) dX6_two_61 rfl ?_
      refine y_getref (pc := 62) (x := 157) g_X6_71 dX6_two_62 ?_
      refine y_iconst (pc := 65) dX6_two_65 ?_
      refine y_iload (pc := 66) dX6_two_66 rfl ?_
      refine y_imul (pc := 68) dX6_two_68 ?_
      refine y_gd (fun h4 => ?_)
      refine y_iald (pc := 69) dX6_two_69 ar_157 h4 ?_
      refine y_icmp_gt (off := 43) (tgt := 113) (pc := 70) dX6_two_70 (by decide) (rd_rng _ _ _) (rd_rng _ _ _) (fun h5 => ?_) (fun h5 => ?_)
      · refine y_iinc (L' := [some (rv 137), none, none, none, none, some (iv (a5 + 1))]) (pc := 113) dX6_two_113 rfl (by decide) rfl rfl ?_
        refine y_goto (tgt := 44) (pc := 116) dX6_two_116 (by decide) ?_
        exact y_sub (ls_s (ls_n (ls_n (ls_n (ls_n (ls_s ls_0)))))) (ih M (a5 + 1))
      · refine y_aload_n (pc := 73) dX6_two_73 rfl ?_
        refine y_getref (pc := 74) (x := 157) g_X6_71 dX6_two_74 ?_
        refine y_iconst (pc := 77) dX6_two_77 ?_
        refine y_iload (pc := 78) dX6_two_78 rfl ?_
        refine y_iconst (pc := 80) dX6_two_80 ?_
        refine y_ixor (pc := 81) dX6_two_81 ?_
        refine y_imul (pc := 82) dX6_two_82 ?_
        refine y_iconst (pc := 83) dX6_two_83 ?_
        refine y_iadd (pc := 84) dX6_two_84 ?_
        refine y_gd (fun h6 => ?_)
        refine y_iald (pc := 85) dX6_two_85 ar_157 h6 ?_
        refine y_aload_n (pc := 86) dX6_two_86 rfl ?_
        refine y_getref (pc := 87) (x := 157) g_X6_71 dX6_two_87 ?_
        refine y_iconst (pc := 90) dX6_two_90 ?_
        refine y_iload (pc := 91) dX6_two_91 rfl ?_
        refine y_imul (pc := 93) dX6_two_93 ?_
        refine y_iconst (pc := 94) dX6_two_94 ?_
        refine y_iadd (pc := 95) dX6_two_95 ?_
        refine y_gd (fun h7 => ?_)
        refine y_iald (pc := 96) dX6_two_96 ar_157 h7 ?_
        refine y_icmp_gt (off := 16) (tgt := 113) (pc := 97) dX6_two_97 (by decide) (rd_rng _ _ _) (rd_rng _ _ _) (fun h8 => ?_) (fun h8 => ?_)
        · refine y_iinc (L' := [some (rv 137), none, none, none, none, some (iv (a5 + 1))]) (pc := 113) dX6_two_113 rfl (by decide) rfl rfl ?_
          refine y_goto (tgt := 44) (pc := 116) dX6_two_116 (by decide) ?_
          exact y_sub (ls_s (ls_n (ls_n (ls_n (ls_n (ls_s ls_0)))))) (ih M (a5 + 1))
        · refine y_bipush (pc := 100) dX6_two_100 (by decide) ?_
          refine y_iload (pc := 102) dX6_two_102 rfl ?_
          refine y_iconst (pc := 104) dX6_two_104 ?_
          refine y_idiv (pc := 105) dX6_two_105 h1 (by decide) (by decide) ?_
          refine y_imul (pc := 106) dX6_two_106 ?_
          refine y_iload (pc := 107) dX6_two_107 rfl ?_
          refine y_iconst (pc := 109) dX6_two_109 ?_
          refine y_irem (pc := 110) dX6_two_110 h1 (by decide) (by decide) ?_
          refine y_iadd (pc := 111) dX6_two_111 ?_
          exact y_iret (pc := 112) dX6_two_112
def m_X6_two_20 (n : Nat) (M : Mem) (a1 : Int) (a2 : Int) (a3 : Int) (s0 : Int) : Rs := if I32 s0 then (if s0 = 0 then (bd (m_X6_findEnds n M a1 a2 a3) (fun _ M11 => m_X6_two_44 n n M11 0)) else (bd (m_X6_no n M s0) (fun r13 M12 => some (r13, M12)))) else none
theorem t_X6_two_20 (n : Nat) (M : Mem) (a1 : Int) (a2 : Int) (a3 : Int) (s0 : Int) : Y RX6 cX6_two 6 9 0 none 20 [some (rv 137), some (iv a1), some (iv a2), some (iv a3), none, none] [iv s0] M (m_X6_two_20 n M a1 a2 a3 s0) := by
  unfold m_X6_two_20
  refine y_istore (L' := [some (rv 137), some (iv a1), some (iv a2), some (iv a3), some (iv s0), none]) (pc := 20) dX6_two_20 (by decide) rfl rfl ?_
  refine y_iload (pc := 22) dX6_two_22 rfl ?_
  refine y_gd (fun h9 => ?_)
  refine y_if_eq (off := 10) (tgt := 34) (pc := 24) dX6_two_24 (by decide) h9 (fun h10 => ?_) (fun h10 => ?_)
  · refine y_aload_n (pc := 34) dX6_two_34 rfl ?_
    refine y_iload_n (pc := 35) dX6_two_35 rfl ?_
    refine y_iload_n (pc := 36) dX6_two_36 rfl ?_
    refine y_iload_n (pc := 37) dX6_two_37 rfl ?_
    refine y_callVv (pc := 38) v_X6_findEnds l_X6_317 dX6_two_38 (c_X6_findEnds n _ _ _ _) rfl rc_X6 rfl (by decide) (by decide) (Nat.le_of_ble_eq_true rfl) (fun _ M11 _ => ?_)
    refine y_iconst (pc := 41) dX6_two_41 ?_
    refine y_istore (L' := [some (rv 137), some (iv a1), some (iv a2), some (iv a3), some (iv s0), some (iv 0)]) (pc := 42) dX6_two_42 (by decide) rfl rfl ?_
    exact y_sub (ls_s (ls_n (ls_n (ls_n (ls_n (ls_s ls_0)))))) (t_X6_two_44 n n M11 0)
  · refine y_aload_n (pc := 27) dX6_two_27 rfl ?_
    refine y_iload (pc := 28) dX6_two_28 rfl ?_
    refine y_callVi (pc := 30) v_X6_no l_X6_172 dX6_two_30 (c_X6_no n _ _) rfl rc_X6 rfl (by decide) (by decide) (Nat.le_of_ble_eq_true rfl) (fun r13 M12 _ => ?_)
    exact y_iret (pc := 33) dX6_two_33
def m_X6_two (n : Nat) (M : Mem) (a1 : Int) (a2 : Int) (a3 : Int) : Rs := bd (m_X6_areTwo n M a1 a2) (fun r15 M14 => if I32 r15 then (if r15 = 0 then (m_X6_two_20 n M14 a1 a2 a3 (-1)) else (bd (m_X6_bound n M14 a3 1 30) (fun r19 M18 => m_X6_two_20 n M18 a1 a2 a3 r19))) else none)
theorem y_X6_two (n : Nat) (M : Mem) (a1 : Int) (a2 : Int) (a3 : Int) : Y RX6 cX6_two 6 9 0 none 0 [some (rv 137), some (iv a1), some (iv a2), some (iv a3), none, none] [] M (m_X6_two n M a1 a2 a3) := by
  unfold m_X6_two
  refine y_aload_n (pc := 0) dX6_two_0 rfl ?_
  refine y_iload_n (pc := 1) dX6_two_1 rfl ?_
  refine y_iload_n (pc := 2) dX6_two_2 rfl ?_
  refine y_callVi (pc := 3) v_X6_areTwo l_X6_314 dX6_two_3 (c_X6_areTwo n _ _ _) rfl rc_X6 rfl (by decide) (by decide) (Nat.le_of_ble_eq_true rfl) (fun r15 M14 _ => ?_)
  refine y_gd (fun h16 => ?_)
  refine y_if_ne (off := 7) (tgt := 13) (pc := 6) dX6_two_6 (by decide) h16 (fun h17 => ?_) (fun h17 => ?_)
  · refine y_iload_n (pc := 13) dX6_two_13 rfl ?_
    refine y_iconst (pc := 14) dX6_two_14 ?_
    refine y_bipush (pc := 15) dX6_two_15 (by decide) ?_
    refine y_callSi (pc := 17) s_X6_bound l_X6_165 dX6_two_17 (c_X6_bound n _ _ _ _) rfl rfl (by decide) (by decide) (Nat.le_of_ble_eq_true rfl) (fun r19 M18 _ => ?_)
    exact y_sub (ls_s (ls_s (ls_s (ls_s (ls_n (ls_n ls_0)))))) (t_X6_two_20 n M18 a1 a2 a3 r19)
  · refine y_iconst (pc := 9) dX6_two_9 ?_
    refine y_goto (tgt := 20) (pc := 10) dX6_two_10 (by decide) ?_
    exact y_sub (ls_s (ls_s (ls_s (ls_s (ls_n (ls_n ls_0)))))) (t_X6_two_20 n M14 a1 a2 a3 (-1))
theorem c_X6_two (n : Nat) (M : Mem) (a1 : Int) (a2 : Int) (a3 : Int) : ∀ res : Int × Mem, m_X6_two n M a1 a2 a3 = some res → CTi yX6_two cX6_two 6 (some .int) 9 [rv 137, iv a1, iv a2, iv a3] M res := CTi_of (by decide +kernel) rfl (Nat.le_of_ble_eq_true rfl) rfl (y_X6_two n M a1 a2 a3)
def m_X6_divisor_6 (n : Nat) : Nat → Mem → Int → Int → Rs
  | 0, _, _, _ => none
  | t + 1, M, a4, a6 => if I64 a6 then (if (cmpZ a6 0) = 0 then (some (a4, M)) else (if I64 a4 then (if a6 ≠ 0 then ((m_X6_divisor_6 n t) M a6 (Int.tmod a4 a6)) else none) else none)) else none
theorem t_X6_divisor_6 (n : Nat) : ∀ (t : Nat) (M : Mem) (a4 : Int) (a6 : Int), Y RX6 cX6_divisor 10 0 2 none 6 [none, none, none, none, some (jv a4), none, some (jv a6), none, none, none] [] M (m_X6_divisor_6 n t M a4 a6) := by
  intro t
  induction t with
  | zero => intro M a4 a6; exact y_none
  | succ t ih =>
    intro M a4 a6
    rewrite [m_X6_divisor_6]
    refine y_lload (pc := 6) dX6_divisor_6 rfl ?_
    refine y_lconst (a := 0) (pc := 8) dX6_divisor_8 (by decide) ?_
    refine y_gd (fun h1 => ?_)
    refine y_lcmp (pc := 9) dX6_divisor_9 h1 (by decide) ?_
    refine y_if_eq (off := 21) (tgt := 31) (pc := 10) dX6_divisor_10 (by decide) (cmp_rng _ _) (fun h2 => ?_) (fun h2 => ?_)
    · refine y_lload (pc := 31) dX6_divisor_31 rfl ?_
      exact y_lret (pc := 33) dX6_divisor_33
    · refine y_lload (pc := 13) dX6_divisor_13 rfl ?_
      refine y_lload (pc := 15) dX6_divisor_15 rfl ?_
      refine y_gd (fun h3 => ?_)
      refine y_gd (fun h4 => ?_)
      refine y_lrem (pc := 17) dX6_divisor_17 h3 h1 h4 ?_
      refine y_lstore (L' := [none, none, none, none, some (jv a4), none, some (jv a6), none, some (jv (Int.tmod a4 a6)), none]) (pc := 18) dX6_divisor_18 (by decide) rfl rfl ?_
      refine y_lload (pc := 20) dX6_divisor_20 rfl ?_
      refine y_lstore (L' := [none, none, none, none, some (jv a6), none, some (jv a6), none, some (jv (Int.tmod a4 a6)), none]) (pc := 22) dX6_divisor_22 (by decide) rfl rfl ?_
      refine y_lload (pc := 24) dX6_divisor_24 rfl ?_
      refine y_lstore (L' := [none, none, none, none, some (jv a6), none, some (jv (Int.tmod a4 a6)), none, some (jv (Int.tmod a4 a6)), none]) (pc := 26) dX6_divisor_26 (by decide) rfl rfl ?_
      refine y_goto (tgt := 6) (pc := 28) dX6_divisor_28 (by decide) ?_
      exact y_sub (ls_n (ls_n (ls_n (ls_n (ls_s (ls_n (ls_s (ls_n (ls_n (ls_n ls_0)))))))))) (ih M a6 (Int.tmod a4 a6))
def m_X6_divisor (n : Nat) (M : Mem) (a0 : Int) (a2 : Int) : Rs := m_X6_divisor_6 n n M a0 a2
theorem y_X6_divisor (n : Nat) (M : Mem) (a0 : Int) (a2 : Int) : Y RX6 cX6_divisor 10 0 2 none 0 [some (jv a0), none, some (jv a2), none, none, none, none, none, none, none] [] M (m_X6_divisor n M a0 a2) := by
  unfold m_X6_divisor
  refine y_lload_n (pc := 0) dX6_divisor_0 rfl ?_
  refine y_lstore (L' := [some (jv a0), none, some (jv a2), none, some (jv a0), none, none, none, none, none]) (pc := 1) dX6_divisor_1 (by decide) rfl rfl ?_
  refine y_lload_n (pc := 3) dX6_divisor_3 rfl ?_
  refine y_lstore (L' := [some (jv a0), none, some (jv a2), none, some (jv a0), none, some (jv a2), none, none, none]) (pc := 4) dX6_divisor_4 (by decide) rfl rfl ?_
  exact y_sub (ls_n (ls_n (ls_n (ls_n (ls_s (ls_n (ls_s (ls_n (ls_n (ls_n ls_0)))))))))) (t_X6_divisor_6 n n M a0 a2)
theorem c_X6_divisor (n : Nat) (M : Mem) (a0 : Int) (a2 : Int) : ∀ res : Int × Mem, m_X6_divisor n M a0 a2 = some res → CTl yX6_divisor cX6_divisor 10 0 [jv a0, jv a2] M res := CTl_of (by decide +kernel) rfl (Nat.le_of_ble_eq_true rfl) rfl (y_X6_divisor n M a0 a2)
def m_X6_partOf_10 (n : Nat) (M : Mem) (a0 : Int) (a2 : Int) (s0 : Int) : Rs := bd (m_X6_divisor n M a0 a2) (fun r2 M1 => if I64 s0 then (if I64 r2 then (if r2 ≠ 0 then (some ((Int.tdiv s0 r2), M1)) else none) else none) else none)
theorem t_X6_partOf_10 (n : Nat) (M : Mem) (a0 : Int) (a2 : Int) (s0 : Int) : Y RX6 cX6_partOf 5 1 2 none 10 [some (jv a0), none, some (jv a2), none, none] [jv s0] M (m_X6_partOf_10 n M a0 a2 s0) := by
  unfold m_X6_partOf_10
  refine y_lload_n (pc := 10) dX6_partOf_10 rfl ?_
  refine y_lload_n (pc := 11) dX6_partOf_11 rfl ?_
  refine y_callSl (pc := 12) s_X6_divisor l_X6_320 dX6_partOf_12 (c_X6_divisor n _ _ _) rfl rfl (by decide) (by decide) (Nat.le_of_ble_eq_true rfl) (fun r2 M1 _ => ?_)
  refine y_gd (fun h3 => ?_)
  refine y_gd (fun h4 => ?_)
  refine y_gd (fun h5 => ?_)
  refine y_ldiv (pc := 15) dX6_partOf_15 h3 h4 h5 ?_
  exact y_lret (pc := 16) dX6_partOf_16
def m_X6_partOf (n : Nat) (M : Mem) (a0 : Int) (a2 : Int) (a4 : Int) : Rs := if I32 a4 then (if a4 = 0 then (m_X6_partOf_10 n M a0 a2 a0) else (m_X6_partOf_10 n M a0 a2 a2)) else none
theorem y_X6_partOf (n : Nat) (M : Mem) (a0 : Int) (a2 : Int) (a4 : Int) : Y RX6 cX6_partOf 5 1 2 none 0 [some (jv a0), none, some (jv a2), none, some (iv a4)] [] M (m_X6_partOf n M a0 a2 a4) := by
  unfold m_X6_partOf
  refine y_iload (pc := 0) dX6_partOf_0 rfl ?_
  refine y_gd (fun h6 => ?_)
  refine y_if_ne (off := 7) (tgt := 9) (pc := 2) dX6_partOf_2 (by decide) h6 (fun h7 => ?_) (fun h7 => ?_)
  · refine y_lload_n (pc := 9) dX6_partOf_9 rfl ?_
    exact y_sub (ls_s (ls_n (ls_s (ls_n (ls_n ls_0))))) (t_X6_partOf_10 n M a0 a2 a2)
  · refine y_lload_n (pc := 5) dX6_partOf_5 rfl ?_
    refine y_goto (tgt := 10) (pc := 6) dX6_partOf_6 (by decide) ?_
    exact y_sub (ls_s (ls_n (ls_s (ls_n (ls_n ls_0))))) (t_X6_partOf_10 n M a0 a2 a0)
theorem c_X6_partOf (n : Nat) (M : Mem) (a0 : Int) (a2 : Int) (a4 : Int) : ∀ res : Int × Mem, m_X6_partOf n M a0 a2 a4 = some res → CTl yX6_partOf cX6_partOf 5 1 [jv a0, jv a2, iv a4] M res := CTl_of (by decide +kernel) rfl (Nat.le_of_ble_eq_true rfl) rfl (y_X6_partOf n M a0 a2 a4)
def m_X6_sun_199 (n : Nat) (k115 : Mem → Int → Int → Int → Int → Int → Int → Int → Int → Rs) (M : Mem) (a1 : Int) (a2 : Int) (a3 : Int) (a4 : Int) (a5 : Int) (a9 : Int) (a11 : Int) (s0 : Int) (s1 : Int) : Rs := bd (m_X6_forgets n M) (fun _ M1 => k115 M1 a1 a2 a3 a4 a5 (s1 + s0) a9 (a11 + 1))
theorem t_X6_sun_199 (n : Nat) (k115 : Mem → Int → Int → Int → Int → Int → Int → Int → Int → Rs) (hk115 : ∀ (M : Mem) (a1 : Int) (a2 : Int) (a3 : Int) (a4 : Int) (a5 : Int) (a7 : Int) (a9 : Int) (a11 : Int), Y RX6 cX6_sun 15 7 2 none 115 [some (rv 137), some (iv a1), some (iv a2), some (iv a3), some (iv a4), some (iv a5), none, some (jv a7), none, some (jv a9), none, some (iv a11), none, none, none] [] M (k115 M a1 a2 a3 a4 a5 a7 a9 a11)) (M : Mem) (a1 : Int) (a2 : Int) (a3 : Int) (a4 : Int) (a5 : Int) (a9 : Int) (a11 : Int) (s0 : Int) (s1 : Int) : Y RX6 cX6_sun 15 7 2 none 199 [some (rv 137), some (iv a1), some (iv a2), some (iv a3), some (iv a4), some (iv a5), none, none, none, some (jv a9), none, some (iv a11), none, none, none] [jv s0, jv s1] M (m_X6_sun_199 n k115 M a1 a2 a3 a4 a5 a9 a11 s0 s1) := by
  unfold m_X6_sun_199
  refine y_ladd (pc := 199) dX6_sun_199 ?_
  refine y_lstore (L' := [some (rv 137), some (iv a1), some (iv a2), some (iv a3), some (iv a4), some (iv a5), none, some (jv (s1 + s0)), none, some (jv a9), none, some (iv a11), none, none, none]) (pc := 200) dX6_sun_200 (by decide) rfl rfl ?_
  refine y_aload_n (pc := 202) dX6_sun_202 rfl ?_
  refine y_callVv (pc := 203) v_X6_forgets l_X6_283 dX6_sun_203 (c_X6_forgets n _) rfl rc_X6 rfl (by decide) (by decide) (Nat.le_of_ble_eq_true rfl) (fun _ M1 _ => ?_)
  refine y_iinc (L' := [some (rv 137), some (iv a1), some (iv a2), some (iv a3), some (iv a4), some (iv a5), none, some (jv (s1 + s0)), none, some (jv a9), none, some (iv (a11 + 1)), none, none, none]) (pc := 206) dX6_sun_206 rfl (by decide) rfl rfl ?_
  refine y_goto (tgt := 115) (pc := 209) dX6_sun_209 (by decide) ?_
  exact y_sub (ls_s (ls_s (ls_s (ls_s (ls_s (ls_s (ls_n (ls_s (ls_n (ls_s (ls_n (ls_s (ls_n (ls_n (ls_n ls_0))))))))))))))) (hk115 M1 a1 a2 a3 a4 a5 (s1 + s0) a9 (a11 + 1))
def m_X6_sun_168 (n : Nat) (k133 : Mem → Int → Int → Int → Int → Int → Int → Int → Int → Int → Int → Rs) (M : Mem) (a1 : Int) (a2 : Int) (a3 : Int) (a4 : Int) (a5 : Int) (a7 : Int) (a9 : Int) (a11 : Int) (a14 : Int) (s0 : Int) (s1 : Int) : Rs := bd (m_X6_goesHour n M) (fun _ M2 => k133 M2 a1 a2 a3 a4 a5 a7 a9 a11 (s1 * s0) (a14 + 1))
theorem t_X6_sun_168 (n : Nat) (k133 : Mem → Int → Int → Int → Int → Int → Int → Int → Int → Int → Int → Rs) (hk133 : ∀ (M : Mem) (a1 : Int) (a2 : Int) (a3 : Int) (a4 : Int) (a5 : Int) (a7 : Int) (a9 : Int) (a11 : Int) (a12 : Int) (a14 : Int), Y RX6 cX6_sun 15 7 2 none 133 [some (rv 137), some (iv a1), some (iv a2), some (iv a3), some (iv a4), some (iv a5), none, some (jv a7), none, some (jv a9), none, some (iv a11), some (jv a12), none, some (iv a14)] [] M (k133 M a1 a2 a3 a4 a5 a7 a9 a11 a12 a14)) (M : Mem) (a1 : Int) (a2 : Int) (a3 : Int) (a4 : Int) (a5 : Int) (a7 : Int) (a9 : Int) (a11 : Int) (a14 : Int) (s0 : Int) (s1 : Int) : Y RX6 cX6_sun 15 7 2 none 168 [some (rv 137), some (iv a1), some (iv a2), some (iv a3), some (iv a4), some (iv a5), none, some (jv a7), none, some (jv a9), none, some (iv a11), none, none, some (iv a14)] [jv s0, jv s1] M (m_X6_sun_168 n k133 M a1 a2 a3 a4 a5 a7 a9 a11 a14 s0 s1) := by
  unfold m_X6_sun_168
  refine y_lmul (pc := 168) dX6_sun_168 ?_
  refine y_lstore (L' := [some (rv 137), some (iv a1), some (iv a2), some (iv a3), some (iv a4), some (iv a5), none, some (jv a7), none, some (jv a9), none, some (iv a11), some (jv (s1 * s0)), none, some (iv a14)]) (pc := 169) dX6_sun_169 (by decide) rfl rfl ?_
  refine y_aload_n (pc := 171) dX6_sun_171 rfl ?_
  refine y_callVv (pc := 172) v_X6_goesHour l_X6_162 dX6_sun_172 (c_X6_goesHour n _) rfl rc_X6 rfl (by decide) (by decide) (Nat.le_of_ble_eq_true rfl) (fun _ M2 _ => ?_)
  refine y_iinc (L' := [some (rv 137), some (iv a1), some (iv a2), some (iv a3), some (iv a4), some (iv a5), none, some (jv a7), none, some (jv a9), none, some (iv a11), some (jv (s1 * s0)), none, some (iv (a14 + 1))]) (pc := 175) dX6_sun_175 rfl (by decide) rfl rfl ?_
  refine y_goto (tgt := 133) (pc := 178) dX6_sun_178 (by decide) ?_
  exact y_sub (ls_s (ls_s (ls_s (ls_s (ls_s (ls_s (ls_n (ls_s (ls_n (ls_s (ls_n (ls_s (ls_s (ls_n (ls_s ls_0))))))))))))))) (hk133 M2 a1 a2 a3 a4 a5 a7 a9 a11 (s1 * s0) (a14 + 1))
def m_X6_sun_133 (n : Nat) (k115 : Mem → Int → Int → Int → Int → Int → Int → Int → Int → Rs) : Nat → Mem → Int → Int → Int → Int → Int → Int → Int → Int → Int → Int → Rs
  | 0, _, _, _, _, _, _, _, _, _, _, _ => none
  | t + 1, M, a1, a2, a3, a4, a5, a7, a9, a11, a12, a14 => if I32 a14 then (if I32 a3 then (if a3 ≤ a14 then (if 0 ≤ a2 ∧ a2 < 8 then (if I32 a1 then (if (rd M 143 (Int.toNat a2)) = a1 then (m_X6_sun_199 n k115 M a1 a2 a3 a4 a5 a9 a11 a12 a7) else (m_X6_sun_199 n k115 M a1 a2 a3 a4 a5 a9 a11 0 a7)) else none) else none) else (bd (m_X6_has n M a11 a14) (fun r10 M9 => if r10 = 0 ∨ r10 = 1 then (wr M9 137 21 r10 (fun M12 => if (rd M12 137 21) = 0 then (if I32 (a4 - 1) then (m_X6_sun_168 n (m_X6_sun_133 n k115 t) M12 a1 a2 a3 a4 a5 a7 a9 a11 a14 (a4 - 1) a12) else none) else (m_X6_sun_168 n (m_X6_sun_133 n k115 t) M12 a1 a2 a3 a4 a5 a7 a9 a11 a14 1 a12))) else none))) else none) else none
theorem t_X6_sun_133 (n : Nat) (k115 : Mem → Int → Int → Int → Int → Int → Int → Int → Int → Rs) (hk115 : ∀ (M : Mem) (a1 : Int) (a2 : Int) (a3 : Int) (a4 : Int) (a5 : Int) (a7 : Int) (a9 : Int) (a11 : Int), Y RX6 cX6_sun 15 7 2 none 115 [some (rv 137), some (iv a1), some (iv a2), some (iv a3), some (iv a4), some (iv a5), none, some (jv a7), none, some (jv a9), none, some (iv a11), none, none, none] [] M (k115 M a1 a2 a3 a4 a5 a7 a9 a11)) : ∀ (t : Nat) (M : Mem) (a1 : Int) (a2 : Int) (a3 : Int) (a4 : Int) (a5 : Int) (a7 : Int) (a9 : Int) (a11 : Int) (a12 : Int) (a14 : Int), Y RX6 cX6_sun 15 7 2 none 133 [some (rv 137), some (iv a1), some (iv a2), some (iv a3), some (iv a4), some (iv a5), none, some (jv a7), none, some (jv a9), none, some (iv a11), some (jv a12), none, some (iv a14)] [] M (m_X6_sun_133 n k115 t M a1 a2 a3 a4 a5 a7 a9 a11 a12 a14) := by
  intro t
  induction t with
  | zero => intro M a1 a2 a3 a4 a5 a7 a9 a11 a12 a14; exact y_none
  | succ t ih =>
    intro M a1 a2 a3 a4 a5 a7 a9 a11 a12 a14
    rewrite [m_X6_sun_133]
    refine y_iload (pc := 133) dX6_sun_133 rfl ?_
    refine y_iload_n (pc := 135) dX6_sun_135 rfl ?_
    refine y_gd (fun h3 => ?_)
    refine y_gd (fun h4 => ?_)
    refine y_icmp_ge (off := 45) (tgt := 181) (pc := 136) dX6_sun_136 (by decide) h3 h4 (fun h5 => ?_) (fun h5 => ?_)
    · refine y_lload (pc := 181) dX6_sun_181 rfl ?_
      refine y_aload_n (pc := 183) dX6_sun_183 rfl ?_
      refine y_getref (pc := 184) (x := 143) g_X6_28 dX6_sun_184 ?_
      refine y_iload_n (pc := 187) dX6_sun_187 rfl ?_
      refine y_gd (fun h6 => ?_)
      refine y_iald (pc := 188) dX6_sun_188 ar_143 h6 ?_
      refine y_iload_n (pc := 189) dX6_sun_189 rfl ?_
      refine y_gd (fun h7 => ?_)
      refine y_icmp_ne (off := 8) (tgt := 198) (pc := 190) dX6_sun_190 (by decide) (rd_rng _ _ _) h7 (fun h8 => ?_) (fun h8 => ?_)
      · refine y_lconst (a := 0) (pc := 198) dX6_sun_198 (by decide) ?_
        exact y_sub (ls_s (ls_s (ls_s (ls_s (ls_s (ls_s (ls_n (ls_n (ls_n (ls_s (ls_n (ls_s (ls_n (ls_n (ls_n ls_0))))))))))))))) (t_X6_sun_199 n k115 hk115 M a1 a2 a3 a4 a5 a9 a11 0 a7)
      · refine y_lload (pc := 193) dX6_sun_193 rfl ?_
        refine y_goto (tgt := 199) (pc := 195) dX6_sun_195 (by decide) ?_
        exact y_sub (ls_s (ls_s (ls_s (ls_s (ls_s (ls_s (ls_n (ls_n (ls_n (ls_s (ls_n (ls_s (ls_n (ls_n (ls_n ls_0))))))))))))))) (t_X6_sun_199 n k115 hk115 M a1 a2 a3 a4 a5 a9 a11 a12 a7)
    · refine y_aload_n (pc := 139) dX6_sun_139 rfl ?_
      refine y_iload (pc := 140) dX6_sun_140 rfl ?_
      refine y_iload (pc := 142) dX6_sun_142 rfl ?_
      refine y_callSi (pc := 144) s_X6_has l_X6_292 dX6_sun_144 (c_X6_has n _ _ _) rfl rfl (by decide) (by decide) (Nat.le_of_ble_eq_true rfl) (fun r10 M9 _ => ?_)
      refine y_gd (fun h11 => ?_)
      refine y_putboolw (pc := 147) pf_X6_103 h11 dX6_sun_147 (fun M12 => ?_)
      refine y_lload (pc := 150) dX6_sun_150 rfl ?_
      refine y_aload_n (pc := 152) dX6_sun_152 rfl ?_
      refine y_getint (pc := 153) g_X6_103 dX6_sun_153 ?_
      refine y_if_eq (off := 7) (tgt := 163) (pc := 156) dX6_sun_156 (by decide) (rd_rng _ _ _) (fun h13 => ?_) (fun h13 => ?_)
      · refine y_iload (pc := 163) dX6_sun_163 rfl ?_
        refine y_iconst (pc := 165) dX6_sun_165 ?_
        refine y_isub (pc := 166) dX6_sun_166 ?_
        refine y_gd (fun h14 => ?_)
        refine y_i2l (pc := 167) dX6_sun_167 h14 ?_
        exact y_sub (ls_s (ls_s (ls_s (ls_s (ls_s (ls_s (ls_n (ls_s (ls_n (ls_s (ls_n (ls_s (ls_n (ls_n (ls_s ls_0))))))))))))))) (t_X6_sun_168 n (m_X6_sun_133 n k115 t) ih M12 a1 a2 a3 a4 a5 a7 a9 a11 a14 (a4 - 1) a12)
      · refine y_lconst (a := 1) (pc := 159) dX6_sun_159 (by decide) ?_
        refine y_goto (tgt := 168) (pc := 160) dX6_sun_160 (by decide) ?_
        exact y_sub (ls_s (ls_s (ls_s (ls_s (ls_s (ls_s (ls_n (ls_s (ls_n (ls_s (ls_n (ls_s (ls_n (ls_n (ls_s ls_0))))))))))))))) (t_X6_sun_168 n (m_X6_sun_133 n k115 t) ih M12 a1 a2 a3 a4 a5 a7 a9 a11 a14 1 a12)
def m_X6_sun_115 (n : Nat) : Nat → Mem → Int → Int → Int → Int → Int → Int → Int → Int → Rs
  | 0, _, _, _, _, _, _, _, _, _ => none
  | t + 1, M, a1, a2, a3, a4, a5, a7, a9, a11 => if I32 a11 then (if I32 (bShl 1 a3) then (if (bShl 1 a3) ≤ a11 then (bd (m_X6_partOf n M a7 a9 a5) (fun r19 M18 => some (r19, M18))) else (bd (m_X6_minds n M) (fun _ M20 => m_X6_sun_133 n (m_X6_sun_115 n t) n M20 a1 a2 a3 a4 a5 a7 a9 a11 1 0))) else none) else none
theorem t_X6_sun_115 (n : Nat) : ∀ (t : Nat) (M : Mem) (a1 : Int) (a2 : Int) (a3 : Int) (a4 : Int) (a5 : Int) (a7 : Int) (a9 : Int) (a11 : Int), Y RX6 cX6_sun 15 7 2 none 115 [some (rv 137), some (iv a1), some (iv a2), some (iv a3), some (iv a4), some (iv a5), none, some (jv a7), none, some (jv a9), none, some (iv a11), none, none, none] [] M (m_X6_sun_115 n t M a1 a2 a3 a4 a5 a7 a9 a11) := by
  intro t
  induction t with
  | zero => intro M a1 a2 a3 a4 a5 a7 a9 a11; exact y_none
  | succ t ih =>
    intro M a1 a2 a3 a4 a5 a7 a9 a11
    rewrite [m_X6_sun_115]
    refine y_iload (pc := 115) dX6_sun_115 rfl ?_
    refine y_iconst (pc := 117) dX6_sun_117 ?_
    refine y_iload_n (pc := 118) dX6_sun_118 rfl ?_
    refine y_ishl (pc := 119) dX6_sun_119 ?_
    refine y_gd (fun h15 => ?_)
    refine y_gd (fun h16 => ?_)
    refine y_icmp_ge (off := 92) (tgt := 212) (pc := 120) dX6_sun_120 (by decide) h15 h16 (fun h17 => ?_) (fun h17 => ?_)
    · refine y_lload (pc := 212) dX6_sun_212 rfl ?_
      refine y_lload (pc := 214) dX6_sun_214 rfl ?_
      refine y_iload (pc := 216) dX6_sun_216 rfl ?_
      refine y_callSl (pc := 218) s_X6_partOf l_X6_328 dX6_sun_218 (c_X6_partOf n _ _ _ _) rfl rfl (by decide) (by decide) (Nat.le_of_ble_eq_true rfl) (fun r19 M18 _ => ?_)
      exact y_lret (pc := 221) dX6_sun_221
    · refine y_aload_n (pc := 123) dX6_sun_123 rfl ?_
      refine y_callVv (pc := 124) v_X6_minds l_X6_280 dX6_sun_124 (c_X6_minds n _) rfl rc_X6 rfl (by decide) (by decide) (Nat.le_of_ble_eq_true rfl) (fun _ M20 _ => ?_)
      refine y_lconst (a := 1) (pc := 127) dX6_sun_127 (by decide) ?_
      refine y_lstore (L' := [some (rv 137), some (iv a1), some (iv a2), some (iv a3), some (iv a4), some (iv a5), none, some (jv a7), none, some (jv a9), none, some (iv a11), some (jv 1), none, none]) (pc := 128) dX6_sun_128 (by decide) rfl rfl ?_
      refine y_iconst (pc := 130) dX6_sun_130 ?_
      refine y_istore (L' := [some (rv 137), some (iv a1), some (iv a2), some (iv a3), some (iv a4), some (iv a5), none, some (jv a7), none, some (jv a9), none, some (iv a11), some (jv 1), none, some (iv 0)]) (pc := 131) dX6_sun_131 (by decide) rfl rfl ?_
      exact y_sub (ls_s (ls_s (ls_s (ls_s (ls_s (ls_s (ls_n (ls_s (ls_n (ls_s (ls_n (ls_s (ls_s (ls_n (ls_s ls_0))))))))))))))) (t_X6_sun_133 n (m_X6_sun_115 n t) ih n M20 a1 a2 a3 a4 a5 a7 a9 a11 1 0)
def m_X6_sun_92 (n : Nat) : Nat → Mem → Int → Int → Int → Int → Int → Int → Int → Int → Rs
  | 0, _, _, _, _, _, _, _, _, _ => none
  | t + 1, M, a1, a2, a3, a4, a5, a7, a9, a11 => if I32 a11 then (if I32 a3 then (if a3 ≤ a11 then (m_X6_sun_115 n n M a1 a2 a3 a4 a5 a7 a9 0) else (if I32 a4 then ((m_X6_sun_92 n t) M a1 a2 a3 a4 a5 a7 (a9 * a4) (a11 + 1)) else none)) else none) else none
theorem t_X6_sun_92 (n : Nat) : ∀ (t : Nat) (M : Mem) (a1 : Int) (a2 : Int) (a3 : Int) (a4 : Int) (a5 : Int) (a7 : Int) (a9 : Int) (a11 : Int), Y RX6 cX6_sun 15 7 2 none 92 [some (rv 137), some (iv a1), some (iv a2), some (iv a3), some (iv a4), some (iv a5), none, some (jv a7), none, some (jv a9), none, some (iv a11), none, none, none] [] M (m_X6_sun_92 n t M a1 a2 a3 a4 a5 a7 a9 a11) := by
  intro t
  induction t with
  | zero => intro M a1 a2 a3 a4 a5 a7 a9 a11; exact y_none
  | succ t ih =>
    intro M a1 a2 a3 a4 a5 a7 a9 a11
    rewrite [m_X6_sun_92]
    refine y_iload (pc := 92) dX6_sun_92 rfl ?_
    refine y_iload_n (pc := 94) dX6_sun_94 rfl ?_
    refine y_gd (fun h21 => ?_)
    refine y_gd (fun h22 => ?_)
    refine y_icmp_ge (off := 17) (tgt := 112) (pc := 95) dX6_sun_95 (by decide) h21 h22 (fun h23 => ?_) (fun h23 => ?_)
    · refine y_iconst (pc := 112) dX6_sun_112 ?_
      refine y_istore (L' := [some (rv 137), some (iv a1), some (iv a2), some (iv a3), some (iv a4), some (iv a5), none, some (jv a7), none, some (jv a9), none, some (iv 0), none, none, none]) (pc := 113) dX6_sun_113 (by decide) rfl rfl ?_
      exact y_sub (ls_s (ls_s (ls_s (ls_s (ls_s (ls_s (ls_n (ls_s (ls_n (ls_s (ls_n (ls_s (ls_n (ls_n (ls_n ls_0))))))))))))))) (t_X6_sun_115 n n M a1 a2 a3 a4 a5 a7 a9 0)
    · refine y_lload (pc := 98) dX6_sun_98 rfl ?_
      refine y_iload (pc := 100) dX6_sun_100 rfl ?_
      refine y_gd (fun h24 => ?_)
      refine y_i2l (pc := 102) dX6_sun_102 h24 ?_
      refine y_lmul (pc := 103) dX6_sun_103 ?_
      refine y_lstore (L' := [some (rv 137), some (iv a1), some (iv a2), some (iv a3), some (iv a4), some (iv a5), none, some (jv a7), none, some (jv (a9 * a4)), none, some (iv a11), none, none, none]) (pc := 104) dX6_sun_104 (by decide) rfl rfl ?_
      refine y_iinc (L' := [some (rv 137), some (iv a1), some (iv a2), some (iv a3), some (iv a4), some (iv a5), none, some (jv a7), none, some (jv (a9 * a4)), none, some (iv (a11 + 1)), none, none, none]) (pc := 106) dX6_sun_106 rfl (by decide) rfl rfl ?_
      refine y_goto (tgt := 92) (pc := 109) dX6_sun_109 (by decide) ?_
      exact y_sub (ls_s (ls_s (ls_s (ls_s (ls_s (ls_s (ls_n (ls_s (ls_n (ls_s (ls_n (ls_s (ls_n (ls_n (ls_n ls_0))))))))))))))) (ih M a1 a2 a3 a4 a5 a7 (a9 * a4) (a11 + 1))
def m_X6_sun_69 (n : Nat) (M : Mem) (a1 : Int) (a2 : Int) (a3 : Int) (a4 : Int) (a5 : Int) (s0 : Int) : Rs := if I32 s0 then (if s0 = 0 then (m_X6_sun_92 n n M a1 a2 a3 a4 a5 0 1 0) else (bd (m_X6_lowestOf n M s0) (fun r28 M27 => some (r28, M27)))) else none
theorem t_X6_sun_69 (n : Nat) (M : Mem) (a1 : Int) (a2 : Int) (a3 : Int) (a4 : Int) (a5 : Int) (s0 : Int) : Y RX6 cX6_sun 15 7 2 none 69 [some (rv 137), some (iv a1), some (iv a2), some (iv a3), some (iv a4), some (iv a5), none, none, none, none, none, none, none, none, none] [iv s0] M (m_X6_sun_69 n M a1 a2 a3 a4 a5 s0) := by
  unfold m_X6_sun_69
  refine y_istore (L' := [some (rv 137), some (iv a1), some (iv a2), some (iv a3), some (iv a4), some (iv a5), some (iv s0), none, none, none, none, none, none, none, none]) (pc := 69) dX6_sun_69 (by decide) rfl rfl ?_
  refine y_iload (pc := 71) dX6_sun_71 rfl ?_
  refine y_gd (fun h25 => ?_)
  refine y_if_eq (off := 10) (tgt := 83) (pc := 73) dX6_sun_73 (by decide) h25 (fun h26 => ?_) (fun h26 => ?_)
  · refine y_lconst (a := 0) (pc := 83) dX6_sun_83 (by decide) ?_
    refine y_lstore (L' := [some (rv 137), some (iv a1), some (iv a2), some (iv a3), some (iv a4), some (iv a5), some (iv s0), some (jv 0), none, none, none, none, none, none, none]) (pc := 84) dX6_sun_84 (by decide) rfl rfl ?_
    refine y_lconst (a := 1) (pc := 86) dX6_sun_86 (by decide) ?_
    refine y_lstore (L' := [some (rv 137), some (iv a1), some (iv a2), some (iv a3), some (iv a4), some (iv a5), some (iv s0), some (jv 0), none, some (jv 1), none, none, none, none, none]) (pc := 87) dX6_sun_87 (by decide) rfl rfl ?_
    refine y_iconst (pc := 89) dX6_sun_89 ?_
    refine y_istore (L' := [some (rv 137), some (iv a1), some (iv a2), some (iv a3), some (iv a4), some (iv a5), some (iv s0), some (jv 0), none, some (jv 1), none, some (iv 0), none, none, none]) (pc := 90) dX6_sun_90 (by decide) rfl rfl ?_
    exact y_sub (ls_s (ls_s (ls_s (ls_s (ls_s (ls_s (ls_n (ls_s (ls_n (ls_s (ls_n (ls_s (ls_n (ls_n (ls_n ls_0))))))))))))))) (t_X6_sun_92 n n M a1 a2 a3 a4 a5 0 1 0)
  · refine y_aload_n (pc := 76) dX6_sun_76 rfl ?_
    refine y_iload (pc := 77) dX6_sun_77 rfl ?_
    refine y_callVl (pc := 79) v_X6_lowestOf l_X6_324 dX6_sun_79 (c_X6_lowestOf n _ _) rfl rc_X6 rfl (by decide) (by decide) (Nat.le_of_ble_eq_true rfl) (fun r28 M27 _ => ?_)
    exact y_lret (pc := 82) dX6_sun_82
def m_X6_sun_48 (n : Nat) (M : Mem) (a1 : Int) (a2 : Int) (a3 : Int) (a4 : Int) (a5 : Int) : Rs := m_X6_sun_69 n M a1 a2 a3 a4 a5 (-6)
theorem t_X6_sun_48 (n : Nat) (M : Mem) (a1 : Int) (a2 : Int) (a3 : Int) (a4 : Int) (a5 : Int) : Y RX6 cX6_sun 15 7 2 none 48 [some (rv 137), some (iv a1), some (iv a2), some (iv a3), some (iv a4), some (iv a5), none, none, none, none, none, none, none, none, none] [] M (m_X6_sun_48 n M a1 a2 a3 a4 a5) := by
  unfold m_X6_sun_48
  refine y_bipush (pc := 48) dX6_sun_48 (by decide) ?_
  refine y_goto (tgt := 69) (pc := 50) dX6_sun_50 (by decide) ?_
  exact y_sub (ls_s (ls_s (ls_s (ls_s (ls_s (ls_s (ls_n (ls_n (ls_n (ls_n (ls_n (ls_n (ls_n (ls_n (ls_n ls_0))))))))))))))) (t_X6_sun_69 n M a1 a2 a3 a4 a5 (-6))
def m_X6_sun_30 (n : Nat) (M : Mem) (a1 : Int) (a2 : Int) (a3 : Int) (a4 : Int) (a5 : Int) : Rs := m_X6_sun_69 n M a1 a2 a3 a4 a5 (-4)
theorem t_X6_sun_30 (n : Nat) (M : Mem) (a1 : Int) (a2 : Int) (a3 : Int) (a4 : Int) (a5 : Int) : Y RX6 cX6_sun 15 7 2 none 30 [some (rv 137), some (iv a1), some (iv a2), some (iv a3), some (iv a4), some (iv a5), none, none, none, none, none, none, none, none, none] [] M (m_X6_sun_30 n M a1 a2 a3 a4 a5) := by
  unfold m_X6_sun_30
  refine y_bipush (pc := 30) dX6_sun_30 (by decide) ?_
  refine y_goto (tgt := 69) (pc := 32) dX6_sun_32 (by decide) ?_
  exact y_sub (ls_s (ls_s (ls_s (ls_s (ls_s (ls_s (ls_n (ls_n (ls_n (ls_n (ls_n (ls_n (ls_n (ls_n (ls_n ls_0))))))))))))))) (t_X6_sun_69 n M a1 a2 a3 a4 a5 (-4))
def m_X6_sun_16 (n : Nat) (M : Mem) (a1 : Int) (a2 : Int) (a3 : Int) (a4 : Int) (a5 : Int) : Rs := m_X6_sun_69 n M a1 a2 a3 a4 a5 (-1)
theorem t_X6_sun_16 (n : Nat) (M : Mem) (a1 : Int) (a2 : Int) (a3 : Int) (a4 : Int) (a5 : Int) : Y RX6 cX6_sun 15 7 2 none 16 [some (rv 137), some (iv a1), some (iv a2), some (iv a3), some (iv a4), some (iv a5), none, none, none, none, none, none, none, none, none] [] M (m_X6_sun_16 n M a1 a2 a3 a4 a5) := by
  unfold m_X6_sun_16
  refine y_iconst (pc := 16) dX6_sun_16 ?_
  refine y_goto (tgt := 69) (pc := 17) dX6_sun_17 (by decide) ?_
  exact y_sub (ls_s (ls_s (ls_s (ls_s (ls_s (ls_s (ls_n (ls_n (ls_n (ls_n (ls_n (ls_n (ls_n (ls_n (ls_n ls_0))))))))))))))) (t_X6_sun_69 n M a1 a2 a3 a4 a5 (-1))
def m_X6_sun (n : Nat) (M : Mem) (a1 : Int) (a2 : Int) (a3 : Int) (a4 : Int) (a5 : Int) : Rs := bd (m_X6_isPerson n M a1) (fun r30 M29 => if I32 r30 then (if r30 = 0 then (m_X6_sun_16 n M29 a1 a2 a3 a4 a5) else (bd (m_X6_isThing n M29 a2) (fun r34 M33 => if I32 r34 then (if r34 = 0 then (m_X6_sun_16 n M33 a1 a2 a3 a4 a5) else (if I32 a3 then (if a3 < 0 then (m_X6_sun_30 n M33 a1 a2 a3 a4 a5) else (if I32 a4 then (if 2 ≤ a4 then (if 7 < a3 then (m_X6_sun_48 n M33 a1 a2 a3 a4 a5) else (if a4 ≤ 20 then (bd (m_X6_isIn n M33 a5 0 1) (fun r44 M43 => if I32 r44 then (if r44 = 0 then (m_X6_sun_69 n M43 a1 a2 a3 a4 a5 (-2)) else (m_X6_sun_69 n M43 a1 a2 a3 a4 a5 0)) else none)) else (m_X6_sun_48 n M33 a1 a2 a3 a4 a5))) else (m_X6_sun_30 n M33 a1 a2 a3 a4 a5)) else none)) else none)) else none))) else none)
theorem y_X6_sun (n : Nat) (M : Mem) (a1 : Int) (a2 : Int) (a3 : Int) (a4 : Int) (a5 : Int) : Y RX6 cX6_sun 15 7 2 none 0 [some (rv 137), some (iv a1), some (iv a2), some (iv a3), some (iv a4), some (iv a5), none, none, none, none, none, none, none, none, none] [] M (m_X6_sun n M a1 a2 a3 a4 a5) := by
  unfold m_X6_sun
  refine y_aload_n (pc := 0) dX6_sun_0 rfl ?_
  refine y_iload_n (pc := 1) dX6_sun_1 rfl ?_
  refine y_callVi (pc := 2) v_X6_isPerson l_X6_92 dX6_sun_2 (c_X6_isPerson n _ _) rfl rc_X6 rfl (by decide) (by decide) (Nat.le_of_ble_eq_true rfl) (fun r30 M29 _ => ?_)
  refine y_gd (fun h31 => ?_)
  refine y_if_eq (off := 11) (tgt := 16) (pc := 5) dX6_sun_5 (by decide) h31 (fun h32 => ?_) (fun h32 => ?_)
  · exact y_sub (ls_s (ls_s (ls_s (ls_s (ls_s (ls_s (ls_n (ls_n (ls_n (ls_n (ls_n (ls_n (ls_n (ls_n (ls_n ls_0))))))))))))))) (t_X6_sun_16 n M29 a1 a2 a3 a4 a5)
  · refine y_aload_n (pc := 8) dX6_sun_8 rfl ?_
    refine y_iload_n (pc := 9) dX6_sun_9 rfl ?_
    refine y_callVi (pc := 10) v_X6_isThing l_X6_207 dX6_sun_10 (c_X6_isThing n _ _) rfl rc_X6 rfl (by decide) (by decide) (Nat.le_of_ble_eq_true rfl) (fun r34 M33 _ => ?_)
    refine y_gd (fun h35 => ?_)
    refine y_if_ne (off := 7) (tgt := 20) (pc := 13) dX6_sun_13 (by decide) h35 (fun h36 => ?_) (fun h36 => ?_)
    · refine y_iload_n (pc := 20) dX6_sun_20 rfl ?_
      refine y_gd (fun h37 => ?_)
      refine y_if_lt (off := 9) (tgt := 30) (pc := 21) dX6_sun_21 (by decide) h37 (fun h38 => ?_) (fun h38 => ?_)
      · exact y_sub (ls_s (ls_s (ls_s (ls_s (ls_s (ls_s (ls_n (ls_n (ls_n (ls_n (ls_n (ls_n (ls_n (ls_n (ls_n ls_0))))))))))))))) (t_X6_sun_30 n M33 a1 a2 a3 a4 a5)
      · refine y_iload (pc := 24) dX6_sun_24 rfl ?_
        refine y_iconst (pc := 26) dX6_sun_26 ?_
        refine y_gd (fun h39 => ?_)
        refine y_icmp_ge (off := 8) (tgt := 35) (pc := 27) dX6_sun_27 (by decide) h39 (by decide) (fun h40 => ?_) (fun h40 => ?_)
        · refine y_iload_n (pc := 35) dX6_sun_35 rfl ?_
          refine y_bipush (pc := 36) dX6_sun_36 (by decide) ?_
          refine y_icmp_gt (off := 10) (tgt := 48) (pc := 38) dX6_sun_38 (by decide) h37 (by decide) (fun h41 => ?_) (fun h41 => ?_)
          · exact y_sub (ls_s (ls_s (ls_s (ls_s (ls_s (ls_s (ls_n (ls_n (ls_n (ls_n (ls_n (ls_n (ls_n (ls_n (ls_n ls_0))))))))))))))) (t_X6_sun_48 n M33 a1 a2 a3 a4 a5)
          · refine y_iload (pc := 41) dX6_sun_41 rfl ?_
            refine y_bipush (pc := 43) dX6_sun_43 (by decide) ?_
            refine y_icmp_le (off := 8) (tgt := 53) (pc := 45) dX6_sun_45 (by decide) h39 (by decide) (fun h42 => ?_) (fun h42 => ?_)
            · refine y_iload (pc := 53) dX6_sun_53 rfl ?_
              refine y_iconst (pc := 55) dX6_sun_55 ?_
              refine y_iconst (pc := 56) dX6_sun_56 ?_
              refine y_callSi (pc := 57) s_X6_isIn l_X6_82 dX6_sun_57 (c_X6_isIn n _ _ _ _) rfl rfl (by decide) (by decide) (Nat.le_of_ble_eq_true rfl) (fun r44 M43 _ => ?_)
              refine y_gd (fun h45 => ?_)
              refine y_if_ne (off := 8) (tgt := 68) (pc := 60) dX6_sun_60 (by decide) h45 (fun h46 => ?_) (fun h46 => ?_)
              · refine y_iconst (pc := 68) dX6_sun_68 ?_
                exact y_sub (ls_s (ls_s (ls_s (ls_s (ls_s (ls_s (ls_n (ls_n (ls_n (ls_n (ls_n (ls_n (ls_n (ls_n (ls_n ls_0))))))))))))))) (t_X6_sun_69 n M43 a1 a2 a3 a4 a5 0)
              · refine y_bipush (pc := 63) dX6_sun_63 (by decide) ?_
                refine y_goto (tgt := 69) (pc := 65) dX6_sun_65 (by decide) ?_
                exact y_sub (ls_s (ls_s (ls_s (ls_s (ls_s (ls_s (ls_n (ls_n (ls_n (ls_n (ls_n (ls_n (ls_n (ls_n (ls_n ls_0))))))))))))))) (t_X6_sun_69 n M43 a1 a2 a3 a4 a5 (-2))
            · exact y_sub (ls_s (ls_s (ls_s (ls_s (ls_s (ls_s (ls_n (ls_n (ls_n (ls_n (ls_n (ls_n (ls_n (ls_n (ls_n ls_0))))))))))))))) (t_X6_sun_48 n M33 a1 a2 a3 a4 a5)
        · exact y_sub (ls_s (ls_s (ls_s (ls_s (ls_s (ls_s (ls_n (ls_n (ls_n (ls_n (ls_n (ls_n (ls_n (ls_n (ls_n ls_0))))))))))))))) (t_X6_sun_30 n M33 a1 a2 a3 a4 a5)
    · exact y_sub (ls_s (ls_s (ls_s (ls_s (ls_s (ls_s (ls_n (ls_n (ls_n (ls_n (ls_n (ls_n (ls_n (ls_n (ls_n ls_0))))))))))))))) (t_X6_sun_16 n M33 a1 a2 a3 a4 a5)
theorem c_X6_sun (n : Nat) (M : Mem) (a1 : Int) (a2 : Int) (a3 : Int) (a4 : Int) (a5 : Int) : ∀ res : Int × Mem, m_X6_sun n M a1 a2 a3 a4 a5 = some res → CTl yX6_sun cX6_sun 15 7 [rv 137, iv a1, iv a2, iv a3, iv a4, iv a5] M res := CTl_of (by decide +kernel) rfl (Nat.le_of_ble_eq_true rfl) rfl (y_X6_sun n M a1 a2 a3 a4 a5)
def m_X6_beside (n : Nat) (M : Mem) (a0 : Int) (a1 : Int) : Rs := if I32 a1 then (if a1 = 0 then (if I32 a0 then (if 6 ≤ a0 then (some ((a0 - 6), M)) else (some ((-9), M))) else none) else (if a1 = 1 then (if I32 a0 then (if I32 (Int.tmod a0 6) then (if (Int.tmod a0 6) = 5 then (some ((-9), M)) else (some ((a0 + 1), M))) else none) else none) else (if a1 = 2 then (if I32 a0 then (if a0 < 18 then (some ((a0 + 6), M)) else (some ((-9), M))) else none) else (if I32 a0 then (if I32 (Int.tmod a0 6) then (if (Int.tmod a0 6) = 0 then (some ((-9), M)) else (some ((a0 - 1), M))) else none) else none)))) else none
theorem y_X6_beside (n : Nat) (M : Mem) (a0 : Int) (a1 : Int) : Y RX6 cX6_beside 2 0 0 none 0 [some (iv a0), some (iv a1)] [] M (m_X6_beside n M a0 a1) := by
  unfold m_X6_beside
  refine y_iload_n (pc := 0) dX6_beside_0 rfl ?_
  refine y_gd (fun h1 => ?_)
  refine y_br (fun h2 => ?_) (fun h2 => ?_)
  · refine y_tableIn (off := 27) (tgt := 28) (pc := 1) dX6_beside_1 h2 (by decide) (by decide) (by decide) rfl (by decide) ?_
    refine y_iload_n (pc := 28) dX6_beside_28 rfl ?_
    refine y_bipush (pc := 29) dX6_beside_29 (by decide) ?_
    refine y_gd (fun h3 => ?_)
    refine y_icmp_ge (off := 8) (tgt := 39) (pc := 31) dX6_beside_31 (by decide) h3 (by decide) (fun h4 => ?_) (fun h4 => ?_)
    · refine y_iload_n (pc := 39) dX6_beside_39 rfl ?_
      refine y_bipush (pc := 40) dX6_beside_40 (by decide) ?_
      refine y_isub (pc := 42) dX6_beside_42 ?_
      exact y_iret (pc := 43) dX6_beside_43
    · refine y_bipush (pc := 34) dX6_beside_34 (by decide) ?_
      refine y_goto (tgt := 43) (pc := 36) dX6_beside_36 (by decide) ?_
      exact y_iret (pc := 43) dX6_beside_43
  · refine y_br (fun h5 => ?_) (fun h5 => ?_)
    · refine y_tableIn (off := 43) (tgt := 44) (pc := 1) dX6_beside_1 h5 (by decide) (by decide) (by decide) rfl (by decide) ?_
      refine y_iload_n (pc := 44) dX6_beside_44 rfl ?_
      refine y_bipush (pc := 45) dX6_beside_45 (by decide) ?_
      refine y_gd (fun h6 => ?_)
      refine y_irem (pc := 47) dX6_beside_47 h6 (by decide) (by decide) ?_
      refine y_iconst (pc := 48) dX6_beside_48 ?_
      refine y_gd (fun h7 => ?_)
      refine y_icmp_ne (off := 8) (tgt := 57) (pc := 49) dX6_beside_49 (by decide) h7 (by decide) (fun h8 => ?_) (fun h8 => ?_)
      · refine y_iload_n (pc := 57) dX6_beside_57 rfl ?_
        refine y_iconst (pc := 58) dX6_beside_58 ?_
        refine y_iadd (pc := 59) dX6_beside_59 ?_
        exact y_iret (pc := 60) dX6_beside_60
      · refine y_bipush (pc := 52) dX6_beside_52 (by decide) ?_
        refine y_goto (tgt := 60) (pc := 54) dX6_beside_54 (by decide) ?_
        exact y_iret (pc := 60) dX6_beside_60
    · refine y_br (fun h9 => ?_) (fun h9 => ?_)
      · refine y_tableIn (off := 60) (tgt := 61) (pc := 1) dX6_beside_1 h9 (by decide) (by decide) (by decide) rfl (by decide) ?_
        refine y_iload_n (pc := 61) dX6_beside_61 rfl ?_
        refine y_bipush (pc := 62) dX6_beside_62 (by decide) ?_
        refine y_gd (fun h10 => ?_)
        refine y_icmp_lt (off := 8) (tgt := 72) (pc := 64) dX6_beside_64 (by decide) h10 (by decide) (fun h11 => ?_) (fun h11 => ?_)
        · refine y_iload_n (pc := 72) dX6_beside_72 rfl ?_
          refine y_bipush (pc := 73) dX6_beside_73 (by decide) ?_
          refine y_iadd (pc := 75) dX6_beside_75 ?_
          exact y_iret (pc := 76) dX6_beside_76
        · refine y_bipush (pc := 67) dX6_beside_67 (by decide) ?_
          refine y_goto (tgt := 76) (pc := 69) dX6_beside_69 (by decide) ?_
          exact y_iret (pc := 76) dX6_beside_76
      · refine y_tableOut (tgt := 77) (pc := 1) dX6_beside_1 h1 (by omega) (by decide) ?_
        refine y_iload_n (pc := 77) dX6_beside_77 rfl ?_
        refine y_bipush (pc := 78) dX6_beside_78 (by decide) ?_
        refine y_gd (fun h12 => ?_)
        refine y_irem (pc := 80) dX6_beside_80 h12 (by decide) (by decide) ?_
        refine y_gd (fun h13 => ?_)
        refine y_if_ne (off := 8) (tgt := 89) (pc := 81) dX6_beside_81 (by decide) h13 (fun h14 => ?_) (fun h14 => ?_)
        · refine y_iload_n (pc := 89) dX6_beside_89 rfl ?_
          refine y_iconst (pc := 90) dX6_beside_90 ?_
          refine y_isub (pc := 91) dX6_beside_91 ?_
          exact y_iret (pc := 92) dX6_beside_92
        · refine y_bipush (pc := 84) dX6_beside_84 (by decide) ?_
          refine y_goto (tgt := 92) (pc := 86) dX6_beside_86 (by decide) ?_
          exact y_iret (pc := 92) dX6_beside_92
theorem c_X6_beside (n : Nat) (M : Mem) (a0 : Int) (a1 : Int) : ∀ res : Int × Mem, m_X6_beside n M a0 a1 = some res → CTi yX6_beside cX6_beside 2 (some .int) 0 [iv a0, iv a1] M res := CTi_of (by decide +kernel) rfl (Nat.le_of_ble_eq_true rfl) rfl (y_X6_beside n M a0 a1)
def m_X6_grown_58 (n : Nat) (k13 : Mem → Int → Int → Int → Int → Int → Rs) (M : Mem) (a0 : Int) (a1 : Int) (a3 : Int) (a4 : Int) (s0 : Int) (s1 : Int) : Rs := k13 M a0 a1 (bOr s1 s0) a3 (a4 + 1)
theorem t_X6_grown_58 (n : Nat) (k13 : Mem → Int → Int → Int → Int → Int → Rs) (hk13 : ∀ (M : Mem) (a0 : Int) (a1 : Int) (a2 : Int) (a3 : Int) (a4 : Int), Y RX6 cX6_grown 6 1 0 none 13 [some (iv a0), some (iv a1), some (iv a2), some (iv a3), some (iv a4), none] [] M (k13 M a0 a1 a2 a3 a4)) (M : Mem) (a0 : Int) (a1 : Int) (a3 : Int) (a4 : Int) (s0 : Int) (s1 : Int) : Y RX6 cX6_grown 6 1 0 none 58 [some (iv a0), some (iv a1), none, some (iv a3), some (iv a4), none] [iv s0, iv s1] M (m_X6_grown_58 n k13 M a0 a1 a3 a4 s0 s1) := by
  unfold m_X6_grown_58
  refine y_ior (pc := 58) dX6_grown_58 ?_
  refine y_istore_n (L' := [some (iv a0), some (iv a1), some (iv (bOr s1 s0)), some (iv a3), some (iv a4), none]) (pc := 59) dX6_grown_59 (by decide) rfl rfl ?_
  refine y_iinc (L' := [some (iv a0), some (iv a1), some (iv (bOr s1 s0)), some (iv a3), some (iv (a4 + 1)), none]) (pc := 60) dX6_grown_60 rfl (by decide) rfl rfl ?_
  refine y_goto (tgt := 13) (pc := 63) dX6_grown_63 (by decide) ?_
  exact y_sub (ls_s (ls_s (ls_s (ls_s (ls_s (ls_n ls_0)))))) (hk13 M a0 a1 (bOr s1 s0) a3 (a4 + 1))
def m_X6_grown_57 (n : Nat) (k13 : Mem → Int → Int → Int → Int → Int → Rs) (M : Mem) (a0 : Int) (a1 : Int) (a3 : Int) (a4 : Int) (s0 : Int) : Rs := m_X6_grown_58 n k13 M a0 a1 a3 a4 0 s0
theorem t_X6_grown_57 (n : Nat) (k13 : Mem → Int → Int → Int → Int → Int → Rs) (hk13 : ∀ (M : Mem) (a0 : Int) (a1 : Int) (a2 : Int) (a3 : Int) (a4 : Int), Y RX6 cX6_grown 6 1 0 none 13 [some (iv a0), some (iv a1), some (iv a2), some (iv a3), some (iv a4), none] [] M (k13 M a0 a1 a2 a3 a4)) (M : Mem) (a0 : Int) (a1 : Int) (a3 : Int) (a4 : Int) (s0 : Int) : Y RX6 cX6_grown 6 1 0 none 57 [some (iv a0), some (iv a1), none, some (iv a3), some (iv a4), none] [iv s0] M (m_X6_grown_57 n k13 M a0 a1 a3 a4 s0) := by
  unfold m_X6_grown_57
  refine y_iconst (pc := 57) dX6_grown_57 ?_
  exact y_sub (ls_s (ls_s (ls_n (ls_s (ls_s (ls_n ls_0)))))) (t_X6_grown_58 n k13 hk13 M a0 a1 a3 a4 0 s0)
def m_X6_grown_13 (n : Nat) (k4 : Mem → Int → Int → Int → Int → Rs) : Nat → Mem → Int → Int → Int → Int → Int → Rs
  | 0, _, _, _, _, _, _ => none
  | t + 1, M, a0, a1, a2, a3, a4 => if I32 a4 then (if 4 ≤ a4 then (k4 M a0 a1 a2 (a3 + 1)) else (bd (m_X6_has n M a0 a3) (fun r4 M3 => if I32 r4 then (if r4 = 0 then (k4 M3 a0 a1 a2 (a3 + 1)) else (bd (m_X6_beside n M3 a3 a4) (fun r8 M7 => if I32 r8 then (if r8 < 0 then (m_X6_grown_57 n (m_X6_grown_13 n k4 t) M7 a0 a1 a3 a4 a2) else (bd (m_X6_has n M7 a1 r8) (fun r12 M11 => if I32 r12 then (if r12 = 0 then (m_X6_grown_57 n (m_X6_grown_13 n k4 t) M11 a0 a1 a3 a4 a2) else (m_X6_grown_58 n (m_X6_grown_13 n k4 t) M11 a0 a1 a3 a4 (bShl 1 r8) a2)) else none))) else none))) else none))) else none
theorem t_X6_grown_13 (n : Nat) (k4 : Mem → Int → Int → Int → Int → Rs) (hk4 : ∀ (M : Mem) (a0 : Int) (a1 : Int) (a2 : Int) (a3 : Int), Y RX6 cX6_grown 6 1 0 none 4 [some (iv a0), some (iv a1), some (iv a2), some (iv a3), none, none] [] M (k4 M a0 a1 a2 a3)) : ∀ (t : Nat) (M : Mem) (a0 : Int) (a1 : Int) (a2 : Int) (a3 : Int) (a4 : Int), Y RX6 cX6_grown 6 1 0 none 13 [some (iv a0), some (iv a1), some (iv a2), some (iv a3), some (iv a4), none] [] M (m_X6_grown_13 n k4 t M a0 a1 a2 a3 a4) := by
  intro t
  induction t with
  | zero => intro M a0 a1 a2 a3 a4; exact y_none
  | succ t ih =>
    intro M a0 a1 a2 a3 a4
    rewrite [m_X6_grown_13]
    refine y_iload (pc := 13) dX6_grown_13 rfl ?_
    refine y_iconst (pc := 15) dX6_grown_15 ?_
    refine y_gd (fun h1 => ?_)
    refine y_icmp_ge (off := 50) (tgt := 66) (pc := 16) dX6_grown_16 (by decide) h1 (by decide) (fun h2 => ?_) (fun h2 => ?_)
    · refine y_iinc (L' := [some (iv a0), some (iv a1), some (iv a2), some (iv (a3 + 1)), some (iv a4), none]) (pc := 66) dX6_grown_66 rfl (by decide) rfl rfl ?_
      refine y_goto (tgt := 4) (pc := 69) dX6_grown_69 (by decide) ?_
      exact y_sub (ls_s (ls_s (ls_s (ls_s (ls_n (ls_n ls_0)))))) (hk4 M a0 a1 a2 (a3 + 1))
    · refine y_iload_n (pc := 19) dX6_grown_19 rfl ?_
      refine y_iload_n (pc := 20) dX6_grown_20 rfl ?_
      refine y_callSi (pc := 21) s_X6_has l_X6_292 dX6_grown_21 (c_X6_has n _ _ _) rfl rfl (by decide) (by decide) (Nat.le_of_ble_eq_true rfl) (fun r4 M3 _ => ?_)
      refine y_gd (fun h5 => ?_)
      refine y_if_eq (off := 42) (tgt := 66) (pc := 24) dX6_grown_24 (by decide) h5 (fun h6 => ?_) (fun h6 => ?_)
      · refine y_iinc (L' := [some (iv a0), some (iv a1), some (iv a2), some (iv (a3 + 1)), some (iv a4), none]) (pc := 66) dX6_grown_66 rfl (by decide) rfl rfl ?_
        refine y_goto (tgt := 4) (pc := 69) dX6_grown_69 (by decide) ?_
        exact y_sub (ls_s (ls_s (ls_s (ls_s (ls_n (ls_n ls_0)))))) (hk4 M3 a0 a1 a2 (a3 + 1))
      · refine y_iload_n (pc := 27) dX6_grown_27 rfl ?_
        refine y_iload (pc := 28) dX6_grown_28 rfl ?_
        refine y_callSi (pc := 30) s_X6_beside l_X6_332 dX6_grown_30 (c_X6_beside n _ _ _) rfl rfl (by decide) (by decide) (Nat.le_of_ble_eq_true rfl) (fun r8 M7 _ => ?_)
        refine y_istore (L' := [some (iv a0), some (iv a1), some (iv a2), some (iv a3), some (iv a4), some (iv r8)]) (pc := 33) dX6_grown_33 (by decide) rfl rfl ?_
        refine y_iload_n (pc := 35) dX6_grown_35 rfl ?_
        refine y_iload (pc := 36) dX6_grown_36 rfl ?_
        refine y_gd (fun h9 => ?_)
        refine y_if_lt (off := 19) (tgt := 57) (pc := 38) dX6_grown_38 (by decide) h9 (fun h10 => ?_) (fun h10 => ?_)
        · exact y_sub (ls_s (ls_s (ls_n (ls_s (ls_s (ls_n ls_0)))))) (t_X6_grown_57 n (m_X6_grown_13 n k4 t) ih M7 a0 a1 a3 a4 a2)
        · refine y_iload_n (pc := 41) dX6_grown_41 rfl ?_
          refine y_iload (pc := 42) dX6_grown_42 rfl ?_
          refine y_callSi (pc := 44) s_X6_has l_X6_292 dX6_grown_44 (c_X6_has n _ _ _) rfl rfl (by decide) (by decide) (Nat.le_of_ble_eq_true rfl) (fun r12 M11 _ => ?_)
          refine y_gd (fun h13 => ?_)
          refine y_if_eq (off := 10) (tgt := 57) (pc := 47) dX6_grown_47 (by decide) h13 (fun h14 => ?_) (fun h14 => ?_)
          · exact y_sub (ls_s (ls_s (ls_n (ls_s (ls_s (ls_n ls_0)))))) (t_X6_grown_57 n (m_X6_grown_13 n k4 t) ih M11 a0 a1 a3 a4 a2)
          · refine y_iconst (pc := 50) dX6_grown_50 ?_
            refine y_iload (pc := 51) dX6_grown_51 rfl ?_
            refine y_ishl (pc := 53) dX6_grown_53 ?_
            refine y_goto (tgt := 58) (pc := 54) dX6_grown_54 (by decide) ?_
            exact y_sub (ls_s (ls_s (ls_n (ls_s (ls_s (ls_n ls_0)))))) (t_X6_grown_58 n (m_X6_grown_13 n k4 t) ih M11 a0 a1 a3 a4 (bShl 1 r8) a2)
def m_X6_grown_4 (n : Nat) : Nat → Mem → Int → Int → Int → Int → Rs
  | 0, _, _, _, _, _ => none
  | t + 1, M, a0, a1, a2, a3 => if I32 a3 then (if 24 ≤ a3 then (some (a2, M)) else (m_X6_grown_13 n (m_X6_grown_4 n t) n M a0 a1 a2 a3 0)) else none
theorem t_X6_grown_4 (n : Nat) : ∀ (t : Nat) (M : Mem) (a0 : Int) (a1 : Int) (a2 : Int) (a3 : Int), Y RX6 cX6_grown 6 1 0 none 4 [some (iv a0), some (iv a1), some (iv a2), some (iv a3), none, none] [] M (m_X6_grown_4 n t M a0 a1 a2 a3) := by
  intro t
  induction t with
  | zero => intro M a0 a1 a2 a3; exact y_none
  | succ t ih =>
    intro M a0 a1 a2 a3
    rewrite [m_X6_grown_4]
    refine y_iload_n (pc := 4) dX6_grown_4 rfl ?_
    refine y_bipush (pc := 5) dX6_grown_5 (by decide) ?_
    refine y_gd (fun h15 => ?_)
    refine y_icmp_ge (off := 65) (tgt := 72) (pc := 7) dX6_grown_7 (by decide) h15 (by decide) (fun h16 => ?_) (fun h16 => ?_)
    · refine y_iload_n (pc := 72) dX6_grown_72 rfl ?_
      exact y_iret (pc := 73) dX6_grown_73
    · refine y_iconst (pc := 10) dX6_grown_10 ?_
      refine y_istore (L' := [some (iv a0), some (iv a1), some (iv a2), some (iv a3), some (iv 0), none]) (pc := 11) dX6_grown_11 (by decide) rfl rfl ?_
      exact y_sub (ls_s (ls_s (ls_s (ls_s (ls_s (ls_n ls_0)))))) (t_X6_grown_13 n (m_X6_grown_4 n t) ih n M a0 a1 a2 a3 0)
def m_X6_grown (n : Nat) (M : Mem) (a0 : Int) (a1 : Int) : Rs := m_X6_grown_4 n n M a0 a1 a0 0
theorem y_X6_grown (n : Nat) (M : Mem) (a0 : Int) (a1 : Int) : Y RX6 cX6_grown 6 1 0 none 0 [some (iv a0), some (iv a1), none, none, none, none] [] M (m_X6_grown n M a0 a1) := by
  unfold m_X6_grown
  refine y_iload_n (pc := 0) dX6_grown_0 rfl ?_
  refine y_istore_n (L' := [some (iv a0), some (iv a1), some (iv a0), none, none, none]) (pc := 1) dX6_grown_1 (by decide) rfl rfl ?_
  refine y_iconst (pc := 2) dX6_grown_2 ?_
  refine y_istore_n (L' := [some (iv a0), some (iv a1), some (iv a0), some (iv 0), none, none]) (pc := 3) dX6_grown_3 (by decide) rfl rfl ?_
  exact y_sub (ls_s (ls_s (ls_s (ls_s (ls_n (ls_n ls_0)))))) (t_X6_grown_4 n n M a0 a1 a0 0)
theorem c_X6_grown (n : Nat) (M : Mem) (a0 : Int) (a1 : Int) : ∀ res : Int × Mem, m_X6_grown n M a0 a1 = some res → CTi yX6_grown cX6_grown 6 (some .int) 1 [iv a0, iv a1] M res := CTi_of (by decide +kernel) rfl (Nat.le_of_ble_eq_true rfl) rfl (y_X6_grown n M a0 a1)
def m_X6_pieceWith_22 (n : Nat) : Nat → Mem → Int → Int → Int → Rs
  | 0, _, _, _, _ => none
  | t + 1, M, a1, a2, a3 => if I32 a3 then (if I32 a2 then (if a3 = a2 then (some (a2, M)) else (bd (m_X6_grown n M a3 a1) (fun r5 M4 => (m_X6_pieceWith_22 n t) M4 a1 a3 r5))) else none) else none
theorem t_X6_pieceWith_22 (n : Nat) : ∀ (t : Nat) (M : Mem) (a1 : Int) (a2 : Int) (a3 : Int), Y RX6 cX6_pieceWith 4 2 0 none 22 [none, some (iv a1), some (iv a2), some (iv a3)] [] M (m_X6_pieceWith_22 n t M a1 a2 a3) := by
  intro t
  induction t with
  | zero => intro M a1 a2 a3; exact y_none
  | succ t ih =>
    intro M a1 a2 a3
    rewrite [m_X6_pieceWith_22]
    refine y_iload_n (pc := 22) dX6_pieceWith_22 rfl ?_
    refine y_iload_n (pc := 23) dX6_pieceWith_23 rfl ?_
    refine y_gd (fun h1 => ?_)
    refine y_gd (fun h2 => ?_)
    refine y_icmp_eq (off := 14) (tgt := 38) (pc := 24) dX6_pieceWith_24 (by decide) h1 h2 (fun h3 => ?_) (fun h3 => ?_)
    · refine y_iload_n (pc := 38) dX6_pieceWith_38 rfl ?_
      exact y_iret (pc := 39) dX6_pieceWith_39
    · refine y_iload_n (pc := 27) dX6_pieceWith_27 rfl ?_
      refine y_istore_n (L' := [none, some (iv a1), some (iv a3), some (iv a3)]) (pc := 28) dX6_pieceWith_28 (by decide) rfl rfl ?_
      refine y_iload_n (pc := 29) dX6_pieceWith_29 rfl ?_
      refine y_iload_n (pc := 30) dX6_pieceWith_30 rfl ?_
      refine y_callSi (pc := 31) s_X6_grown l_X6_335 dX6_pieceWith_31 (c_X6_grown n _ _ _) rfl rfl (by decide) (by decide) (Nat.le_of_ble_eq_true rfl) (fun r5 M4 _ => ?_)
      refine y_istore_n (L' := [none, some (iv a1), some (iv a3), some (iv r5)]) (pc := 34) dX6_pieceWith_34 (by decide) rfl rfl ?_
      refine y_goto (tgt := 22) (pc := 35) dX6_pieceWith_35 (by decide) ?_
      exact y_sub (ls_n (ls_s (ls_s (ls_s ls_0)))) (ih M4 a1 a3 r5)
def m_X6_pieceWith_15 (n : Nat) (M : Mem) (a1 : Int) (s0 : Int) : Rs := bd (m_X6_grown n M s0 a1) (fun r7 M6 => m_X6_pieceWith_22 n n M6 a1 s0 r7)
theorem t_X6_pieceWith_15 (n : Nat) (M : Mem) (a1 : Int) (s0 : Int) : Y RX6 cX6_pieceWith 4 2 0 none 15 [none, some (iv a1), none, none] [iv s0] M (m_X6_pieceWith_15 n M a1 s0) := by
  unfold m_X6_pieceWith_15
  refine y_istore_n (L' := [none, some (iv a1), some (iv s0), none]) (pc := 15) dX6_pieceWith_15 (by decide) rfl rfl ?_
  refine y_iload_n (pc := 16) dX6_pieceWith_16 rfl ?_
  refine y_iload_n (pc := 17) dX6_pieceWith_17 rfl ?_
  refine y_callSi (pc := 18) s_X6_grown l_X6_335 dX6_pieceWith_18 (c_X6_grown n _ _ _) rfl rfl (by decide) (by decide) (Nat.le_of_ble_eq_true rfl) (fun r7 M6 _ => ?_)
  refine y_istore_n (L' := [none, some (iv a1), some (iv s0), some (iv r7)]) (pc := 21) dX6_pieceWith_21 (by decide) rfl rfl ?_
  exact y_sub (ls_n (ls_s (ls_s (ls_s ls_0)))) (t_X6_pieceWith_22 n n M6 a1 s0 r7)
def m_X6_pieceWith (n : Nat) (M : Mem) (a0 : Int) (a1 : Int) : Rs := bd (m_X6_has n M a1 a0) (fun r9 M8 => if I32 r9 then (if r9 = 0 then (m_X6_pieceWith_15 n M8 a1 0) else (m_X6_pieceWith_15 n M8 a1 (bShl 1 a0))) else none)
theorem y_X6_pieceWith (n : Nat) (M : Mem) (a0 : Int) (a1 : Int) : Y RX6 cX6_pieceWith 4 2 0 none 0 [some (iv a0), some (iv a1), none, none] [] M (m_X6_pieceWith n M a0 a1) := by
  unfold m_X6_pieceWith
  refine y_iload_n (pc := 0) dX6_pieceWith_0 rfl ?_
  refine y_iload_n (pc := 1) dX6_pieceWith_1 rfl ?_
  refine y_callSi (pc := 2) s_X6_has l_X6_292 dX6_pieceWith_2 (c_X6_has n _ _ _) rfl rfl (by decide) (by decide) (Nat.le_of_ble_eq_true rfl) (fun r9 M8 _ => ?_)
  refine y_gd (fun h10 => ?_)
  refine y_if_eq (off := 9) (tgt := 14) (pc := 5) dX6_pieceWith_5 (by decide) h10 (fun h11 => ?_) (fun h11 => ?_)
  · refine y_iconst (pc := 14) dX6_pieceWith_14 ?_
    exact y_sub (ls_n (ls_s (ls_n (ls_n ls_0)))) (t_X6_pieceWith_15 n M8 a1 0)
  · refine y_iconst (pc := 8) dX6_pieceWith_8 ?_
    refine y_iload_n (pc := 9) dX6_pieceWith_9 rfl ?_
    refine y_ishl (pc := 10) dX6_pieceWith_10 ?_
    refine y_goto (tgt := 15) (pc := 11) dX6_pieceWith_11 (by decide) ?_
    exact y_sub (ls_n (ls_s (ls_n (ls_n ls_0)))) (t_X6_pieceWith_15 n M8 a1 (bShl 1 a0))
theorem c_X6_pieceWith (n : Nat) (M : Mem) (a0 : Int) (a1 : Int) : ∀ res : Int × Mem, m_X6_pieceWith n M a0 a1 = some res → CTi yX6_pieceWith cX6_pieceWith 4 (some .int) 2 [iv a0, iv a1] M res := CTi_of (by decide +kernel) rfl (Nat.le_of_ble_eq_true rfl) rfl (y_X6_pieceWith n M a0 a1)
