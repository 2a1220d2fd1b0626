def m_X5_count (n : Nat) (M : Mem) (a1 : Int) : Rs := if I32 a1 then (if a1 = 0 then (some ((rd M 0 12), M)) else (if a1 = 1 then (some ((rd M 0 7), M)) else (if a1 = 2 then (some ((rd M 0 3), M)) else (if a1 = 3 then (some ((rd M 0 13), M)) else (if a1 = 4 then (some ((rd M 0 14), M)) else (if a1 = 5 then (bd (m_X4_ownedThings n M 0) (fun r9 M8 => some (r9, M8))) else (if a1 = 6 then (some ((rd M 130 6), M)) else (if a1 = 7 then (some ((rd M 130 8), M)) else (if a1 = 8 then (some ((rd M 130 4), M)) else (if a1 = 9 then (bd (m_X0_begin n M 0) (fun _ M14 => bd (m_X0_foggyCells n M14) (fun r16 M15 => some (r16, M15)))) else (if a1 ≤ 10 then (some ((-9), M)) else (if 16 < a1 then (some ((-9), M)) else (if 0 ≤ (a1 - 10) ∧ (a1 - 10) < 7 then (some ((rd M 134 (Int.toNat (a1 - 10))), M)) else none))))))))))))) else none
theorem y_X5_count (n : Nat) (M : Mem) (a1 : Int) : Y RX5 cX5_count 2 5 0 none 0 [some (rv 130), some (iv a1)] [] M (m_X5_count n M a1) := by
  unfold m_X5_count
  refine y_iload_n (pc := 0) dX5_count_0 rfl ?_
  refine y_gd (fun h1 => ?_)
  refine y_br (fun h2 => ?_) (fun h2 => ?_)
  · refine y_tableIn (off := 55) (tgt := 56) (pc := 1) dX5_count_1 h2 (by decide) (by decide) (by decide) rfl (by decide) ?_
    refine y_aload_n (pc := 56) dX5_count_56 rfl ?_
    refine y_getref (pc := 57) (x := 0) g_X5_10 dX5_count_57 ?_
    refine y_getint (pc := 60) (g_X5_204 (by decide)) dX5_count_60 ?_
    exact y_iret (pc := 63) dX5_count_63
  · refine y_br (fun h3 => ?_) (fun h3 => ?_)
    · refine y_tableIn (off := 63) (tgt := 64) (pc := 1) dX5_count_1 h3 (by decide) (by decide) (by decide) rfl (by decide) ?_
      refine y_aload_n (pc := 64) dX5_count_64 rfl ?_
      refine y_getref (pc := 65) (x := 0) g_X5_10 dX5_count_65 ?_
      refine y_getint (pc := 68) (g_X5_207 (by decide)) dX5_count_68 ?_
      exact y_iret (pc := 71) dX5_count_71
    · refine y_br (fun h4 => ?_) (fun h4 => ?_)
      · refine y_tableIn (off := 71) (tgt := 72) (pc := 1) dX5_count_1 h4 (by decide) (by decide) (by decide) rfl (by decide) ?_
        refine y_aload_n (pc := 72) dX5_count_72 rfl ?_
        refine y_getref (pc := 73) (x := 0) g_X5_10 dX5_count_73 ?_
        refine y_getint (pc := 76) (g_X5_210 (by decide)) dX5_count_76 ?_
        exact y_iret (pc := 79) dX5_count_79
      · refine y_br (fun h5 => ?_) (fun h5 => ?_)
        · refine y_tableIn (off := 79) (tgt := 80) (pc := 1) dX5_count_1 h5 (by decide) (by decide) (by decide) rfl (by decide) ?_
          refine y_aload_n (pc := 80) dX5_count_80 rfl ?_
          refine y_getref (pc := 81) (x := 0) g_X5_10 dX5_count_81 ?_
          refine y_getint (pc := 84) (g_X5_116 (by decide)) dX5_count_84 ?_
          exact y_iret (pc := 87) dX5_count_87
        · refine y_br (fun h6 => ?_) (fun h6 => ?_)
          · refine y_tableIn (off := 87) (tgt := 88) (pc := 1) dX5_count_1 h6 (by decide) (by decide) (by decide) rfl (by decide) ?_
            refine y_aload_n (pc := 88) dX5_count_88 rfl ?_
            refine y_getref (pc := 89) (x := 0) g_X5_10 dX5_count_89 ?_
            refine y_getint (pc := 92) (g_X5_107 (by decide)) dX5_count_92 ?_
            exact y_iret (pc := 95) dX5_count_95
          · refine y_br (fun h7 => ?_) (fun h7 => ?_)
            · refine y_tableIn (off := 95) (tgt := 96) (pc := 1) dX5_count_1 h7 (by decide) (by decide) (by decide) rfl (by decide) ?_
              refine y_aload_n (pc := 96) dX5_count_96 rfl ?_
              refine y_getref (pc := 97) (x := 0) g_X5_10 dX5_count_97 ?_
              refine y_callVi (pc := 100) v_X4_ownedThings l_X5_213 dX5_count_100 (c_X4_ownedThings n _ _) (fun _ h => nomatch h) rfl (rc_X4 (by decide)) rfl (by decide) (by decide) (Nat.le_of_ble_eq_true rfl) (fun r9 M8 _ => ?_)
              exact y_iret (pc := 103) dX5_count_103
            · refine y_br (fun h10 => ?_) (fun h10 => ?_)
              · refine y_tableIn (off := 103) (tgt := 104) (pc := 1) dX5_count_1 h10 (by decide) (by decide) (by decide) rfl (by decide) ?_
                refine y_aload_n (pc := 104) dX5_count_104 rfl ?_
                refine y_getint (pc := 105) g_X5_35 dX5_count_105 ?_
                exact y_iret (pc := 108) dX5_count_108
              · refine y_br (fun h11 => ?_) (fun h11 => ?_)
                · refine y_tableIn (off := 108) (tgt := 109) (pc := 1) dX5_count_1 h11 (by decide) (by decide) (by decide) rfl (by decide) ?_
                  refine y_aload_n (pc := 109) dX5_count_109 rfl ?_
                  refine y_getint (pc := 110) g_X5_41 dX5_count_110 ?_
                  exact y_iret (pc := 113) dX5_count_113
                · refine y_br (fun h12 => ?_) (fun h12 => ?_)
                  · refine y_tableIn (off := 113) (tgt := 114) (pc := 1) dX5_count_1 h12 (by decide) (by decide) (by decide) rfl (by decide) ?_
                    refine y_aload_n (pc := 114) dX5_count_114 rfl ?_
                    refine y_getint (pc := 115) g_X5_27 dX5_count_115 ?_
                    exact y_iret (pc := 118) dX5_count_118
                  · refine y_br (fun h13 => ?_) (fun h13 => ?_)
                    · refine y_tableIn (off := 118) (tgt := 119) (pc := 1) dX5_count_1 h13 (by decide) (by decide) (by decide) rfl (by decide) ?_
                      refine y_aload_n (pc := 119) dX5_count_119 rfl ?_
                      refine y_getref (pc := 120) (x := 129) g_X5_50 dX5_count_120 ?_
                      refine y_aload_n (pc := 123) dX5_count_123 rfl ?_
                      refine y_getref (pc := 124) (x := 0) g_X5_10 dX5_count_124 ?_
                      refine y_callVv (pc := 127) v_X0_begin l_X5_67 dX5_count_127 (c_X0_begin n _ _) (fun _ h => nomatch h) rfl rc_X0 rfl (by decide) (by decide) (Nat.le_of_ble_eq_true rfl) (fun _ M14 _ => ?_)
                      refine y_aload_n (pc := 130) dX5_count_130 rfl ?_
                      refine y_getref (pc := 131) (x := 129) g_X5_50 dX5_count_131 ?_
                      refine y_callVi (pc := 134) v_X0_foggyCells l_X5_217 dX5_count_134 (c_X0_foggyCells n _) (fun _ h => nomatch h) rfl rc_X0 rfl (by decide) (by decide) (Nat.le_of_ble_eq_true rfl) (fun r16 M15 _ => ?_)
                      exact y_iret (pc := 137) dX5_count_137
                    · refine y_tableOut (tgt := 138) (pc := 1) dX5_count_1 h1 (by omega) (by decide) ?_
                      refine y_iload_n (pc := 138) dX5_count_138 rfl ?_
                      refine y_bipush (pc := 139) dX5_count_139 (by decide) ?_
                      refine y_icmp_le (off := 21) (tgt := 162) (pc := 141) dX5_count_141 (by decide) h1 (by decide) (fun h17 => ?_) (fun h17 => ?_)
                      · refine y_bipush (pc := 162) dX5_count_162 (by decide) ?_
                        exact y_iret (pc := 164) dX5_count_164
                      · refine y_iload_n (pc := 144) dX5_count_144 rfl ?_
                        refine y_bipush (pc := 145) dX5_count_145 (by decide) ?_
                        refine y_icmp_gt (off := 15) (tgt := 162) (pc := 147) dX5_count_147 (by decide) h1 (by decide) (fun h18 => ?_) (fun h18 => ?_)
                        · refine y_bipush (pc := 162) dX5_count_162 (by decide) ?_
                          exact y_iret (pc := 164) dX5_count_164
                        · refine y_aload_n (pc := 150) dX5_count_150 rfl ?_
                          refine y_getref (pc := 151) (x := 134) g_X5_44 dX5_count_151 ?_
                          refine y_iload_n (pc := 154) dX5_count_154 rfl ?_
                          refine y_bipush (pc := 155) dX5_count_155 (by decide) ?_
                          refine y_isub (pc := 157) dX5_count_157 ?_
                          refine y_gd (fun h19 => ?_)
                          refine y_iald (pc := 158) dX5_count_158 ar_134 h19 ?_
                          refine y_goto (tgt := 164) (pc := 159) dX5_count_159 (by decide) ?_
                          exact y_iret (pc := 164) dX5_count_164
theorem c_X5_count (n : Nat) (M : Mem) (a1 : Int) : ∀ res : Int × Mem, m_X5_count n M a1 = some res → CTi none yX5_count cX5_count 2 (some .int) 5 [rv 130, iv a1] M res := CTi_of (by decide +kernel) rfl (Nat.le_of_ble_eq_true rfl) rfl (y_X5_count n M a1)
def m_X5_blows_25 (n : Nat) (M : Mem) : Rs := bd (m_X5_refuse n M (-4)) (fun r2 M1 => some (r2, M1))
theorem t_X5_blows_25 (n : Nat) (M : Mem) : Y RX5 cX5_blows 4 1 0 none 25 [some (rv 130), none, none, none] [] M (m_X5_blows_25 n M) := by
  unfold m_X5_blows_25
  refine y_aload_n (pc := 25) dX5_blows_25 rfl ?_
  refine y_bipush (pc := 26) dX5_blows_26 (by decide) ?_
  refine y_callVi (pc := 28) v_X5_refuse l_X5_60 dX5_blows_28 (c_X5_refuse n _ _) (fun _ h => nomatch h) rfl rc_X5 rfl (by decide) (by decide) (Nat.le_of_ble_eq_true rfl) (fun r2 M1 _ => ?_)
  exact y_iret (pc := 31) dX5_blows_31
def m_X5_blows_10 (n : Nat) (M : Mem) : Rs := bd (m_X5_refuse n M (-2)) (fun r4 M3 => some (r4, M3))
theorem t_X5_blows_10 (n : Nat) (M : Mem) : Y RX5 cX5_blows 4 1 0 none 10 [some (rv 130), none, none, none] [] M (m_X5_blows_10 n M) := by
  unfold m_X5_blows_10
  refine y_aload_n (pc := 10) dX5_blows_10 rfl ?_
  refine y_bipush (pc := 11) dX5_blows_11 (by decide) ?_
  refine y_callVi (pc := 13) v_X5_refuse l_X5_60 dX5_blows_13 (c_X5_refuse n _ _) (fun _ h => nomatch h) rfl rc_X5 rfl (by decide) (by decide) (Nat.le_of_ble_eq_true rfl) (fun r4 M3 _ => ?_)
  exact y_iret (pc := 16) dX5_blows_16
def m_X5_blows (n : Nat) (M : Mem) (a1 : Int) (a2 : Int) (a3 : Int) : Rs := if I32 a1 then (if a1 < 0 then (m_X5_blows_10 n M) else (if a1 < 7 then (if I32 a2 then (if a2 < 0 then (m_X5_blows_25 n M) else (if I32 a3 then (if 0 ≤ a3 then (bd (m_X4_addFront n M 0 a1 a2 a3) (fun r13 M12 => if I32 r13 then (if r13 = 0 then (bd (m_X5_refuse n M12 (-6)) (fun r18 M17 => some (r18, M17))) else (wr M12 130 4 0 (fun M16 => some (((rd M16 0 3) - 1), M16)))) else none)) else (m_X5_blows_25 n M)) else none)) else none) else (m_X5_blows_10 n M))) else none
theorem y_X5_blows (n : Nat) (M : Mem) (a1 : Int) (a2 : Int) (a3 : Int) : Y RX5 cX5_blows 4 1 0 none 0 [some (rv 130), some (iv a1), some (iv a2), some (iv a3)] [] M (m_X5_blows n M a1 a2 a3) := by
  unfold m_X5_blows
  refine y_iload_n (pc := 0) dX5_blows_0 rfl ?_
  refine y_gd (fun h5 => ?_)
  refine y_if_lt (off := 9) (tgt := 10) (pc := 1) dX5_blows_1 (by decide) h5 (fun h6 => ?_) (fun h6 => ?_)
  · exact y_sub (ls_s (ls_n (ls_n (ls_n ls_0)))) (t_X5_blows_10 n M)
  · refine y_iload_n (pc := 4) dX5_blows_4 rfl ?_
    refine y_bipush (pc := 5) dX5_blows_5 (by decide) ?_
    refine y_icmp_lt (off := 10) (tgt := 17) (pc := 7) dX5_blows_7 (by decide) h5 (by decide) (fun h7 => ?_) (fun h7 => ?_)
    · refine y_iload_n (pc := 17) dX5_blows_17 rfl ?_
      refine y_gd (fun h8 => ?_)
      refine y_if_lt (off := 7) (tgt := 25) (pc := 18) dX5_blows_18 (by decide) h8 (fun h9 => ?_) (fun h9 => ?_)
      · exact y_sub (ls_s (ls_n (ls_n (ls_n ls_0)))) (t_X5_blows_25 n M)
      · refine y_iload_n (pc := 21) dX5_blows_21 rfl ?_
        refine y_gd (fun h10 => ?_)
        refine y_if_ge (off := 10) (tgt := 32) (pc := 22) dX5_blows_22 (by decide) h10 (fun h11 => ?_) (fun h11 => ?_)
        · refine y_aload_n (pc := 32) dX5_blows_32 rfl ?_
          refine y_getref (pc := 33) (x := 0) g_X5_10 dX5_blows_33 ?_
          refine y_iload_n (pc := 36) dX5_blows_36 rfl ?_
          refine y_iload_n (pc := 37) dX5_blows_37 rfl ?_
          refine y_iload_n (pc := 38) dX5_blows_38 rfl ?_
          refine y_callVi (pc := 39) v_X4_addFront l_X5_93 dX5_blows_39 (c_X4_addFront n _ _ _ _ _) (fun _ h => nomatch h) rfl (rc_X4 (by decide)) rfl (by decide) (by decide) (Nat.le_of_ble_eq_true rfl) (fun r13 M12 _ => ?_)
          refine y_gd (fun h14 => ?_)
          refine y_if_ne (off := 10) (tgt := 52) (pc := 42) dX5_blows_42 (by decide) h14 (fun h15 => ?_) (fun h15 => ?_)
          · refine y_aload_n (pc := 52) dX5_blows_52 rfl ?_
            refine y_iconst (pc := 53) dX5_blows_53 ?_
            refine y_putintw (pc := 54) pf_X5_27 dX5_blows_54 (fun M16 => ?_)
            refine y_aload_n (pc := 57) dX5_blows_57 rfl ?_
            refine y_getref (pc := 58) (x := 0) g_X5_10 dX5_blows_58 ?_
            refine y_getint (pc := 61) (g_X5_210 (by decide)) dX5_blows_61 ?_
            refine y_iconst (pc := 64) dX5_blows_64 ?_
            refine y_isub (pc := 65) dX5_blows_65 ?_
            exact y_iret (pc := 66) dX5_blows_66
          · refine y_aload_n (pc := 45) dX5_blows_45 rfl ?_
            refine y_bipush (pc := 46) dX5_blows_46 (by decide) ?_
            refine y_callVi (pc := 48) v_X5_refuse l_X5_60 dX5_blows_48 (c_X5_refuse n _ _) (fun _ h => nomatch h) rfl rc_X5 rfl (by decide) (by decide) (Nat.le_of_ble_eq_true rfl) (fun r18 M17 _ => ?_)
            exact y_iret (pc := 51) dX5_blows_51
        · exact y_sub (ls_s (ls_n (ls_n (ls_n ls_0)))) (t_X5_blows_25 n M)
    · exact y_sub (ls_s (ls_n (ls_n (ls_n ls_0)))) (t_X5_blows_10 n M)
theorem c_X5_blows (n : Nat) (M : Mem) (a1 : Int) (a2 : Int) (a3 : Int) : ∀ res : Int × Mem, m_X5_blows n M a1 a2 a3 = some res → CTi none yX5_blows cX5_blows 4 (some .int) 1 [rv 130, iv a1, iv a2, iv a3] M res := CTi_of (by decide +kernel) rfl (Nat.le_of_ble_eq_true rfl) rfl (y_X5_blows n M a1 a2 a3)
def m_X5_comes_45 (n : Nat) (M : Mem) : Rs := bd (m_X5_refuse n M (-6)) (fun r2 M1 => some (r2, M1))
theorem t_X5_comes_45 (n : Nat) (M : Mem) : Y RX5 cX5_comes 4 2 0 none 45 [some (rv 130), none, none, none] [] M (m_X5_comes_45 n M) := by
  unfold m_X5_comes_45
  refine y_aload_n (pc := 45) dX5_comes_45 rfl ?_
  refine y_bipush (pc := 46) dX5_comes_46 (by decide) ?_
  refine y_callVi (pc := 48) v_X5_refuse l_X5_60 dX5_comes_48 (c_X5_refuse n _ _) (fun _ h => nomatch h) rfl rc_X5 rfl (by decide) (by decide) (Nat.le_of_ble_eq_true rfl) (fun r2 M1 _ => ?_)
  exact y_iret (pc := 51) dX5_comes_51
def m_X5_comes_10 (n : Nat) (M : Mem) : Rs := bd (m_X5_refuse n M (-2)) (fun r4 M3 => some (r4, M3))
theorem t_X5_comes_10 (n : Nat) (M : Mem) : Y RX5 cX5_comes 4 2 0 none 10 [some (rv 130), none, none, none] [] M (m_X5_comes_10 n M) := by
  unfold m_X5_comes_10
  refine y_aload_n (pc := 10) dX5_comes_10 rfl ?_
  refine y_bipush (pc := 11) dX5_comes_11 (by decide) ?_
  refine y_callVi (pc := 13) v_X5_refuse l_X5_60 dX5_comes_13 (c_X5_refuse n _ _) (fun _ h => nomatch h) rfl rc_X5 rfl (by decide) (by decide) (Nat.le_of_ble_eq_true rfl) (fun r4 M3 _ => ?_)
  exact y_iret (pc := 16) dX5_comes_16
def m_X5_comes (n : Nat) (M : Mem) (a1 : Int) (a2 : Int) (a3 : Int) : Rs := if I32 a1 then (if a1 < 0 then (m_X5_comes_10 n M) else (if a1 < 8 then (if I32 a2 then (if 0 ≤ a2 then (if 9 < a2 then (m_X5_comes_45 n M) else (if (rd M 0 12) < 5 then (bd (m_X4_addPerson n M 0 a1 a2 a3) (fun r13 M12 => if I32 r13 then (if r13 = 0 then (bd (m_X5_refuse n M12 (-1)) (fun r18 M17 => some (r18, M17))) else (wr M12 130 4 0 (fun M16 => some (((rd M16 0 12) - 1), M16)))) else none)) else (m_X5_comes_45 n M))) else (bd (m_X5_refuse n M (-4)) (fun r20 M19 => some (r20, M19)))) else none) else (m_X5_comes_10 n M))) else none
theorem y_X5_comes (n : Nat) (M : Mem) (a1 : Int) (a2 : Int) (a3 : Int) : Y RX5 cX5_comes 4 2 0 none 0 [some (rv 130), some (iv a1), some (iv a2), some (iv a3)] [] M (m_X5_comes n M a1 a2 a3) := by
  unfold m_X5_comes
  refine y_iload_n (pc := 0) dX5_comes_0 rfl ?_
  refine y_gd (fun h5 => ?_)
  refine y_if_lt (off := 9) (tgt := 10) (pc := 1) dX5_comes_1 (by decide) h5 (fun h6 => ?_) (fun h6 => ?_)
  · exact y_sub (ls_s (ls_n (ls_n (ls_n ls_0)))) (t_X5_comes_10 n M)
  · refine y_iload_n (pc := 4) dX5_comes_4 rfl ?_
    refine y_bipush (pc := 5) dX5_comes_5 (by decide) ?_
    refine y_icmp_lt (off := 10) (tgt := 17) (pc := 7) dX5_comes_7 (by decide) h5 (by decide) (fun h7 => ?_) (fun h7 => ?_)
    · refine y_iload_n (pc := 17) dX5_comes_17 rfl ?_
      refine y_gd (fun h8 => ?_)
      refine y_if_ge (off := 10) (tgt := 28) (pc := 18) dX5_comes_18 (by decide) h8 (fun h9 => ?_) (fun h9 => ?_)
      · refine y_iload_n (pc := 28) dX5_comes_28 rfl ?_
        refine y_bipush (pc := 29) dX5_comes_29 (by decide) ?_
        refine y_icmp_gt (off := 14) (tgt := 45) (pc := 31) dX5_comes_31 (by decide) h8 (by decide) (fun h10 => ?_) (fun h10 => ?_)
        · exact y_sub (ls_s (ls_n (ls_n (ls_n ls_0)))) (t_X5_comes_45 n M)
        · refine y_aload_n (pc := 34) dX5_comes_34 rfl ?_
          refine y_getref (pc := 35) (x := 0) g_X5_10 dX5_comes_35 ?_
          refine y_getint (pc := 38) (g_X5_204 (by decide)) dX5_comes_38 ?_
          refine y_iconst (pc := 41) dX5_comes_41 ?_
          refine y_icmp_lt (off := 10) (tgt := 52) (pc := 42) dX5_comes_42 (by decide) (rd_rng _ _ _) (by decide) (fun h11 => ?_) (fun h11 => ?_)
          · refine y_aload_n (pc := 52) dX5_comes_52 rfl ?_
            refine y_getref (pc := 53) (x := 0) g_X5_10 dX5_comes_53 ?_
            refine y_iload_n (pc := 56) dX5_comes_56 rfl ?_
            refine y_iload_n (pc := 57) dX5_comes_57 rfl ?_
            refine y_iload_n (pc := 58) dX5_comes_58 rfl ?_
            refine y_callVi (pc := 59) v_X4_addPerson l_X5_100 dX5_comes_59 (c_X4_addPerson n _ _ _ _ _) (fun _ h => nomatch h) rfl (rc_X4 (by decide)) rfl (by decide) (by decide) (Nat.le_of_ble_eq_true rfl) (fun r13 M12 _ => ?_)
            refine y_gd (fun h14 => ?_)
            refine y_if_ne (off := 9) (tgt := 71) (pc := 62) dX5_comes_62 (by decide) h14 (fun h15 => ?_) (fun h15 => ?_)
            · refine y_aload_n (pc := 71) dX5_comes_71 rfl ?_
              refine y_iconst (pc := 72) dX5_comes_72 ?_
              refine y_putintw (pc := 73) pf_X5_27 dX5_comes_73 (fun M16 => ?_)
              refine y_aload_n (pc := 76) dX5_comes_76 rfl ?_
              refine y_getref (pc := 77) (x := 0) g_X5_10 dX5_comes_77 ?_
              refine y_getint (pc := 80) (g_X5_204 (by decide)) dX5_comes_80 ?_
              refine y_iconst (pc := 83) dX5_comes_83 ?_
              refine y_isub (pc := 84) dX5_comes_84 ?_
              exact y_iret (pc := 85) dX5_comes_85
            · refine y_aload_n (pc := 65) dX5_comes_65 rfl ?_
              refine y_iconst (pc := 66) dX5_comes_66 ?_
              refine y_callVi (pc := 67) v_X5_refuse l_X5_60 dX5_comes_67 (c_X5_refuse n _ _) (fun _ h => nomatch h) rfl rc_X5 rfl (by decide) (by decide) (Nat.le_of_ble_eq_true rfl) (fun r18 M17 _ => ?_)
              exact y_iret (pc := 70) dX5_comes_70
          · exact y_sub (ls_s (ls_n (ls_n (ls_n ls_0)))) (t_X5_comes_45 n M)
      · refine y_aload_n (pc := 21) dX5_comes_21 rfl ?_
        refine y_bipush (pc := 22) dX5_comes_22 (by decide) ?_
        refine y_callVi (pc := 24) v_X5_refuse l_X5_60 dX5_comes_24 (c_X5_refuse n _ _) (fun _ h => nomatch h) rfl rc_X5 rfl (by decide) (by decide) (Nat.le_of_ble_eq_true rfl) (fun r20 M19 _ => ?_)
        exact y_iret (pc := 27) dX5_comes_27
    · exact y_sub (ls_s (ls_n (ls_n (ls_n ls_0)))) (t_X5_comes_10 n M)
theorem c_X5_comes (n : Nat) (M : Mem) (a1 : Int) (a2 : Int) (a3 : Int) : ∀ res : Int × Mem, m_X5_comes n M a1 a2 a3 = some res → CTi none yX5_comes cX5_comes 4 (some .int) 2 [rv 130, iv a1, iv a2, iv a3] M res := CTi_of (by decide +kernel) rfl (Nat.le_of_ble_eq_true rfl) rfl (y_X5_comes n M a1 a2 a3)
def m_X5_lies_29 (n : Nat) (M : Mem) : Rs := bd (m_X5_refuse n M (-6)) (fun r2 M1 => some (r2, M1))
theorem t_X5_lies_29 (n : Nat) (M : Mem) : Y RX5 cX5_lies 3 2 0 none 29 [some (rv 130), none, none] [] M (m_X5_lies_29 n M) := by
  unfold m_X5_lies_29
  refine y_aload_n (pc := 29) dX5_lies_29 rfl ?_
  refine y_bipush (pc := 30) dX5_lies_30 (by decide) ?_
  refine y_callVi (pc := 32) v_X5_refuse l_X5_60 dX5_lies_32 (c_X5_refuse n _ _) (fun _ h => nomatch h) rfl rc_X5 rfl (by decide) (by decide) (Nat.le_of_ble_eq_true rfl) (fun r2 M1 _ => ?_)
  exact y_iret (pc := 35) dX5_lies_35
def m_X5_lies (n : Nat) (M : Mem) (a1 : Int) (a2 : Int) : Rs := if I32 a1 then (if 0 ≤ a1 then (if 9 < a1 then (m_X5_lies_29 n M) else (if (rd M 0 7) < 8 then (bd (m_X4_addThing n M 0 a1 a2) (fun r8 M7 => if I32 r8 then (if r8 = 0 then (bd (m_X5_refuse n M7 (-1)) (fun r13 M12 => some (r13, M12))) else (wr M7 130 4 0 (fun M11 => some (((rd M11 0 7) - 1), M11)))) else none)) else (m_X5_lies_29 n M))) else (bd (m_X5_refuse n M (-4)) (fun r15 M14 => some (r15, M14)))) else none
theorem y_X5_lies (n : Nat) (M : Mem) (a1 : Int) (a2 : Int) : Y RX5 cX5_lies 3 2 0 none 0 [some (rv 130), some (iv a1), some (iv a2)] [] M (m_X5_lies n M a1 a2) := by
  unfold m_X5_lies
  refine y_iload_n (pc := 0) dX5_lies_0 rfl ?_
  refine y_gd (fun h3 => ?_)
  refine y_if_ge (off := 10) (tgt := 11) (pc := 1) dX5_lies_1 (by decide) h3 (fun h4 => ?_) (fun h4 => ?_)
  · refine y_iload_n (pc := 11) dX5_lies_11 rfl ?_
    refine y_bipush (pc := 12) dX5_lies_12 (by decide) ?_
    refine y_icmp_gt (off := 15) (tgt := 29) (pc := 14) dX5_lies_14 (by decide) h3 (by decide) (fun h5 => ?_) (fun h5 => ?_)
    · exact y_sub (ls_s (ls_n (ls_n ls_0))) (t_X5_lies_29 n M)
    · refine y_aload_n (pc := 17) dX5_lies_17 rfl ?_
      refine y_getref (pc := 18) (x := 0) g_X5_10 dX5_lies_18 ?_
      refine y_getint (pc := 21) (g_X5_207 (by decide)) dX5_lies_21 ?_
      refine y_bipush (pc := 24) dX5_lies_24 (by decide) ?_
      refine y_icmp_lt (off := 10) (tgt := 36) (pc := 26) dX5_lies_26 (by decide) (rd_rng _ _ _) (by decide) (fun h6 => ?_) (fun h6 => ?_)
      · refine y_aload_n (pc := 36) dX5_lies_36 rfl ?_
        refine y_getref (pc := 37) (x := 0) g_X5_10 dX5_lies_37 ?_
        refine y_iload_n (pc := 40) dX5_lies_40 rfl ?_
        refine y_iload_n (pc := 41) dX5_lies_41 rfl ?_
        refine y_callVi (pc := 42) v_X4_addThing l_X5_103 dX5_lies_42 (c_X4_addThing n _ _ _ _) (fun _ h => nomatch h) rfl (rc_X4 (by decide)) rfl (by decide) (by decide) (Nat.le_of_ble_eq_true rfl) (fun r8 M7 _ => ?_)
        refine y_gd (fun h9 => ?_)
        refine y_if_ne (off := 9) (tgt := 54) (pc := 45) dX5_lies_45 (by decide) h9 (fun h10 => ?_) (fun h10 => ?_)
        · refine y_aload_n (pc := 54) dX5_lies_54 rfl ?_
          refine y_iconst (pc := 55) dX5_lies_55 ?_
          refine y_putintw (pc := 56) pf_X5_27 dX5_lies_56 (fun M11 => ?_)
          refine y_aload_n (pc := 59) dX5_lies_59 rfl ?_
          refine y_getref (pc := 60) (x := 0) g_X5_10 dX5_lies_60 ?_
          refine y_getint (pc := 63) (g_X5_207 (by decide)) dX5_lies_63 ?_
          refine y_iconst (pc := 66) dX5_lies_66 ?_
          refine y_isub (pc := 67) dX5_lies_67 ?_
          exact y_iret (pc := 68) dX5_lies_68
        · refine y_aload_n (pc := 48) dX5_lies_48 rfl ?_
          refine y_iconst (pc := 49) dX5_lies_49 ?_
          refine y_callVi (pc := 50) v_X5_refuse l_X5_60 dX5_lies_50 (c_X5_refuse n _ _) (fun _ h => nomatch h) rfl rc_X5 rfl (by decide) (by decide) (Nat.le_of_ble_eq_true rfl) (fun r13 M12 _ => ?_)
          exact y_iret (pc := 53) dX5_lies_53
      · exact y_sub (ls_s (ls_n (ls_n ls_0))) (t_X5_lies_29 n M)
  · refine y_aload_n (pc := 4) dX5_lies_4 rfl ?_
    refine y_bipush (pc := 5) dX5_lies_5 (by decide) ?_
    refine y_callVi (pc := 7) v_X5_refuse l_X5_60 dX5_lies_7 (c_X5_refuse n _ _) (fun _ h => nomatch h) rfl rc_X5 rfl (by decide) (by decide) (Nat.le_of_ble_eq_true rfl) (fun r15 M14 _ => ?_)
    exact y_iret (pc := 10) dX5_lies_10
theorem c_X5_lies (n : Nat) (M : Mem) (a1 : Int) (a2 : Int) : ∀ res : Int × Mem, m_X5_lies n M a1 a2 = some res → CTi none yX5_lies cX5_lies 3 (some .int) 2 [rv 130, iv a1, iv a2] M res := CTi_of (by decide +kernel) rfl (Nat.le_of_ble_eq_true rfl) rfl (y_X5_lies n M a1 a2)
def m_X5_keepForBack_58 (n : Nat) (M : Mem) : Rs := if 0 ≤ (rd M 130 4) ∧ (rd M 130 4) < 8 then (if isW (Int.toNat (rd M 131 (Int.toNat (rd M 130 4)))) then (bd (m_X4_become n M (Int.toNat (rd M 131 (Int.toNat (rd M 130 4)))) 0) (fun _ M3 => wr M3 130 4 ((rd M3 130 4) + 1) (fun M4 => some (0, M4)))) else none) else none
theorem t_X5_keepForBack_58 (n : Nat) (M : Mem) : Y RX5 cX5_keepForBack 3 2 3 none 58 [some (rv 130), none, none] [] M (m_X5_keepForBack_58 n M) := by
  unfold m_X5_keepForBack_58
  refine y_aload_n (pc := 58) dX5_keepForBack_58 rfl ?_
  refine y_getref (pc := 59) (x := 131) g_X5_23 dX5_keepForBack_59 ?_
  refine y_aload_n (pc := 62) dX5_keepForBack_62 rfl ?_
  refine y_getint (pc := 63) g_X5_27 dX5_keepForBack_63 ?_
  refine y_gd (fun h1 => ?_)
  refine y_aald (pc := 66) dX5_keepForBack_66 h1 ?_
  refine y_aload_n (pc := 67) dX5_keepForBack_67 rfl ?_
  refine y_getref (pc := 68) (x := 0) g_X5_10 dX5_keepForBack_68 ?_
  refine y_gd (fun h2 => ?_)
  refine y_callVv (pc := 71) v_X4_become l_X5_84 dX5_keepForBack_71 (c_X4_become n _ _ _) (fun _ h => nomatch h) rfl (rc_X4 h2) rfl (by decide) (by decide) (Nat.le_of_ble_eq_true rfl) (fun _ M3 _ => ?_)
  refine y_aload_n (pc := 74) dX5_keepForBack_74 rfl ?_
  refine y_dup (pc := 75) dX5_keepForBack_75 rfl ?_
  refine y_getint (pc := 76) g_X5_27 dX5_keepForBack_76 ?_
  refine y_iconst (pc := 79) dX5_keepForBack_79 ?_
  refine y_iadd (pc := 80) dX5_keepForBack_80 ?_
  refine y_putintw (pc := 81) pf_X5_27 dX5_keepForBack_81 (fun M4 => ?_)
  exact y_vret (pc := 84) dX5_keepForBack_84
def m_X5_keepForBack_18 (n : Nat) : Nat → Mem → Nat → Int → Rs
  | 0, _, _, _ => none
  | t + 1, M, a1, a2 => if I32 a2 then (if 8 ≤ a2 then (wr M 131 (Int.toNat 7) ((a1 : Nat) : Int) (fun M7 => wr M7 130 4 7 (fun M8 => m_X5_keepForBack_58 n M8))) else (if 0 ≤ a2 ∧ a2 < 8 then (if 0 ≤ (a2 - 1) ∧ (a2 - 1) < 8 then (if isW (Int.toNat (rd M 131 (Int.toNat a2))) then (wr M 131 (Int.toNat (a2 - 1)) (((Int.toNat (rd M 131 (Int.toNat a2))) : Nat) : Int) (fun M12 => (m_X5_keepForBack_18 n t) M12 a1 (a2 + 1))) else none) else none) else none)) else none
theorem t_X5_keepForBack_18 (n : Nat) : ∀ (t : Nat) (M : Mem) (a1 : Nat) (a2 : Int), isW a1 → Y RX5 cX5_keepForBack 3 2 3 none 18 [some (rv 130), some (rv a1), some (iv a2)] [] M (m_X5_keepForBack_18 n t M a1 a2) := by
  intro t
  induction t with
  | zero => intro M a1 a2 ha1; exact y_none
  | succ t ih =>
    intro M a1 a2 ha1
    rewrite [m_X5_keepForBack_18]
    refine y_iload_n (pc := 18) dX5_keepForBack_18 rfl ?_
    refine y_bipush (pc := 19) dX5_keepForBack_19 (by decide) ?_
    refine y_gd (fun h5 => ?_)
    refine y_icmp_ge (off := 23) (tgt := 44) (pc := 21) dX5_keepForBack_21 (by decide) h5 (by decide) (fun h6 => ?_) (fun h6 => ?_)
    · refine y_aload_n (pc := 44) dX5_keepForBack_44 rfl ?_
      refine y_getref (pc := 45) (x := 131) g_X5_23 dX5_keepForBack_45 ?_
      refine y_bipush (pc := 48) dX5_keepForBack_48 (by decide) ?_
      refine y_aload_n (pc := 50) dX5_keepForBack_50 rfl ?_
      refine y_aastw (pc := 51) dX5_keepForBack_51 (by decide) ha1 (fun M7 => ?_)
      refine y_aload_n (pc := 52) dX5_keepForBack_52 rfl ?_
      refine y_bipush (pc := 53) dX5_keepForBack_53 (by decide) ?_
      refine y_putintw (pc := 55) pf_X5_27 dX5_keepForBack_55 (fun M8 => ?_)
      exact y_sub (ls_s (ls_n (ls_n ls_0))) (t_X5_keepForBack_58 n M8)
    · refine y_aload_n (pc := 24) dX5_keepForBack_24 rfl ?_
      refine y_getref (pc := 25) (x := 131) g_X5_23 dX5_keepForBack_25 ?_
      refine y_iload_n (pc := 28) dX5_keepForBack_28 rfl ?_
      refine y_iconst (pc := 29) dX5_keepForBack_29 ?_
      refine y_isub (pc := 30) dX5_keepForBack_30 ?_
      refine y_aload_n (pc := 31) dX5_keepForBack_31 rfl ?_
      refine y_getref (pc := 32) (x := 131) g_X5_23 dX5_keepForBack_32 ?_
      refine y_iload_n (pc := 35) dX5_keepForBack_35 rfl ?_
      refine y_gd (fun h9 => ?_)
      refine y_aald (pc := 36) dX5_keepForBack_36 h9 ?_
      refine y_gd (fun h10 => ?_)
      refine y_gd (fun h11 => ?_)
      refine y_aastw (pc := 37) dX5_keepForBack_37 h10 h11 (fun M12 => ?_)
      refine y_iinc (L' := [some (rv 130), some (rv a1), some (iv (a2 + 1))]) (pc := 38) dX5_keepForBack_38 rfl (by decide) rfl rfl ?_
      refine y_goto (tgt := 18) (pc := 41) dX5_keepForBack_41 (by decide) ?_
      exact y_sub (ls_s (ls_s (ls_s ls_0))) (ih M12 a1 (a2 + 1) ha1)
def m_X5_keepForBack (n : Nat) (M : Mem) : Rs := if (rd M 130 4) < 8 then (m_X5_keepForBack_58 n M) else (if isW (Int.toNat (rd M 131 (Int.toNat 0))) then (m_X5_keepForBack_18 n n M (Int.toNat (rd M 131 (Int.toNat 0))) 1) else none)
theorem y_X5_keepForBack (n : Nat) (M : Mem) : Y RX5 cX5_keepForBack 3 2 3 none 0 [some (rv 130), none, none] [] M (m_X5_keepForBack n M) := by
  unfold m_X5_keepForBack
  refine y_aload_n (pc := 0) dX5_keepForBack_0 rfl ?_
  refine y_getint (pc := 1) g_X5_27 dX5_keepForBack_1 ?_
  refine y_bipush (pc := 4) dX5_keepForBack_4 (by decide) ?_
  refine y_icmp_lt (off := 52) (tgt := 58) (pc := 6) dX5_keepForBack_6 (by decide) (rd_rng _ _ _) (by decide) (fun h13 => ?_) (fun h13 => ?_)
  · exact y_sub (ls_s (ls_n (ls_n ls_0))) (t_X5_keepForBack_58 n M)
  · refine y_aload_n (pc := 9) dX5_keepForBack_9 rfl ?_
    refine y_getref (pc := 10) (x := 131) g_X5_23 dX5_keepForBack_10 ?_
    refine y_iconst (pc := 13) dX5_keepForBack_13 ?_
    refine y_aald (pc := 14) dX5_keepForBack_14 (by decide) ?_
    refine y_astore_n (L' := [some (rv 130), some (rv (Int.toNat (rd M 131 (Int.toNat 0)))), none]) (pc := 15) dX5_keepForBack_15 (by decide) rfl rfl ?_
    refine y_iconst (pc := 16) dX5_keepForBack_16 ?_
    refine y_istore_n (L' := [some (rv 130), some (rv (Int.toNat (rd M 131 (Int.toNat 0)))), some (iv 1)]) (pc := 17) dX5_keepForBack_17 (by decide) rfl rfl ?_
    refine y_gd (fun h14 => ?_)
    exact y_sub (ls_s (ls_s (ls_s ls_0))) (t_X5_keepForBack_18 n n M (Int.toNat (rd M 131 (Int.toNat 0))) 1 h14)
theorem c_X5_keepForBack (n : Nat) (M : Mem) : ∀ res : Int × Mem, m_X5_keepForBack n M = some res → CTv none yX5_keepForBack cX5_keepForBack 3 2 [rv 130] M res := CTv_of (by decide +kernel) rfl (Nat.le_of_ble_eq_true rfl) rfl (y_X5_keepForBack n M)
def m_X5_outOfRange (n : Nat) (M : Mem) (a0 : Int) (a1 : Int) (a2 : Int) : Rs := if I32 a0 then (if I32 a1 then (if a1 ≤ a0 then (if I32 a2 then (if a0 ≤ a2 then (some (0, M)) else (some ((-6), M))) else none) else (some ((-4), M))) else none) else none
theorem y_X5_outOfRange (n : Nat) (M : Mem) (a0 : Int) (a1 : Int) (a2 : Int) : Y RX5 cX5_outOfRange 3 0 0 none 0 [some (iv a0), some (iv a1), some (iv a2)] [] M (m_X5_outOfRange n M a0 a1 a2) := by
  unfold m_X5_outOfRange
  refine y_iload_n (pc := 0) dX5_outOfRange_0 rfl ?_
  refine y_iload_n (pc := 1) dX5_outOfRange_1 rfl ?_
  refine y_gd (fun h1 => ?_)
  refine y_gd (fun h2 => ?_)
  refine y_icmp_ge (off := 6) (tgt := 8) (pc := 2) dX5_outOfRange_2 (by decide) h1 h2 (fun h3 => ?_) (fun h3 => ?_)
  · refine y_iload_n (pc := 8) dX5_outOfRange_8 rfl ?_
    refine y_iload_n (pc := 9) dX5_outOfRange_9 rfl ?_
    refine y_gd (fun h4 => ?_)
    refine y_icmp_le (off := 8) (tgt := 18) (pc := 10) dX5_outOfRange_10 (by decide) h1 h4 (fun h5 => ?_) (fun h5 => ?_)
    · refine y_iconst (pc := 18) dX5_outOfRange_18 ?_
      exact y_iret (pc := 19) dX5_outOfRange_19
    · refine y_bipush (pc := 13) dX5_outOfRange_13 (by decide) ?_
      refine y_goto (tgt := 19) (pc := 15) dX5_outOfRange_15 (by decide) ?_
      exact y_iret (pc := 19) dX5_outOfRange_19
  · refine y_bipush (pc := 5) dX5_outOfRange_5 (by decide) ?_
    exact y_iret (pc := 7) dX5_outOfRange_7
theorem c_X5_outOfRange (n : Nat) (M : Mem) (a0 : Int) (a1 : Int) (a2 : Int) : ∀ res : Int × Mem, m_X5_outOfRange n M a0 a1 a2 = some res → CTi none yX5_outOfRange cX5_outOfRange 3 (some .int) 0 [iv a0, iv a1, iv a2] M res := CTi_of (by decide +kernel) rfl (Nat.le_of_ble_eq_true rfl) rfl (y_X5_outOfRange n M a0 a1 a2)
def m_X5_thick (n : Nat) (M : Mem) (a1 : Int) : Rs := bd (m_X5_outOfRange n M a1 1 9) (fun r2 M1 => if I32 r2 then (if r2 = 0 then (bd (m_X5_keepForBack n M1) (fun _ M5 => wr M5 0 14 a1 (fun M6 => some ((rd M5 0 14), M6)))) else (bd (m_X5_refuse n M1 r2) (fun r8 M7 => some (r8, M7)))) else none)
theorem y_X5_thick (n : Nat) (M : Mem) (a1 : Int) : Y RX5 cX5_thick 4 3 0 none 0 [some (rv 130), some (iv a1), none, none] [] M (m_X5_thick n M a1) := by
  unfold m_X5_thick
  refine y_iload_n (pc := 0) dX5_thick_0 rfl ?_
  refine y_iconst (pc := 1) dX5_thick_1 ?_
  refine y_bipush (pc := 2) dX5_thick_2 (by decide) ?_
  refine y_callSi (pc := 4) s_X5_outOfRange l_X5_220 dX5_thick_4 (c_X5_outOfRange n _ _ _ _) (fun _ h => nomatch h) rfl rfl (by decide) (by decide) (Nat.le_of_ble_eq_true rfl) (fun r2 M1 _ => ?_)
  refine y_istore_n (L' := [some (rv 130), some (iv a1), some (iv r2), none]) (pc := 7) dX5_thick_7 (by decide) rfl rfl ?_
  refine y_iload_n (pc := 8) dX5_thick_8 rfl ?_
  refine y_gd (fun h3 => ?_)
  refine y_if_eq (off := 9) (tgt := 18) (pc := 9) dX5_thick_9 (by decide) h3 (fun h4 => ?_) (fun h4 => ?_)
  · refine y_aload_n (pc := 18) dX5_thick_18 rfl ?_
    refine y_callVv (pc := 19) v_X5_keepForBack l_X5_224 dX5_thick_19 (c_X5_keepForBack n _) (fun _ h => nomatch h) rfl rc_X5 rfl (by decide) (by decide) (Nat.le_of_ble_eq_true rfl) (fun _ M5 _ => ?_)
    refine y_aload_n (pc := 22) dX5_thick_22 rfl ?_
    refine y_getref (pc := 23) (x := 0) g_X5_10 dX5_thick_23 ?_
    refine y_getint (pc := 26) (g_X5_107 (by decide)) dX5_thick_26 ?_
    refine y_istore_n (L' := [some (rv 130), some (iv a1), some (iv r2), some (iv (rd M5 0 14))]) (pc := 29) dX5_thick_29 (by decide) rfl rfl ?_
    refine y_aload_n (pc := 30) dX5_thick_30 rfl ?_
    refine y_getref (pc := 31) (x := 0) g_X5_10 dX5_thick_31 ?_
    refine y_iload_n (pc := 34) dX5_thick_34 rfl ?_
    refine y_putintw (pc := 35) (pf_X5_107 (by decide)) dX5_thick_35 (fun M6 => ?_)
    refine y_iload_n (pc := 38) dX5_thick_38 rfl ?_
    exact y_iret (pc := 39) dX5_thick_39
  · refine y_aload_n (pc := 12) dX5_thick_12 rfl ?_
    refine y_iload_n (pc := 13) dX5_thick_13 rfl ?_
    refine y_callVi (pc := 14) v_X5_refuse l_X5_60 dX5_thick_14 (c_X5_refuse n _ _) (fun _ h => nomatch h) rfl rc_X5 rfl (by decide) (by decide) (Nat.le_of_ble_eq_true rfl) (fun r8 M7 _ => ?_)
    exact y_iret (pc := 17) dX5_thick_17
theorem c_X5_thick (n : Nat) (M : Mem) (a1 : Int) : ∀ res : Int × Mem, m_X5_thick n M a1 = some res → CTi none yX5_thick cX5_thick 4 (some .int) 3 [rv 130, iv a1] M res := CTi_of (by decide +kernel) rfl (Nat.le_of_ble_eq_true rfl) rfl (y_X5_thick n M a1)
def m_X5_owns_33 (n : Nat) (M : Mem) (a1 : Int) (a2 : Int) : Rs := bd (m_X5_keepForBack n M) (fun _ M1 => if 0 ≤ a1 ∧ a1 < 8 then (lt (rd M1 6 (Int.toNat a1)) (fun x3 => wr M1 6 (Int.toNat a1) a2 (fun M4 => bd (m_X5_orNone n M4 x3) (fun r6 M5 => some (r6, M5))))) else none)
theorem t_X5_owns_33 (n : Nat) (M : Mem) (a1 : Int) (a2 : Int) : Y RX5 cX5_owns 4 3 0 none 33 [some (rv 130), some (iv a1), some (iv a2), none] [] M (m_X5_owns_33 n M a1 a2) := by
  unfold m_X5_owns_33
  refine y_aload_n (pc := 33) dX5_owns_33 rfl ?_
  refine y_callVv (pc := 34) v_X5_keepForBack l_X5_224 dX5_owns_34 (c_X5_keepForBack n _) (fun _ h => nomatch h) rfl rc_X5 rfl (by decide) (by decide) (Nat.le_of_ble_eq_true rfl) (fun _ M1 _ => ?_)
  refine y_aload_n (pc := 37) dX5_owns_37 rfl ?_
  refine y_getref (pc := 38) (x := 0) g_X5_10 dX5_owns_38 ?_
  refine y_getref (pc := 41) (x := 6) (g_X5_168 (by decide)) dX5_owns_41 ?_
  refine y_iload_n (pc := 44) dX5_owns_44 rfl ?_
  refine y_gd (fun h2 => ?_)
  refine y_iald (pc := 45) dX5_owns_45 ar_6 h2 ?_
  refine y_leti (fun x3 => ?_)
  refine y_istore_n (L' := [some (rv 130), some (iv a1), some (iv a2), some (iv x3)]) (pc := 46) dX5_owns_46 (by decide) rfl rfl ?_
  refine y_aload_n (pc := 47) dX5_owns_47 rfl ?_
  refine y_getref (pc := 48) (x := 0) g_X5_10 dX5_owns_48 ?_
  refine y_getref (pc := 51) (x := 6) (g_X5_168 (by decide)) dX5_owns_51 ?_
  refine y_iload_n (pc := 54) dX5_owns_54 rfl ?_
  refine y_iload_n (pc := 55) dX5_owns_55 rfl ?_
  refine y_iastw (pc := 56) dX5_owns_56 ar_6 h2 (fun M4 => ?_)
  refine y_iload_n (pc := 57) dX5_owns_57 rfl ?_
  refine y_callSi (pc := 58) s_X5_orNone l_X5_171 dX5_owns_58 (c_X5_orNone n _ _) (fun _ h => nomatch h) rfl rfl (by decide) (by decide) (Nat.le_of_ble_eq_true rfl) (fun r6 M5 _ => ?_)
  exact y_iret (pc := 61) dX5_owns_61
def m_X5_owns_27 (n : Nat) (M : Mem) : Rs := bd (m_X5_refuse n M (-1)) (fun r8 M7 => some (r8, M7))
theorem t_X5_owns_27 (n : Nat) (M : Mem) : Y RX5 cX5_owns 4 3 0 none 27 [some (rv 130), none, none, none] [] M (m_X5_owns_27 n M) := by
  unfold m_X5_owns_27
  refine y_aload_n (pc := 27) dX5_owns_27 rfl ?_
  refine y_iconst (pc := 28) dX5_owns_28 ?_
  refine y_callVi (pc := 29) v_X5_refuse l_X5_60 dX5_owns_29 (c_X5_refuse n _ _) (fun _ h => nomatch h) rfl rc_X5 rfl (by decide) (by decide) (Nat.le_of_ble_eq_true rfl) (fun r8 M7 _ => ?_)
  exact y_iret (pc := 32) dX5_owns_32
def m_X5_owns (n : Nat) (M : Mem) (a1 : Int) (a2 : Int) : Rs := bd (m_X4_hasThing n M 0 a1) (fun r10 M9 => if I32 r10 then (if r10 = 0 then (m_X5_owns_27 n M9) else (if I32 a2 then (if a2 = (-1) then (m_X5_owns_33 n M9 a1 a2) else (bd (m_X4_hasPerson n M9 0 a2) (fun r16 M15 => if I32 r16 then (if r16 = 0 then (m_X5_owns_27 n M15) else (m_X5_owns_33 n M15 a1 a2)) else none))) else none)) else none)
theorem y_X5_owns (n : Nat) (M : Mem) (a1 : Int) (a2 : Int) : Y RX5 cX5_owns 4 3 0 none 0 [some (rv 130), some (iv a1), some (iv a2), none] [] M (m_X5_owns n M a1 a2) := by
  unfold m_X5_owns
  refine y_aload_n (pc := 0) dX5_owns_0 rfl ?_
  refine y_getref (pc := 1) (x := 0) g_X5_10 dX5_owns_1 ?_
  refine y_iload_n (pc := 4) dX5_owns_4 rfl ?_
  refine y_callVi (pc := 5) v_X4_hasThing l_X5_159 dX5_owns_5 (c_X4_hasThing n _ _ _) (fun _ h => nomatch h) rfl (rc_X4 (by decide)) rfl (by decide) (by decide) (Nat.le_of_ble_eq_true rfl) (fun r10 M9 _ => ?_)
  refine y_gd (fun h11 => ?_)
  refine y_if_eq (off := 19) (tgt := 27) (pc := 8) dX5_owns_8 (by decide) h11 (fun h12 => ?_) (fun h12 => ?_)
  · exact y_sub (ls_s (ls_n (ls_n (ls_n ls_0)))) (t_X5_owns_27 n M9)
  · refine y_iload_n (pc := 11) dX5_owns_11 rfl ?_
    refine y_iconst (pc := 12) dX5_owns_12 ?_
    refine y_gd (fun h13 => ?_)
    refine y_icmp_eq (off := 20) (tgt := 33) (pc := 13) dX5_owns_13 (by decide) h13 (by decide) (fun h14 => ?_) (fun h14 => ?_)
    · exact y_sub (ls_s (ls_s (ls_s (ls_n ls_0)))) (t_X5_owns_33 n M9 a1 a2)
    · refine y_aload_n (pc := 16) dX5_owns_16 rfl ?_
      refine y_getref (pc := 17) (x := 0) g_X5_10 dX5_owns_17 ?_
      refine y_iload_n (pc := 20) dX5_owns_20 rfl ?_
      refine y_callVi (pc := 21) v_X4_hasPerson l_X5_123 dX5_owns_21 (c_X4_hasPerson n _ _ _) (fun _ h => nomatch h) rfl (rc_X4 (by decide)) rfl (by decide) (by decide) (Nat.le_of_ble_eq_true rfl) (fun r16 M15 _ => ?_)
      refine y_gd (fun h17 => ?_)
      refine y_if_ne (off := 9) (tgt := 33) (pc := 24) dX5_owns_24 (by decide) h17 (fun h18 => ?_) (fun h18 => ?_)
      · exact y_sub (ls_s (ls_s (ls_s (ls_n ls_0)))) (t_X5_owns_33 n M15 a1 a2)
      · exact y_sub (ls_s (ls_n (ls_n (ls_n ls_0)))) (t_X5_owns_27 n M15)
theorem c_X5_owns (n : Nat) (M : Mem) (a1 : Int) (a2 : Int) : ∀ res : Int × Mem, m_X5_owns n M a1 a2 = some res → CTi none yX5_owns cX5_owns 4 (some .int) 3 [rv 130, iv a1, iv a2] M res := CTi_of (by decide +kernel) rfl (Nat.le_of_ble_eq_true rfl) rfl (y_X5_owns n M a1 a2)
def m_X5_stands_18 (n : Nat) (M : Mem) : Rs := bd (m_X5_refuse n M (-1)) (fun r2 M1 => some (r2, M1))
theorem t_X5_stands_18 (n : Nat) (M : Mem) : Y RX5 cX5_stands 4 3 0 none 18 [some (rv 130), none, none, none] [] M (m_X5_stands_18 n M) := by
  unfold m_X5_stands_18
  refine y_aload_n (pc := 18) dX5_stands_18 rfl ?_
  refine y_iconst (pc := 19) dX5_stands_19 ?_
  refine y_callVi (pc := 20) v_X5_refuse l_X5_60 dX5_stands_20 (c_X5_refuse n _ _) (fun _ h => nomatch h) rfl rc_X5 rfl (by decide) (by decide) (Nat.le_of_ble_eq_true rfl) (fun r2 M1 _ => ?_)
  exact y_iret (pc := 23) dX5_stands_23
def m_X5_stands (n : Nat) (M : Mem) (a1 : Int) (a2 : Int) : Rs := bd (m_X4_hasPerson n M 0 a1) (fun r4 M3 => if I32 r4 then (if r4 = 0 then (m_X5_stands_18 n M3) else (bd (m_X5_isCell n M3 a2) (fun r8 M7 => if I32 r8 then (if r8 = 0 then (m_X5_stands_18 n M7) else (bd (m_X5_keepForBack n M7) (fun _ M11 => if 0 ≤ a1 ∧ a1 < 5 then (lt (rd M11 10 (Int.toNat a1)) (fun x13 => wr M11 10 (Int.toNat a1) a2 (fun M14 => some (x13, M14)))) else none))) else none))) else none)
theorem y_X5_stands (n : Nat) (M : Mem) (a1 : Int) (a2 : Int) : Y RX5 cX5_stands 4 3 0 none 0 [some (rv 130), some (iv a1), some (iv a2), none] [] M (m_X5_stands n M a1 a2) := by
  unfold m_X5_stands
  refine y_aload_n (pc := 0) dX5_stands_0 rfl ?_
  refine y_getref (pc := 1) (x := 0) g_X5_10 dX5_stands_1 ?_
  refine y_iload_n (pc := 4) dX5_stands_4 rfl ?_
  refine y_callVi (pc := 5) v_X4_hasPerson l_X5_123 dX5_stands_5 (c_X4_hasPerson n _ _ _) (fun _ h => nomatch h) rfl (rc_X4 (by decide)) rfl (by decide) (by decide) (Nat.le_of_ble_eq_true rfl) (fun r4 M3 _ => ?_)
  refine y_gd (fun h5 => ?_)
  refine y_if_eq (off := 10) (tgt := 18) (pc := 8) dX5_stands_8 (by decide) h5 (fun h6 => ?_) (fun h6 => ?_)
  · exact y_sub (ls_s (ls_n (ls_n (ls_n ls_0)))) (t_X5_stands_18 n M3)
  · refine y_iload_n (pc := 11) dX5_stands_11 rfl ?_
    refine y_callSi (pc := 12) s_X5_isCell l_X5_186 dX5_stands_12 (c_X5_isCell n _ _) (fun _ h => nomatch h) rfl rfl (by decide) (by decide) (Nat.le_of_ble_eq_true rfl) (fun r8 M7 _ => ?_)
    refine y_gd (fun h9 => ?_)
    refine y_if_ne (off := 9) (tgt := 24) (pc := 15) dX5_stands_15 (by decide) h9 (fun h10 => ?_) (fun h10 => ?_)
    · refine y_aload_n (pc := 24) dX5_stands_24 rfl ?_
      refine y_callVv (pc := 25) v_X5_keepForBack l_X5_224 dX5_stands_25 (c_X5_keepForBack n _) (fun _ h => nomatch h) rfl rc_X5 rfl (by decide) (by decide) (Nat.le_of_ble_eq_true rfl) (fun _ M11 _ => ?_)
      refine y_aload_n (pc := 28) dX5_stands_28 rfl ?_
      refine y_getref (pc := 29) (x := 0) g_X5_10 dX5_stands_29 ?_
      refine y_getref (pc := 32) (x := 10) (g_X5_135 (by decide)) dX5_stands_32 ?_
      refine y_iload_n (pc := 35) dX5_stands_35 rfl ?_
      refine y_gd (fun h12 => ?_)
      refine y_iald (pc := 36) dX5_stands_36 ar_10 h12 ?_
      refine y_leti (fun x13 => ?_)
      refine y_istore_n (L' := [some (rv 130), some (iv a1), some (iv a2), some (iv x13)]) (pc := 37) dX5_stands_37 (by decide) rfl rfl ?_
      refine y_aload_n (pc := 38) dX5_stands_38 rfl ?_
      refine y_getref (pc := 39) (x := 0) g_X5_10 dX5_stands_39 ?_
      refine y_getref (pc := 42) (x := 10) (g_X5_135 (by decide)) dX5_stands_42 ?_
      refine y_iload_n (pc := 45) dX5_stands_45 rfl ?_
      refine y_iload_n (pc := 46) dX5_stands_46 rfl ?_
      refine y_iastw (pc := 47) dX5_stands_47 ar_10 h12 (fun M14 => ?_)
      refine y_iload_n (pc := 48) dX5_stands_48 rfl ?_
      exact y_iret (pc := 49) dX5_stands_49
    · exact y_sub (ls_s (ls_n (ls_n (ls_n ls_0)))) (t_X5_stands_18 n M7)
theorem c_X5_stands (n : Nat) (M : Mem) (a1 : Int) (a2 : Int) : ∀ res : Int × Mem, m_X5_stands n M a1 a2 = some res → CTi none yX5_stands cX5_stands 4 (some .int) 3 [rv 130, iv a1, iv a2] M res := CTi_of (by decide +kernel) rfl (Nat.le_of_ble_eq_true rfl) rfl (y_X5_stands n M a1 a2)
def m_X5_thinkOn (n : Nat) (M : Mem) (a1 : Int) : Rs := bd (m_X0_begin n M 0) (fun _ M1 => bd (m_X0_goOn n M1 a1) (fun _ M2 => some (0, M2)))
theorem y_X5_thinkOn (n : Nat) (M : Mem) (a1 : Int) : Y RX5 cX5_thinkOn 2 5 3 none 0 [some (rv 130), some (iv a1)] [] M (m_X5_thinkOn n M a1) := by
  unfold m_X5_thinkOn
  refine y_aload_n (pc := 0) dX5_thinkOn_0 rfl ?_
  refine y_getref (pc := 1) (x := 129) g_X5_50 dX5_thinkOn_1 ?_
  refine y_aload_n (pc := 4) dX5_thinkOn_4 rfl ?_
  refine y_getref (pc := 5) (x := 0) g_X5_10 dX5_thinkOn_5 ?_
  refine y_callVv (pc := 8) v_X0_begin l_X5_67 dX5_thinkOn_8 (c_X0_begin n _ _) (fun _ h => nomatch h) rfl rc_X0 rfl (by decide) (by decide) (Nat.le_of_ble_eq_true rfl) (fun _ M1 _ => ?_)
  refine y_aload_n (pc := 11) dX5_thinkOn_11 rfl ?_
  refine y_getref (pc := 12) (x := 129) g_X5_50 dX5_thinkOn_12 ?_
  refine y_iload_n (pc := 15) dX5_thinkOn_15 rfl ?_
  refine y_callVv (pc := 16) v_X0_goOn l_X5_119 dX5_thinkOn_16 (c_X0_goOn n _ _) (fun _ h => nomatch h) rfl rc_X0 rfl (by decide) (by decide) (Nat.le_of_ble_eq_true rfl) (fun _ M2 _ => ?_)
  exact y_vret (pc := 19) dX5_thinkOn_19
theorem c_X5_thinkOn (n : Nat) (M : Mem) (a1 : Int) : ∀ res : Int × Mem, m_X5_thinkOn n M a1 = some res → CTv none yX5_thinkOn cX5_thinkOn 2 5 [rv 130, iv a1] M res := CTv_of (by decide +kernel) rfl (Nat.le_of_ble_eq_true rfl) rfl (y_X5_thinkOn n M a1)
def m_X5_hours (n : Nat) (M : Mem) (a1 : Int) : Rs := bd (m_X5_outOfRange n M a1 1 60) (fun r2 M1 => if I32 r2 then (if r2 = 0 then (if I32 ((rd M1 0 13) + a1) then (if ((rd M1 0 13) + a1) ≤ 999 then (bd (m_X5_keepForBack n M1) (fun _ M7 => bd (m_X5_thinkOn n M7 a1) (fun _ M8 => bd (m_X4_become n M8 0 22) (fun _ M9 => bd (m_X4_ownedThings n M9 0) (fun r11 M10 => some (r11, M10)))))) else (bd (m_X5_refuse n M1 (-6)) (fun r13 M12 => some (r13, M12)))) else none) else (bd (m_X5_refuse n M1 r2) (fun r15 M14 => some (r15, M14)))) else none)
theorem y_X5_hours (n : Nat) (M : Mem) (a1 : Int) : Y RX5 cX5_hours 3 6 0 none 0 [some (rv 130), some (iv a1), none] [] M (m_X5_hours n M a1) := by
  unfold m_X5_hours
  refine y_iload_n (pc := 0) dX5_hours_0 rfl ?_
  refine y_iconst (pc := 1) dX5_hours_1 ?_
  refine y_bipush (pc := 2) dX5_hours_2 (by decide) ?_
  refine y_callSi (pc := 4) s_X5_outOfRange l_X5_220 dX5_hours_4 (c_X5_outOfRange n _ _ _ _) (fun _ h => nomatch h) rfl rfl (by decide) (by decide) (Nat.le_of_ble_eq_true rfl) (fun r2 M1 _ => ?_)
  refine y_istore_n (L' := [some (rv 130), some (iv a1), some (iv r2)]) (pc := 7) dX5_hours_7 (by decide) rfl rfl ?_
  refine y_iload_n (pc := 8) dX5_hours_8 rfl ?_
  refine y_gd (fun h3 => ?_)
  refine y_if_eq (off := 9) (tgt := 18) (pc := 9) dX5_hours_9 (by decide) h3 (fun h4 => ?_) (fun h4 => ?_)
  · refine y_aload_n (pc := 18) dX5_hours_18 rfl ?_
    refine y_getref (pc := 19) (x := 0) g_X5_10 dX5_hours_19 ?_
    refine y_getint (pc := 22) (g_X5_116 (by decide)) dX5_hours_22 ?_
    refine y_iload_n (pc := 25) dX5_hours_25 rfl ?_
    refine y_iadd (pc := 26) dX5_hours_26 ?_
    refine y_sipush (pc := 27) dX5_hours_27 (by decide) ?_
    refine y_gd (fun h5 => ?_)
    refine y_icmp_le (off := 10) (tgt := 40) (pc := 30) dX5_hours_30 (by decide) h5 (by decide) (fun h6 => ?_) (fun h6 => ?_)
    · refine y_aload_n (pc := 40) dX5_hours_40 rfl ?_
      refine y_callVv (pc := 41) v_X5_keepForBack l_X5_224 dX5_hours_41 (c_X5_keepForBack n _) (fun _ h => nomatch h) rfl rc_X5 rfl (by decide) (by decide) (Nat.le_of_ble_eq_true rfl) (fun _ M7 _ => ?_)
      refine y_aload_n (pc := 44) dX5_hours_44 rfl ?_
      refine y_iload_n (pc := 45) dX5_hours_45 rfl ?_
      refine y_callVv (pc := 46) v_X5_thinkOn l_X5_227 dX5_hours_46 (c_X5_thinkOn n _ _) (fun _ h => nomatch h) rfl rc_X5 rfl (by decide) (by decide) (Nat.le_of_ble_eq_true rfl) (fun _ M8 _ => ?_)
      refine y_aload_n (pc := 49) dX5_hours_49 rfl ?_
      refine y_getref (pc := 50) (x := 0) g_X5_10 dX5_hours_50 ?_
      refine y_aload_n (pc := 53) dX5_hours_53 rfl ?_
      refine y_getref (pc := 54) (x := 129) g_X5_50 dX5_hours_54 ?_
      refine y_getref (pc := 57) (x := 22) g_X5_81 dX5_hours_57 ?_
      refine y_callVv (pc := 60) v_X4_become l_X5_84 dX5_hours_60 (c_X4_become n _ _ _) (fun _ h => nomatch h) rfl (rc_X4 (by decide)) rfl (by decide) (by decide) (Nat.le_of_ble_eq_true rfl) (fun _ M9 _ => ?_)
      refine y_aload_n (pc := 63) dX5_hours_63 rfl ?_
      refine y_getref (pc := 64) (x := 0) g_X5_10 dX5_hours_64 ?_
      refine y_callVi (pc := 67) v_X4_ownedThings l_X5_213 dX5_hours_67 (c_X4_ownedThings n _ _) (fun _ h => nomatch h) rfl (rc_X4 (by decide)) rfl (by decide) (by decide) (Nat.le_of_ble_eq_true rfl) (fun r11 M10 _ => ?_)
      exact y_iret (pc := 70) dX5_hours_70
    · refine y_aload_n (pc := 33) dX5_hours_33 rfl ?_
      refine y_bipush (pc := 34) dX5_hours_34 (by decide) ?_
      refine y_callVi (pc := 36) v_X5_refuse l_X5_60 dX5_hours_36 (c_X5_refuse n _ _) (fun _ h => nomatch h) rfl rc_X5 rfl (by decide) (by decide) (Nat.le_of_ble_eq_true rfl) (fun r13 M12 _ => ?_)
      exact y_iret (pc := 39) dX5_hours_39
  · refine y_aload_n (pc := 12) dX5_hours_12 rfl ?_
    refine y_iload_n (pc := 13) dX5_hours_13 rfl ?_
    refine y_callVi (pc := 14) v_X5_refuse l_X5_60 dX5_hours_14 (c_X5_refuse n _ _) (fun _ h => nomatch h) rfl rc_X5 rfl (by decide) (by decide) (Nat.le_of_ble_eq_true rfl) (fun r15 M14 _ => ?_)
    exact y_iret (pc := 17) dX5_hours_17
theorem c_X5_hours (n : Nat) (M : Mem) (a1 : Int) : ∀ res : Int × Mem, m_X5_hours n M a1 = some res → CTi none yX5_hours cX5_hours 3 (some .int) 6 [rv 130, iv a1] M res := CTi_of (by decide +kernel) rfl (Nat.le_of_ble_eq_true rfl) rfl (y_X5_hours n M a1)
def m_X5_back_16 (n : Nat) (M : Mem) : Rs := bd (m_X5_refuse n M (-3)) (fun r2 M1 => some (r2, M1))
theorem t_X5_back_16 (n : Nat) (M : Mem) : Y RX5 cX5_back 1 2 0 none 16 [some (rv 130)] [] M (m_X5_back_16 n M) := by
  unfold m_X5_back_16
  refine y_aload_n (pc := 16) dX5_back_16 rfl ?_
  refine y_bipush (pc := 17) dX5_back_17 (by decide) ?_
  refine y_callVi (pc := 19) v_X5_refuse l_X5_60 dX5_back_19 (c_X5_refuse n _ _) (fun _ h => nomatch h) rfl rc_X5 rfl (by decide) (by decide) (Nat.le_of_ble_eq_true rfl) (fun r2 M1 _ => ?_)
  exact y_iret (pc := 22) dX5_back_22
def m_X5_back (n : Nat) (M : Mem) : Rs := if (rd M 130 4) ≤ 0 then (m_X5_back_16 n M) else (if (rd M 130 4) ≤ 8 then (wr M 130 4 ((rd M 130 4) - 1) (fun M5 => if 0 ≤ (rd M5 130 4) ∧ (rd M5 130 4) < 8 then (bd (m_X4_become n M5 0 (Int.toNat (rd M5 131 (Int.toNat (rd M5 130 4))))) (fun _ M7 => some ((rd M7 130 4), M7))) else none)) else (m_X5_back_16 n M))
theorem y_X5_back (n : Nat) (M : Mem) : Y RX5 cX5_back 1 2 0 none 0 [some (rv 130)] [] M (m_X5_back n M) := by
  unfold m_X5_back
  refine y_aload_n (pc := 0) dX5_back_0 rfl ?_
  refine y_getint (pc := 1) g_X5_27 dX5_back_1 ?_
  refine y_if_le (off := 12) (tgt := 16) (pc := 4) dX5_back_4 (by decide) (rd_rng _ _ _) (fun h3 => ?_) (fun h3 => ?_)
  · exact y_sub (ls_s ls_0) (t_X5_back_16 n M)
  · refine y_aload_n (pc := 7) dX5_back_7 rfl ?_
    refine y_getint (pc := 8) g_X5_27 dX5_back_8 ?_
    refine y_bipush (pc := 11) dX5_back_11 (by decide) ?_
    refine y_icmp_le (off := 10) (tgt := 23) (pc := 13) dX5_back_13 (by decide) (rd_rng _ _ _) (by decide) (fun h4 => ?_) (fun h4 => ?_)
    · refine y_aload_n (pc := 23) dX5_back_23 rfl ?_
      refine y_dup (pc := 24) dX5_back_24 rfl ?_
      refine y_getint (pc := 25) g_X5_27 dX5_back_25 ?_
      refine y_iconst (pc := 28) dX5_back_28 ?_
      refine y_isub (pc := 29) dX5_back_29 ?_
      refine y_putintw (pc := 30) pf_X5_27 dX5_back_30 (fun M5 => ?_)
      refine y_aload_n (pc := 33) dX5_back_33 rfl ?_
      refine y_getref (pc := 34) (x := 0) g_X5_10 dX5_back_34 ?_
      refine y_aload_n (pc := 37) dX5_back_37 rfl ?_
      refine y_getref (pc := 38) (x := 131) g_X5_23 dX5_back_38 ?_
      refine y_aload_n (pc := 41) dX5_back_41 rfl ?_
      refine y_getint (pc := 42) g_X5_27 dX5_back_42 ?_
      refine y_gd (fun h6 => ?_)
      refine y_aald (pc := 45) dX5_back_45 h6 ?_
      refine y_callVv (pc := 46) v_X4_become l_X5_84 dX5_back_46 (c_X4_become n _ _ _) (fun _ h => nomatch h) rfl (rc_X4 (by decide)) rfl (by decide) (by decide) (Nat.le_of_ble_eq_true rfl) (fun _ M7 _ => ?_)
      refine y_aload_n (pc := 49) dX5_back_49 rfl ?_
      refine y_getint (pc := 50) g_X5_27 dX5_back_50 ?_
      exact y_iret (pc := 53) dX5_back_53
    · exact y_sub (ls_s ls_0) (t_X5_back_16 n M)
theorem c_X5_back (n : Nat) (M : Mem) : ∀ res : Int × Mem, m_X5_back n M = some res → CTi none yX5_back cX5_back 1 (some .int) 2 [rv 130] M res := CTi_of (by decide +kernel) rfl (Nat.le_of_ble_eq_true rfl) rfl (y_X5_back n M)
def m_X5_then_27 (n : Nat) (M : Mem) : Rs := bd (m_X5_refuse n M (-2)) (fun r2 M1 => some (r2, M1))
theorem t_X5_then_27 (n : Nat) (M : Mem) : Y RX5 cX5_then 4 6 0 none 27 [some (rv 130), none, none, none] [] M (m_X5_then_27 n M) := by
  unfold m_X5_then_27
  refine y_aload_n (pc := 27) dX5_then_27 rfl ?_
  refine y_bipush (pc := 28) dX5_then_28 (by decide) ?_
  refine y_callVi (pc := 30) v_X5_refuse l_X5_60 dX5_then_30 (c_X5_refuse n _ _) (fun _ h => nomatch h) rfl rc_X5 rfl (by decide) (by decide) (Nat.le_of_ble_eq_true rfl) (fun r2 M1 _ => ?_)
  exact y_iret (pc := 33) dX5_then_33
def m_X5_then (n : Nat) (M : Mem) (a1 : Int) (a2 : Int) : Rs := bd (m_X5_outOfRange n M a1 0 60) (fun r4 M3 => if I32 r4 then (if r4 = 0 then (if I32 a2 then (if a2 < 0 then (m_X5_then_27 n M3) else (if a2 ≤ 2 then (bd (m_X5_thinkOn n M3 a1) (fun _ M10 => if a2 = 0 then (bd (m_X0_foggyCells n M10) (fun r13 M12 => some (r13, M12))) else (if a2 = 1 then (bd (m_X4_ownedThings n M10 22) (fun r16 M15 => some (r16, M15))) else (bd (m_X4_nobodysThings n M10 22) (fun r18 M17 => some (r18, M17)))))) else (m_X5_then_27 n M3))) else none) else (bd (m_X5_refuse n M3 r4) (fun r20 M19 => some (r20, M19)))) else none)
theorem y_X5_then (n : Nat) (M : Mem) (a1 : Int) (a2 : Int) : Y RX5 cX5_then 4 6 0 none 0 [some (rv 130), some (iv a1), some (iv a2), none] [] M (m_X5_then n M a1 a2) := by
  unfold m_X5_then
  refine y_iload_n (pc := 0) dX5_then_0 rfl ?_
  refine y_iconst (pc := 1) dX5_then_1 ?_
  refine y_bipush (pc := 2) dX5_then_2 (by decide) ?_
  refine y_callSi (pc := 4) s_X5_outOfRange l_X5_220 dX5_then_4 (c_X5_outOfRange n _ _ _ _) (fun _ h => nomatch h) rfl rfl (by decide) (by decide) (Nat.le_of_ble_eq_true rfl) (fun r4 M3 _ => ?_)
  refine y_istore_n (L' := [some (rv 130), some (iv a1), some (iv a2), some (iv r4)]) (pc := 7) dX5_then_7 (by decide) rfl rfl ?_
  refine y_iload_n (pc := 8) dX5_then_8 rfl ?_
  refine y_gd (fun h5 => ?_)
  refine y_if_eq (off := 9) (tgt := 18) (pc := 9) dX5_then_9 (by decide) h5 (fun h6 => ?_) (fun h6 => ?_)
  · refine y_iload_n (pc := 18) dX5_then_18 rfl ?_
    refine y_gd (fun h7 => ?_)
    refine y_if_lt (off := 8) (tgt := 27) (pc := 19) dX5_then_19 (by decide) h7 (fun h8 => ?_) (fun h8 => ?_)
    · exact y_sub (ls_s (ls_n (ls_n (ls_n ls_0)))) (t_X5_then_27 n M3)
    · refine y_iload_n (pc := 22) dX5_then_22 rfl ?_
      refine y_iconst (pc := 23) dX5_then_23 ?_
      refine y_icmp_le (off := 10) (tgt := 34) (pc := 24) dX5_then_24 (by decide) h7 (by decide) (fun h9 => ?_) (fun h9 => ?_)
      · refine y_aload_n (pc := 34) dX5_then_34 rfl ?_
        refine y_iload_n (pc := 35) dX5_then_35 rfl ?_
        refine y_callVv (pc := 36) v_X5_thinkOn l_X5_227 dX5_then_36 (c_X5_thinkOn n _ _) (fun _ h => nomatch h) rfl rc_X5 rfl (by decide) (by decide) (Nat.le_of_ble_eq_true rfl) (fun _ M10 _ => ?_)
        refine y_iload_n (pc := 39) dX5_then_39 rfl ?_
        refine y_br (fun h11 => ?_) (fun h11 => ?_)
        · refine y_lookup (off := 28) (tgt := 68) (pc := 40) dX5_then_40 rfl h7 (by rw [h11]; rfl) (by decide) ?_
          refine y_aload_n (pc := 68) dX5_then_68 rfl ?_
          refine y_getref (pc := 69) (x := 129) g_X5_50 dX5_then_69 ?_
          refine y_callVi (pc := 72) v_X0_foggyCells l_X5_217 dX5_then_72 (c_X0_foggyCells n _) (fun _ h => nomatch h) rfl rc_X0 rfl (by decide) (by decide) (Nat.le_of_ble_eq_true rfl) (fun r13 M12 _ => ?_)
          exact y_iret (pc := 75) dX5_then_75
        · refine y_br (fun h14 => ?_) (fun h14 => ?_)
          · refine y_lookup (off := 36) (tgt := 76) (pc := 40) dX5_then_40 rfl h7 (by rw [h14]; rfl) (by decide) ?_
            refine y_aload_n (pc := 76) dX5_then_76 rfl ?_
            refine y_getref (pc := 77) (x := 129) g_X5_50 dX5_then_77 ?_
            refine y_getref (pc := 80) (x := 22) g_X5_81 dX5_then_80 ?_
            refine y_callVi (pc := 83) v_X4_ownedThings l_X5_213 dX5_then_83 (c_X4_ownedThings n _ _) (fun _ h => nomatch h) rfl (rc_X4 (by decide)) rfl (by decide) (by decide) (Nat.le_of_ble_eq_true rfl) (fun r16 M15 _ => ?_)
            exact y_iret (pc := 86) dX5_then_86
          · refine y_lookup (off := 47) (tgt := 87) (pc := 40) dX5_then_40 rfl h7 (lk_out2 h11 h14) (by decide) ?_
            refine y_aload_n (pc := 87) dX5_then_87 rfl ?_
            refine y_getref (pc := 88) (x := 129) g_X5_50 dX5_then_88 ?_
            refine y_getref (pc := 91) (x := 22) g_X5_81 dX5_then_91 ?_
            refine y_callVi (pc := 94) v_X4_nobodysThings l_X5_230 dX5_then_94 (c_X4_nobodysThings n _ _) (fun _ h => nomatch h) rfl (rc_X4 (by decide)) rfl (by decide) (by decide) (Nat.le_of_ble_eq_true rfl) (fun r18 M17 _ => ?_)
            exact y_iret (pc := 97) dX5_then_97
      · exact y_sub (ls_s (ls_n (ls_n (ls_n ls_0)))) (t_X5_then_27 n M3)
  · refine y_aload_n (pc := 12) dX5_then_12 rfl ?_
    refine y_iload_n (pc := 13) dX5_then_13 rfl ?_
    refine y_callVi (pc := 14) v_X5_refuse l_X5_60 dX5_then_14 (c_X5_refuse n _ _) (fun _ h => nomatch h) rfl rc_X5 rfl (by decide) (by decide) (Nat.le_of_ble_eq_true rfl) (fun r20 M19 _ => ?_)
    exact y_iret (pc := 17) dX5_then_17
theorem c_X5_then (n : Nat) (M : Mem) (a1 : Int) (a2 : Int) : ∀ res : Int × Mem, m_X5_then n M a1 a2 = some res → CTi none yX5_then cX5_then 4 (some .int) 6 [rv 130, iv a1, iv a2] M res := CTi_of (by decide +kernel) rfl (Nat.le_of_ble_eq_true rfl) rfl (y_X5_then n M a1 a2)
