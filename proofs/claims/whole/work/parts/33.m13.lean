def m_X6_statement_49 (n : Nat) (M : Mem) (a1 : Int) : Rs := if 0 ≤ (rd M 137 24) ∧ (rd M 137 24) < 33 then (wr M 152 (Int.toNat (rd M 137 24)) a1 (fun M2 => if 0 ≤ (rd M2 137 24) ∧ (rd M2 137 24) < 33 then (wr M2 153 (Int.toNat (rd M2 137 24)) (rd M2 137 23) (fun M4 => wr M4 137 25 (3 * (rd M4 137 24)) (fun M5 => wr M5 137 23 ((rd M5 137 23) + 1) (fun M6 => bd (m_X6_readsAll n M6 a1) (fun r8 M7 => if I32 r8 then (if r8 = 0 then (some (0, M7)) else (bd (m_X6_sign n M7) (fun r12 M11 => if I32 r12 then (if r12 = 59 then (wr M11 137 23 ((rd M11 137 23) + 1) (fun M15 => some (1, M15))) else (some (0, M11))) else none))) else none))))) else none)) else none
theorem t_X6_statement_49 (n : Nat) (M : Mem) (a1 : Int) : Y RX6 cX6_statement 2 3 1 none 49 [some (rv 137), some (iv a1)] [] M (m_X6_statement_49 n M a1) := by
  unfold m_X6_statement_49
  refine y_aload_n (pc := 49) dX6_statement_49 rfl ?_
  refine y_getref (pc := 50) (x := 152) g_X6_56 dX6_statement_50 ?_
  refine y_aload_n (pc := 53) dX6_statement_53 rfl ?_
  refine y_getint (pc := 54) g_X6_188 dX6_statement_54 ?_
  refine y_iload_n (pc := 57) dX6_statement_57 rfl ?_
  refine y_gd (fun h1 => ?_)
  refine y_iastw (pc := 58) dX6_statement_58 ar_152 h1 (fun M2 => ?_)
  refine y_aload_n (pc := 59) dX6_statement_59 rfl ?_
  refine y_getref (pc := 60) (x := 153) g_X6_59 dX6_statement_60 ?_
  refine y_aload_n (pc := 63) dX6_statement_63 rfl ?_
  refine y_getint (pc := 64) g_X6_188 dX6_statement_64 ?_
  refine y_aload_n (pc := 67) dX6_statement_67 rfl ?_
  refine y_getint (pc := 68) g_X6_175 dX6_statement_68 ?_
  refine y_gd (fun h3 => ?_)
  refine y_iastw (pc := 71) dX6_statement_71 ar_153 h3 (fun M4 => ?_)
  refine y_aload_n (pc := 72) dX6_statement_72 rfl ?_
  refine y_iconst (pc := 73) dX6_statement_73 ?_
  refine y_aload_n (pc := 74) dX6_statement_74 rfl ?_
  refine y_getint (pc := 75) g_X6_188 dX6_statement_75 ?_
  refine y_imul (pc := 78) dX6_statement_78 ?_
  refine y_putintw (pc := 79) pf_X6_182 dX6_statement_79 (fun M5 => ?_)
  refine y_aload_n (pc := 82) dX6_statement_82 rfl ?_
  refine y_dup (pc := 83) dX6_statement_83 rfl ?_
  refine y_getint (pc := 84) g_X6_175 dX6_statement_84 ?_
  refine y_iconst (pc := 87) dX6_statement_87 ?_
  refine y_iadd (pc := 88) dX6_statement_88 ?_
  refine y_putintw (pc := 89) pf_X6_175 dX6_statement_89 (fun M6 => ?_)
  refine y_aload_n (pc := 92) dX6_statement_92 rfl ?_
  refine y_iload_n (pc := 93) dX6_statement_93 rfl ?_
  refine y_callVi (pc := 94) v_X6_readsAll l_X6_191 dX6_statement_94 (c_X6_readsAll n _ _) rfl rc_X6 rfl (by decide) (by decide) (Nat.le_of_ble_eq_true rfl) (fun r8 M7 _ => ?_)
  refine y_gd (fun h9 => ?_)
  refine y_if_eq (off := 12) (tgt := 109) (pc := 97) dX6_statement_97 (by decide) h9 (fun h10 => ?_) (fun h10 => ?_)
  · refine y_iconst (pc := 109) dX6_statement_109 ?_
    exact y_zret (pc := 110) dX6_statement_110 (by decide)
  · refine y_aload_n (pc := 100) dX6_statement_100 rfl ?_
    refine y_callVi (pc := 101) v_X6_sign l_X6_178 dX6_statement_101 (c_X6_sign n _) rfl rc_X6 rfl (by decide) (by decide) (Nat.le_of_ble_eq_true rfl) (fun r12 M11 _ => ?_)
    refine y_bipush (pc := 104) dX6_statement_104 (by decide) ?_
    refine y_gd (fun h13 => ?_)
    refine y_icmp_eq (off := 5) (tgt := 111) (pc := 106) dX6_statement_106 (by decide) h13 (by decide) (fun h14 => ?_) (fun h14 => ?_)
    · refine y_aload_n (pc := 111) dX6_statement_111 rfl ?_
      refine y_dup (pc := 112) dX6_statement_112 rfl ?_
      refine y_getint (pc := 113) g_X6_175 dX6_statement_113 ?_
      refine y_iconst (pc := 116) dX6_statement_116 ?_
      refine y_iadd (pc := 117) dX6_statement_117 ?_
      refine y_putintw (pc := 118) pf_X6_175 dX6_statement_118 (fun M15 => ?_)
      refine y_iconst (pc := 121) dX6_statement_121 ?_
      exact y_zret (pc := 122) dX6_statement_122 (by decide)
    · refine y_iconst (pc := 109) dX6_statement_109 ?_
      exact y_zret (pc := 110) dX6_statement_110 (by decide)
def m_X6_statement (n : Nat) (M : Mem) : Rs := bd (m_X6_sign n M) (fun r17 M16 => if I32 r17 then (if r17 = 102 then (m_X6_statement_49 n M16 r17) else (if r17 = 112 then (m_X6_statement_49 n M16 r17) else (if r17 = 116 then (m_X6_statement_49 n M16 r17) else (if r17 = 107 then (m_X6_statement_49 n M16 r17) else (if r17 = 111 then (m_X6_statement_49 n M16 r17) else (if r17 = 109 then (m_X6_statement_49 n M16 r17) else (if r17 = 104 then (m_X6_statement_49 n M16 r17) else (some (0, M16))))))))) else none)
theorem y_X6_statement (n : Nat) (M : Mem) : Y RX6 cX6_statement 2 3 1 none 0 [some (rv 137), none] [] M (m_X6_statement n M) := by
  unfold m_X6_statement
  refine y_aload_n (pc := 0) dX6_statement_0 rfl ?_
  refine y_callVi (pc := 1) v_X6_sign l_X6_178 dX6_statement_1 (c_X6_sign n _) rfl rc_X6 rfl (by decide) (by decide) (Nat.le_of_ble_eq_true rfl) (fun r17 M16 _ => ?_)
  refine y_istore_n (L' := [some (rv 137), some (iv r17)]) (pc := 4) dX6_statement_4 (by decide) rfl rfl ?_
  refine y_iload_n (pc := 5) dX6_statement_5 rfl ?_
  refine y_bipush (pc := 6) dX6_statement_6 (by decide) ?_
  refine y_gd (fun h18 => ?_)
  refine y_icmp_eq (off := 41) (tgt := 49) (pc := 8) dX6_statement_8 (by decide) h18 (by decide) (fun h19 => ?_) (fun h19 => ?_)
  · exact y_sub (ls_s (ls_s ls_0)) (t_X6_statement_49 n M16 r17)
  · refine y_iload_n (pc := 11) dX6_statement_11 rfl ?_
    refine y_bipush (pc := 12) dX6_statement_12 (by decide) ?_
    refine y_icmp_eq (off := 35) (tgt := 49) (pc := 14) dX6_statement_14 (by decide) h18 (by decide) (fun h20 => ?_) (fun h20 => ?_)
    · exact y_sub (ls_s (ls_s ls_0)) (t_X6_statement_49 n M16 r17)
    · refine y_iload_n (pc := 17) dX6_statement_17 rfl ?_
      refine y_bipush (pc := 18) dX6_statement_18 (by decide) ?_
      refine y_icmp_eq (off := 29) (tgt := 49) (pc := 20) dX6_statement_20 (by decide) h18 (by decide) (fun h21 => ?_) (fun h21 => ?_)
      · exact y_sub (ls_s (ls_s ls_0)) (t_X6_statement_49 n M16 r17)
      · refine y_iload_n (pc := 23) dX6_statement_23 rfl ?_
        refine y_bipush (pc := 24) dX6_statement_24 (by decide) ?_
        refine y_icmp_eq (off := 23) (tgt := 49) (pc := 26) dX6_statement_26 (by decide) h18 (by decide) (fun h22 => ?_) (fun h22 => ?_)
        · exact y_sub (ls_s (ls_s ls_0)) (t_X6_statement_49 n M16 r17)
        · refine y_iload_n (pc := 29) dX6_statement_29 rfl ?_
          refine y_bipush (pc := 30) dX6_statement_30 (by decide) ?_
          refine y_icmp_eq (off := 17) (tgt := 49) (pc := 32) dX6_statement_32 (by decide) h18 (by decide) (fun h23 => ?_) (fun h23 => ?_)
          · exact y_sub (ls_s (ls_s ls_0)) (t_X6_statement_49 n M16 r17)
          · refine y_iload_n (pc := 35) dX6_statement_35 rfl ?_
            refine y_bipush (pc := 36) dX6_statement_36 (by decide) ?_
            refine y_icmp_eq (off := 11) (tgt := 49) (pc := 38) dX6_statement_38 (by decide) h18 (by decide) (fun h24 => ?_) (fun h24 => ?_)
            · exact y_sub (ls_s (ls_s ls_0)) (t_X6_statement_49 n M16 r17)
            · refine y_iload_n (pc := 41) dX6_statement_41 rfl ?_
              refine y_bipush (pc := 42) dX6_statement_42 (by decide) ?_
              refine y_icmp_eq (off := 5) (tgt := 49) (pc := 44) dX6_statement_44 (by decide) h18 (by decide) (fun h25 => ?_) (fun h25 => ?_)
              · exact y_sub (ls_s (ls_s ls_0)) (t_X6_statement_49 n M16 r17)
              · refine y_iconst (pc := 47) dX6_statement_47 ?_
                exact y_zret (pc := 48) dX6_statement_48 (by decide)
theorem c_X6_statement (n : Nat) (M : Mem) : ∀ res : Int × Mem, m_X6_statement n M = some res → CTi yX6_statement cX6_statement 2 (some .boolean) 3 [rv 137] M res := CTz_of (by decide +kernel) rfl (Nat.le_of_ble_eq_true rfl) rfl (y_X6_statement n M)
def m_X6_isFrontMore (n : Nat) (M : Mem) (a1 : Int) (a2 : Int) (a3 : Int) : Rs := if 0 ≤ (rd M 137 3) ∧ (rd M 137 3) < 6 then (wr M 138 (Int.toNat (rd M 137 3)) a1 (fun M2 => if 0 ≤ (rd M2 137 3) ∧ (rd M2 137 3) < 6 then (wr M2 139 (Int.toNat (rd M2 137 3)) a2 (fun M4 => if 0 ≤ (rd M4 137 3) ∧ (rd M4 137 3) < 6 then (wr M4 140 (Int.toNat (rd M4 137 3)) a3 (fun M6 => wr M6 137 3 ((rd M6 137 3) + 1) (fun M7 => some (0, M7)))) else none)) else none)) else none
theorem y_X6_isFrontMore (n : Nat) (M : Mem) (a1 : Int) (a2 : Int) (a3 : Int) : Y RX6 cX6_isFrontMore 4 0 3 none 0 [some (rv 137), some (iv a1), some (iv a2), some (iv a3)] [] M (m_X6_isFrontMore n M a1 a2 a3) := by
  unfold m_X6_isFrontMore
  refine y_aload_n (pc := 0) dX6_isFrontMore_0 rfl ?_
  refine y_getref (pc := 1) (x := 138) g_X6_13 dX6_isFrontMore_1 ?_
  refine y_aload_n (pc := 4) dX6_isFrontMore_4 rfl ?_
  refine y_getint (pc := 5) g_X6_79 dX6_isFrontMore_5 ?_
  refine y_iload_n (pc := 8) dX6_isFrontMore_8 rfl ?_
  refine y_gd (fun h1 => ?_)
  refine y_iastw (pc := 9) dX6_isFrontMore_9 ar_138 h1 (fun M2 => ?_)
  refine y_aload_n (pc := 10) dX6_isFrontMore_10 rfl ?_
  refine y_getref (pc := 11) (x := 139) g_X6_16 dX6_isFrontMore_11 ?_
  refine y_aload_n (pc := 14) dX6_isFrontMore_14 rfl ?_
  refine y_getint (pc := 15) g_X6_79 dX6_isFrontMore_15 ?_
  refine y_iload_n (pc := 18) dX6_isFrontMore_18 rfl ?_
  refine y_gd (fun h3 => ?_)
  refine y_iastw (pc := 19) dX6_isFrontMore_19 ar_139 h3 (fun M4 => ?_)
  refine y_aload_n (pc := 20) dX6_isFrontMore_20 rfl ?_
  refine y_getref (pc := 21) (x := 140) g_X6_19 dX6_isFrontMore_21 ?_
  refine y_aload_n (pc := 24) dX6_isFrontMore_24 rfl ?_
  refine y_getint (pc := 25) g_X6_79 dX6_isFrontMore_25 ?_
  refine y_iload_n (pc := 28) dX6_isFrontMore_28 rfl ?_
  refine y_gd (fun h5 => ?_)
  refine y_iastw (pc := 29) dX6_isFrontMore_29 ar_140 h5 (fun M6 => ?_)
  refine y_aload_n (pc := 30) dX6_isFrontMore_30 rfl ?_
  refine y_dup (pc := 31) dX6_isFrontMore_31 rfl ?_
  refine y_getint (pc := 32) g_X6_79 dX6_isFrontMore_32 ?_
  refine y_iconst (pc := 35) dX6_isFrontMore_35 ?_
  refine y_iadd (pc := 36) dX6_isFrontMore_36 ?_
  refine y_putintw (pc := 37) pf_X6_79 dX6_isFrontMore_37 (fun M7 => ?_)
  exact y_vret (pc := 40) dX6_isFrontMore_40
theorem c_X6_isFrontMore (n : Nat) (M : Mem) (a1 : Int) (a2 : Int) (a3 : Int) : ∀ res : Int × Mem, m_X6_isFrontMore n M a1 a2 a3 = some res → CTv yX6_isFrontMore cX6_isFrontMore 4 0 [rv 137, iv a1, iv a2, iv a3] M res := CTv_of (by decide +kernel) rfl (Nat.le_of_ble_eq_true rfl) rfl (y_X6_isFrontMore n M a1 a2 a3)
def m_X6_isPersonMore (n : Nat) (M : Mem) (a1 : Int) (a2 : Int) (a3 : Int) : Rs := if 0 ≤ (rd M 137 12) ∧ (rd M 137 12) < 5 then (wr M 144 (Int.toNat (rd M 137 12)) a1 (fun M2 => if 0 ≤ (rd M2 137 12) ∧ (rd M2 137 12) < 5 then (wr M2 145 (Int.toNat (rd M2 137 12)) a2 (fun M4 => if 0 ≤ (rd M4 137 12) ∧ (rd M4 137 12) < 5 then (wr M4 146 (Int.toNat (rd M4 137 12)) a3 (fun M6 => if 0 ≤ (rd M6 137 12) ∧ (rd M6 137 12) < 5 then (wr M6 147 (Int.toNat (rd M6 137 12)) a3 (fun M8 => wr M8 137 12 ((rd M8 137 12) + 1) (fun M9 => some (0, M9)))) else none)) else none)) else none)) else none
theorem y_X6_isPersonMore (n : Nat) (M : Mem) (a1 : Int) (a2 : Int) (a3 : Int) : Y RX6 cX6_isPersonMore 4 0 3 none 0 [some (rv 137), some (iv a1), some (iv a2), some (iv a3)] [] M (m_X6_isPersonMore n M a1 a2 a3) := by
  unfold m_X6_isPersonMore
  refine y_aload_n (pc := 0) dX6_isPersonMore_0 rfl ?_
  refine y_getref (pc := 1) (x := 144) g_X6_31 dX6_isPersonMore_1 ?_
  refine y_aload_n (pc := 4) dX6_isPersonMore_4 rfl ?_
  refine y_getint (pc := 5) g_X6_89 dX6_isPersonMore_5 ?_
  refine y_iload_n (pc := 8) dX6_isPersonMore_8 rfl ?_
  refine y_gd (fun h1 => ?_)
  refine y_iastw (pc := 9) dX6_isPersonMore_9 ar_144 h1 (fun M2 => ?_)
  refine y_aload_n (pc := 10) dX6_isPersonMore_10 rfl ?_
  refine y_getref (pc := 11) (x := 145) g_X6_34 dX6_isPersonMore_11 ?_
  refine y_aload_n (pc := 14) dX6_isPersonMore_14 rfl ?_
  refine y_getint (pc := 15) g_X6_89 dX6_isPersonMore_15 ?_
  refine y_iload_n (pc := 18) dX6_isPersonMore_18 rfl ?_
  refine y_gd (fun h3 => ?_)
  refine y_iastw (pc := 19) dX6_isPersonMore_19 ar_145 h3 (fun M4 => ?_)
  refine y_aload_n (pc := 20) dX6_isPersonMore_20 rfl ?_
  refine y_getref (pc := 21) (x := 146) g_X6_37 dX6_isPersonMore_21 ?_
  refine y_aload_n (pc := 24) dX6_isPersonMore_24 rfl ?_
  refine y_getint (pc := 25) g_X6_89 dX6_isPersonMore_25 ?_
  refine y_iload_n (pc := 28) dX6_isPersonMore_28 rfl ?_
  refine y_gd (fun h5 => ?_)
  refine y_iastw (pc := 29) dX6_isPersonMore_29 ar_146 h5 (fun M6 => ?_)
  refine y_aload_n (pc := 30) dX6_isPersonMore_30 rfl ?_
  refine y_getref (pc := 31) (x := 147) g_X6_40 dX6_isPersonMore_31 ?_
  refine y_aload_n (pc := 34) dX6_isPersonMore_34 rfl ?_
  refine y_getint (pc := 35) g_X6_89 dX6_isPersonMore_35 ?_
  refine y_iload_n (pc := 38) dX6_isPersonMore_38 rfl ?_
  refine y_gd (fun h7 => ?_)
  refine y_iastw (pc := 39) dX6_isPersonMore_39 ar_147 h7 (fun M8 => ?_)
  refine y_aload_n (pc := 40) dX6_isPersonMore_40 rfl ?_
  refine y_dup (pc := 41) dX6_isPersonMore_41 rfl ?_
  refine y_getint (pc := 42) g_X6_89 dX6_isPersonMore_42 ?_
  refine y_iconst (pc := 45) dX6_isPersonMore_45 ?_
  refine y_iadd (pc := 46) dX6_isPersonMore_46 ?_
  refine y_putintw (pc := 47) pf_X6_89 dX6_isPersonMore_47 (fun M9 => ?_)
  exact y_vret (pc := 50) dX6_isPersonMore_50
theorem c_X6_isPersonMore (n : Nat) (M : Mem) (a1 : Int) (a2 : Int) (a3 : Int) : ∀ res : Int × Mem, m_X6_isPersonMore n M a1 a2 a3 = some res → CTv yX6_isPersonMore cX6_isPersonMore 4 0 [rv 137, iv a1, iv a2, iv a3] M res := CTv_of (by decide +kernel) rfl (Nat.le_of_ble_eq_true rfl) rfl (y_X6_isPersonMore n M a1 a2 a3)
def m_X6_isThingMore (n : Nat) (M : Mem) (a1 : Int) (a2 : Int) : Rs := if 0 ≤ (rd M 137 7) ∧ (rd M 137 7) < 8 then (wr M 141 (Int.toNat (rd M 137 7)) a1 (fun M2 => if 0 ≤ (rd M2 137 7) ∧ (rd M2 137 7) < 8 then (wr M2 142 (Int.toNat (rd M2 137 7)) a2 (fun M4 => if 0 ≤ (rd M4 137 7) ∧ (rd M4 137 7) < 8 then (wr M4 143 (Int.toNat (rd M4 137 7)) (-9) (fun M6 => wr M6 137 7 ((rd M6 137 7) + 1) (fun M7 => some (0, M7)))) else none)) else none)) else none
theorem y_X6_isThingMore (n : Nat) (M : Mem) (a1 : Int) (a2 : Int) : Y RX6 cX6_isThingMore 3 0 3 none 0 [some (rv 137), some (iv a1), some (iv a2)] [] M (m_X6_isThingMore n M a1 a2) := by
  unfold m_X6_isThingMore
  refine y_aload_n (pc := 0) dX6_isThingMore_0 rfl ?_
  refine y_getref (pc := 1) (x := 141) g_X6_22 dX6_isThingMore_1 ?_
  refine y_aload_n (pc := 4) dX6_isThingMore_4 rfl ?_
  refine y_getint (pc := 5) g_X6_86 dX6_isThingMore_5 ?_
  refine y_iload_n (pc := 8) dX6_isThingMore_8 rfl ?_
  refine y_gd (fun h1 => ?_)
  refine y_iastw (pc := 9) dX6_isThingMore_9 ar_141 h1 (fun M2 => ?_)
  refine y_aload_n (pc := 10) dX6_isThingMore_10 rfl ?_
  refine y_getref (pc := 11) (x := 142) g_X6_25 dX6_isThingMore_11 ?_
  refine y_aload_n (pc := 14) dX6_isThingMore_14 rfl ?_
  refine y_getint (pc := 15) g_X6_86 dX6_isThingMore_15 ?_
  refine y_iload_n (pc := 18) dX6_isThingMore_18 rfl ?_
  refine y_gd (fun h3 => ?_)
  refine y_iastw (pc := 19) dX6_isThingMore_19 ar_142 h3 (fun M4 => ?_)
  refine y_aload_n (pc := 20) dX6_isThingMore_20 rfl ?_
  refine y_getref (pc := 21) (x := 143) g_X6_28 dX6_isThingMore_21 ?_
  refine y_aload_n (pc := 24) dX6_isThingMore_24 rfl ?_
  refine y_getint (pc := 25) g_X6_86 dX6_isThingMore_25 ?_
  refine y_bipush (pc := 28) dX6_isThingMore_28 (by decide) ?_
  refine y_gd (fun h5 => ?_)
  refine y_iastw (pc := 30) dX6_isThingMore_30 ar_143 h5 (fun M6 => ?_)
  refine y_aload_n (pc := 31) dX6_isThingMore_31 rfl ?_
  refine y_dup (pc := 32) dX6_isThingMore_32 rfl ?_
  refine y_getint (pc := 33) g_X6_86 dX6_isThingMore_33 ?_
  refine y_iconst (pc := 36) dX6_isThingMore_36 ?_
  refine y_iadd (pc := 37) dX6_isThingMore_37 ?_
  refine y_putintw (pc := 38) pf_X6_86 dX6_isThingMore_38 (fun M7 => ?_)
  exact y_vret (pc := 41) dX6_isThingMore_41
theorem c_X6_isThingMore (n : Nat) (M : Mem) (a1 : Int) (a2 : Int) : ∀ res : Int × Mem, m_X6_isThingMore n M a1 a2 = some res → CTv yX6_isThingMore cX6_isThingMore 3 0 [rv 137, iv a1, iv a2] M res := CTv_of (by decide +kernel) rfl (Nat.le_of_ble_eq_true rfl) rfl (y_X6_isThingMore n M a1 a2)
def m_X6_comesFront (n : Nat) (M : Mem) (a1 : Int) : Rs := if 0 ≤ a1 ∧ a1 < 99 then (if 7 ≤ (rd M 154 (Int.toNat a1)) then (some (0, M)) else (if (rd M 137 3) = 6 then (some (0, M)) else (if 0 ≤ (a1 + 1) ∧ (a1 + 1) < 99 then (if 0 ≤ (a1 + 2) ∧ (a1 + 2) < 99 then (bd (m_X6_isFrontMore n M (rd M 154 (Int.toNat a1)) (rd M 154 (Int.toNat (a1 + 1))) (rd M 154 (Int.toNat (a1 + 2)))) (fun _ M6 => some (1, M6))) else none) else none))) else none
theorem y_X6_comesFront (n : Nat) (M : Mem) (a1 : Int) : Y RX6 cX6_comesFront 2 1 1 none 0 [some (rv 137), some (iv a1)] [] M (m_X6_comesFront n M a1) := by
  unfold m_X6_comesFront
  refine y_aload_n (pc := 0) dX6_comesFront_0 rfl ?_
  refine y_getref (pc := 1) (x := 154) g_X6_62 dX6_comesFront_1 ?_
  refine y_iload_n (pc := 4) dX6_comesFront_4 rfl ?_
  refine y_gd (fun h1 => ?_)
  refine y_iald (pc := 5) dX6_comesFront_5 ar_154 h1 ?_
  refine y_bipush (pc := 6) dX6_comesFront_6 (by decide) ?_
  refine y_icmp_ge (off := 12) (tgt := 20) (pc := 8) dX6_comesFront_8 (by decide) (rd_rng _ _ _) (by decide) (fun h2 => ?_) (fun h2 => ?_)
  · refine y_iconst (pc := 20) dX6_comesFront_20 ?_
    exact y_zret (pc := 21) dX6_comesFront_21 (by decide)
  · refine y_aload_n (pc := 11) dX6_comesFront_11 rfl ?_
    refine y_getint (pc := 12) g_X6_79 dX6_comesFront_12 ?_
    refine y_bipush (pc := 15) dX6_comesFront_15 (by decide) ?_
    refine y_icmp_ne (off := 5) (tgt := 22) (pc := 17) dX6_comesFront_17 (by decide) (rd_rng _ _ _) (by decide) (fun h3 => ?_) (fun h3 => ?_)
    · refine y_aload_n (pc := 22) dX6_comesFront_22 rfl ?_
      refine y_aload_n (pc := 23) dX6_comesFront_23 rfl ?_
      refine y_getref (pc := 24) (x := 154) g_X6_62 dX6_comesFront_24 ?_
      refine y_iload_n (pc := 27) dX6_comesFront_27 rfl ?_
      refine y_iald (pc := 28) dX6_comesFront_28 ar_154 h1 ?_
      refine y_aload_n (pc := 29) dX6_comesFront_29 rfl ?_
      refine y_getref (pc := 30) (x := 154) g_X6_62 dX6_comesFront_30 ?_
      refine y_iload_n (pc := 33) dX6_comesFront_33 rfl ?_
      refine y_iconst (pc := 34) dX6_comesFront_34 ?_
      refine y_iadd (pc := 35) dX6_comesFront_35 ?_
      refine y_gd (fun h4 => ?_)
      refine y_iald (pc := 36) dX6_comesFront_36 ar_154 h4 ?_
      refine y_aload_n (pc := 37) dX6_comesFront_37 rfl ?_
      refine y_getref (pc := 38) (x := 154) g_X6_62 dX6_comesFront_38 ?_
      refine y_iload_n (pc := 41) dX6_comesFront_41 rfl ?_
      refine y_iconst (pc := 42) dX6_comesFront_42 ?_
      refine y_iadd (pc := 43) dX6_comesFront_43 ?_
      refine y_gd (fun h5 => ?_)
      refine y_iald (pc := 44) dX6_comesFront_44 ar_154 h5 ?_
      refine y_callVv (pc := 45) v_X6_isFrontMore l_X6_194 dX6_comesFront_45 (c_X6_isFrontMore n _ _ _ _) rfl rc_X6 rfl (by decide) (by decide) (Nat.le_of_ble_eq_true rfl) (fun _ M6 _ => ?_)
      refine y_iconst (pc := 48) dX6_comesFront_48 ?_
      exact y_zret (pc := 49) dX6_comesFront_49 (by decide)
    · refine y_iconst (pc := 20) dX6_comesFront_20 ?_
      exact y_zret (pc := 21) dX6_comesFront_21 (by decide)
theorem c_X6_comesFront (n : Nat) (M : Mem) (a1 : Int) : ∀ res : Int × Mem, m_X6_comesFront n M a1 = some res → CTi yX6_comesFront cX6_comesFront 2 (some .boolean) 1 [rv 137, iv a1] M res := CTz_of (by decide +kernel) rfl (Nat.le_of_ble_eq_true rfl) rfl (y_X6_comesFront n M a1)
def m_X6_comesPerson (n : Nat) (M : Mem) (a1 : Int) : Rs := if 0 ≤ a1 ∧ a1 < 99 then (if 8 ≤ (rd M 154 (Int.toNat a1)) then (some (0, M)) else (if 0 ≤ (a1 + 2) ∧ (a1 + 2) < 99 then (bd (m_X6_isCell n M (rd M 154 (Int.toNat (a1 + 2)))) (fun r5 M4 => if I32 r5 then (if r5 = 0 then (some (0, M4)) else (if (rd M4 137 12) = 5 then (some (0, M4)) else (if 0 ≤ (a1 + 1) ∧ (a1 + 1) < 99 then (bd (m_X6_isPersonMore n M4 (rd M4 154 (Int.toNat a1)) (rd M4 154 (Int.toNat (a1 + 1))) (rd M4 154 (Int.toNat (a1 + 2)))) (fun _ M10 => some (1, M10))) else none))) else none)) else none)) else none
theorem y_X6_comesPerson (n : Nat) (M : Mem) (a1 : Int) : Y RX6 cX6_comesPerson 2 2 1 none 0 [some (rv 137), some (iv a1)] [] M (m_X6_comesPerson n M a1) := by
  unfold m_X6_comesPerson
  refine y_aload_n (pc := 0) dX6_comesPerson_0 rfl ?_
  refine y_getref (pc := 1) (x := 154) g_X6_62 dX6_comesPerson_1 ?_
  refine y_iload_n (pc := 4) dX6_comesPerson_4 rfl ?_
  refine y_gd (fun h1 => ?_)
  refine y_iald (pc := 5) dX6_comesPerson_5 ar_154 h1 ?_
  refine y_bipush (pc := 6) dX6_comesPerson_6 (by decide) ?_
  refine y_icmp_ge (off := 25) (tgt := 33) (pc := 8) dX6_comesPerson_8 (by decide) (rd_rng _ _ _) (by decide) (fun h2 => ?_) (fun h2 => ?_)
  · refine y_iconst (pc := 33) dX6_comesPerson_33 ?_
    exact y_zret (pc := 34) dX6_comesPerson_34 (by decide)
  · refine y_aload_n (pc := 11) dX6_comesPerson_11 rfl ?_
    refine y_getref (pc := 12) (x := 154) g_X6_62 dX6_comesPerson_12 ?_
    refine y_iload_n (pc := 15) dX6_comesPerson_15 rfl ?_
    refine y_iconst (pc := 16) dX6_comesPerson_16 ?_
    refine y_iadd (pc := 17) dX6_comesPerson_17 ?_
    refine y_gd (fun h3 => ?_)
    refine y_iald (pc := 18) dX6_comesPerson_18 ar_154 h3 ?_
    refine y_callSi (pc := 19) s_X6_isCell l_X6_198 dX6_comesPerson_19 (c_X6_isCell n _ _) rfl rfl (by decide) (by decide) (Nat.le_of_ble_eq_true rfl) (fun r5 M4 _ => ?_)
    refine y_gd (fun h6 => ?_)
    refine y_if_eq (off := 11) (tgt := 33) (pc := 22) dX6_comesPerson_22 (by decide) h6 (fun h7 => ?_) (fun h7 => ?_)
    · refine y_iconst (pc := 33) dX6_comesPerson_33 ?_
      exact y_zret (pc := 34) dX6_comesPerson_34 (by decide)
    · refine y_aload_n (pc := 25) dX6_comesPerson_25 rfl ?_
      refine y_getint (pc := 26) g_X6_89 dX6_comesPerson_26 ?_
      refine y_iconst (pc := 29) dX6_comesPerson_29 ?_
      refine y_icmp_ne (off := 5) (tgt := 35) (pc := 30) dX6_comesPerson_30 (by decide) (rd_rng _ _ _) (by decide) (fun h8 => ?_) (fun h8 => ?_)
      · refine y_aload_n (pc := 35) dX6_comesPerson_35 rfl ?_
        refine y_aload_n (pc := 36) dX6_comesPerson_36 rfl ?_
        refine y_getref (pc := 37) (x := 154) g_X6_62 dX6_comesPerson_37 ?_
        refine y_iload_n (pc := 40) dX6_comesPerson_40 rfl ?_
        refine y_iald (pc := 41) dX6_comesPerson_41 ar_154 h1 ?_
        refine y_aload_n (pc := 42) dX6_comesPerson_42 rfl ?_
        refine y_getref (pc := 43) (x := 154) g_X6_62 dX6_comesPerson_43 ?_
        refine y_iload_n (pc := 46) dX6_comesPerson_46 rfl ?_
        refine y_iconst (pc := 47) dX6_comesPerson_47 ?_
        refine y_iadd (pc := 48) dX6_comesPerson_48 ?_
        refine y_gd (fun h9 => ?_)
        refine y_iald (pc := 49) dX6_comesPerson_49 ar_154 h9 ?_
        refine y_aload_n (pc := 50) dX6_comesPerson_50 rfl ?_
        refine y_getref (pc := 51) (x := 154) g_X6_62 dX6_comesPerson_51 ?_
        refine y_iload_n (pc := 54) dX6_comesPerson_54 rfl ?_
        refine y_iconst (pc := 55) dX6_comesPerson_55 ?_
        refine y_iadd (pc := 56) dX6_comesPerson_56 ?_
        refine y_iald (pc := 57) dX6_comesPerson_57 ar_154 h3 ?_
        refine y_callVv (pc := 58) v_X6_isPersonMore l_X6_201 dX6_comesPerson_58 (c_X6_isPersonMore n _ _ _ _) rfl rc_X6 rfl (by decide) (by decide) (Nat.le_of_ble_eq_true rfl) (fun _ M10 _ => ?_)
        refine y_iconst (pc := 61) dX6_comesPerson_61 ?_
        exact y_zret (pc := 62) dX6_comesPerson_62 (by decide)
      · refine y_iconst (pc := 33) dX6_comesPerson_33 ?_
        exact y_zret (pc := 34) dX6_comesPerson_34 (by decide)
theorem c_X6_comesPerson (n : Nat) (M : Mem) (a1 : Int) : ∀ res : Int × Mem, m_X6_comesPerson n M a1 = some res → CTi yX6_comesPerson cX6_comesPerson 2 (some .boolean) 2 [rv 137, iv a1] M res := CTz_of (by decide +kernel) rfl (Nat.le_of_ble_eq_true rfl) rfl (y_X6_comesPerson n M a1)
def m_X6_comesThing (n : Nat) (M : Mem) (a1 : Int) : Rs := if 0 ≤ (a1 + 1) ∧ (a1 + 1) < 99 then (bd (m_X6_isCell n M (rd M 154 (Int.toNat (a1 + 1)))) (fun r3 M2 => if I32 r3 then (if r3 = 0 then (some (0, M2)) else (if (rd M2 137 7) = 8 then (some (0, M2)) else (if 0 ≤ a1 ∧ a1 < 99 then (bd (m_X6_isThingMore n M2 (rd M2 154 (Int.toNat a1)) (rd M2 154 (Int.toNat (a1 + 1)))) (fun _ M8 => some (1, M8))) else none))) else none)) else none
theorem y_X6_comesThing (n : Nat) (M : Mem) (a1 : Int) : Y RX6 cX6_comesThing 2 2 1 none 0 [some (rv 137), some (iv a1)] [] M (m_X6_comesThing n M a1) := by
  unfold m_X6_comesThing
  refine y_aload_n (pc := 0) dX6_comesThing_0 rfl ?_
  refine y_getref (pc := 1) (x := 154) g_X6_62 dX6_comesThing_1 ?_
  refine y_iload_n (pc := 4) dX6_comesThing_4 rfl ?_
  refine y_iconst (pc := 5) dX6_comesThing_5 ?_
  refine y_iadd (pc := 6) dX6_comesThing_6 ?_
  refine y_gd (fun h1 => ?_)
  refine y_iald (pc := 7) dX6_comesThing_7 ar_154 h1 ?_
  refine y_callSi (pc := 8) s_X6_isCell l_X6_198 dX6_comesThing_8 (c_X6_isCell n _ _) rfl rfl (by decide) (by decide) (Nat.le_of_ble_eq_true rfl) (fun r3 M2 _ => ?_)
  refine y_gd (fun h4 => ?_)
  refine y_if_eq (off := 12) (tgt := 23) (pc := 11) dX6_comesThing_11 (by decide) h4 (fun h5 => ?_) (fun h5 => ?_)
  · refine y_iconst (pc := 23) dX6_comesThing_23 ?_
    exact y_zret (pc := 24) dX6_comesThing_24 (by decide)
  · refine y_aload_n (pc := 14) dX6_comesThing_14 rfl ?_
    refine y_getint (pc := 15) g_X6_86 dX6_comesThing_15 ?_
    refine y_bipush (pc := 18) dX6_comesThing_18 (by decide) ?_
    refine y_icmp_ne (off := 5) (tgt := 25) (pc := 20) dX6_comesThing_20 (by decide) (rd_rng _ _ _) (by decide) (fun h6 => ?_) (fun h6 => ?_)
    · refine y_aload_n (pc := 25) dX6_comesThing_25 rfl ?_
      refine y_aload_n (pc := 26) dX6_comesThing_26 rfl ?_
      refine y_getref (pc := 27) (x := 154) g_X6_62 dX6_comesThing_27 ?_
      refine y_iload_n (pc := 30) dX6_comesThing_30 rfl ?_
      refine y_gd (fun h7 => ?_)
      refine y_iald (pc := 31) dX6_comesThing_31 ar_154 h7 ?_
      refine y_aload_n (pc := 32) dX6_comesThing_32 rfl ?_
      refine y_getref (pc := 33) (x := 154) g_X6_62 dX6_comesThing_33 ?_
      refine y_iload_n (pc := 36) dX6_comesThing_36 rfl ?_
      refine y_iconst (pc := 37) dX6_comesThing_37 ?_
      refine y_iadd (pc := 38) dX6_comesThing_38 ?_
      refine y_iald (pc := 39) dX6_comesThing_39 ar_154 h1 ?_
      refine y_callVv (pc := 40) v_X6_isThingMore l_X6_204 dX6_comesThing_40 (c_X6_isThingMore n _ _ _) rfl rc_X6 rfl (by decide) (by decide) (Nat.le_of_ble_eq_true rfl) (fun _ M8 _ => ?_)
      refine y_iconst (pc := 43) dX6_comesThing_43 ?_
      exact y_zret (pc := 44) dX6_comesThing_44 (by decide)
    · refine y_iconst (pc := 23) dX6_comesThing_23 ?_
      exact y_zret (pc := 24) dX6_comesThing_24 (by decide)
theorem c_X6_comesThing (n : Nat) (M : Mem) (a1 : Int) : ∀ res : Int × Mem, m_X6_comesThing n M a1 = some res → CTi yX6_comesThing cX6_comesThing 2 (some .boolean) 2 [rv 137, iv a1] M res := CTz_of (by decide +kernel) rfl (Nat.le_of_ble_eq_true rfl) rfl (y_X6_comesThing n M a1)
def m_X6_comesOwner_41 (n : Nat) (M : Mem) (s0 : Int) (s1 : Int) : Rs := if 0 ≤ s1 ∧ s1 < 8 then (wr M 143 (Int.toNat s1) s0 (fun M2 => some (1, M2))) else none
theorem t_X6_comesOwner_41 (n : Nat) (M : Mem) (s0 : Int) (s1 : Int) : Y RX6 cX6_comesOwner 3 2 1 none 41 [none, none, none] [iv s0, iv s1, rv 143] M (m_X6_comesOwner_41 n M s0 s1) := by
  unfold m_X6_comesOwner_41
  refine y_gd (fun h1 => ?_)
  refine y_iastw (pc := 41) dX6_comesOwner_41 ar_143 h1 (fun M2 => ?_)
  refine y_iconst (pc := 42) dX6_comesOwner_42 ?_
  exact y_zret (pc := 43) dX6_comesOwner_43 (by decide)
def m_X6_comesOwner_24 (n : Nat) (M : Mem) (a1 : Int) (a2 : Int) : Rs := if I32 a2 then (if a2 = 9 then (m_X6_comesOwner_41 n M (-9) a1) else (m_X6_comesOwner_41 n M a2 a1)) else none
theorem t_X6_comesOwner_24 (n : Nat) (M : Mem) (a1 : Int) (a2 : Int) : Y RX6 cX6_comesOwner 3 2 1 none 24 [some (rv 137), some (iv a1), some (iv a2)] [] M (m_X6_comesOwner_24 n M a1 a2) := by
  unfold m_X6_comesOwner_24
  refine y_aload_n (pc := 24) dX6_comesOwner_24 rfl ?_
  refine y_getref (pc := 25) (x := 143) g_X6_28 dX6_comesOwner_25 ?_
  refine y_iload_n (pc := 28) dX6_comesOwner_28 rfl ?_
  refine y_iload_n (pc := 29) dX6_comesOwner_29 rfl ?_
  refine y_bipush (pc := 30) dX6_comesOwner_30 (by decide) ?_
  refine y_gd (fun h3 => ?_)
  refine y_icmp_ne (off := 8) (tgt := 40) (pc := 32) dX6_comesOwner_32 (by decide) h3 (by decide) (fun h4 => ?_) (fun h4 => ?_)
  · refine y_iload_n (pc := 40) dX6_comesOwner_40 rfl ?_
    exact y_sub (ls_n (ls_n (ls_n ls_0))) (t_X6_comesOwner_41 n M a2 a1)
  · refine y_bipush (pc := 35) dX6_comesOwner_35 (by decide) ?_
    refine y_goto (tgt := 41) (pc := 37) dX6_comesOwner_37 (by decide) ?_
    exact y_sub (ls_n (ls_n (ls_n ls_0))) (t_X6_comesOwner_41 n M (-9) a1)
def m_X6_comesOwner (n : Nat) (M : Mem) (a1 : Int) (a2 : Int) : Rs := bd (m_X6_isThing n M a1) (fun r6 M5 => if I32 r6 then (if r6 = 0 then (some (0, M5)) else (if I32 a2 then (if a2 = 9 then (m_X6_comesOwner_24 n M5 a1 a2) else (bd (m_X6_isPerson n M5 a2) (fun r12 M11 => if I32 r12 then (if r12 = 0 then (some (0, M11)) else (m_X6_comesOwner_24 n M11 a1 a2)) else none))) else none)) else none)
theorem y_X6_comesOwner (n : Nat) (M : Mem) (a1 : Int) (a2 : Int) : Y RX6 cX6_comesOwner 3 2 1 none 0 [some (rv 137), some (iv a1), some (iv a2)] [] M (m_X6_comesOwner n M a1 a2) := by
  unfold m_X6_comesOwner
  refine y_aload_n (pc := 0) dX6_comesOwner_0 rfl ?_
  refine y_iload_n (pc := 1) dX6_comesOwner_1 rfl ?_
  refine y_callVi (pc := 2) v_X6_isThing l_X6_207 dX6_comesOwner_2 (c_X6_isThing n _ _) rfl rc_X6 rfl (by decide) (by decide) (Nat.le_of_ble_eq_true rfl) (fun r6 M5 _ => ?_)
  refine y_gd (fun h7 => ?_)
  refine y_if_eq (off := 17) (tgt := 22) (pc := 5) dX6_comesOwner_5 (by decide) h7 (fun h8 => ?_) (fun h8 => ?_)
  · refine y_iconst (pc := 22) dX6_comesOwner_22 ?_
    exact y_zret (pc := 23) dX6_comesOwner_23 (by decide)
  · refine y_iload_n (pc := 8) dX6_comesOwner_8 rfl ?_
    refine y_bipush (pc := 9) dX6_comesOwner_9 (by decide) ?_
    refine y_gd (fun h9 => ?_)
    refine y_icmp_eq (off := 13) (tgt := 24) (pc := 11) dX6_comesOwner_11 (by decide) h9 (by decide) (fun h10 => ?_) (fun h10 => ?_)
    · exact y_sub (ls_s (ls_s (ls_s ls_0))) (t_X6_comesOwner_24 n M5 a1 a2)
    · refine y_aload_n (pc := 14) dX6_comesOwner_14 rfl ?_
      refine y_iload_n (pc := 15) dX6_comesOwner_15 rfl ?_
      refine y_callVi (pc := 16) v_X6_isPerson l_X6_92 dX6_comesOwner_16 (c_X6_isPerson n _ _) rfl rc_X6 rfl (by decide) (by decide) (Nat.le_of_ble_eq_true rfl) (fun r12 M11 _ => ?_)
      refine y_gd (fun h13 => ?_)
      refine y_if_ne (off := 5) (tgt := 24) (pc := 19) dX6_comesOwner_19 (by decide) h13 (fun h14 => ?_) (fun h14 => ?_)
      · exact y_sub (ls_s (ls_s (ls_s ls_0))) (t_X6_comesOwner_24 n M11 a1 a2)
      · refine y_iconst (pc := 22) dX6_comesOwner_22 ?_
        exact y_zret (pc := 23) dX6_comesOwner_23 (by decide)
theorem c_X6_comesOwner (n : Nat) (M : Mem) (a1 : Int) (a2 : Int) : ∀ res : Int × Mem, m_X6_comesOwner n M a1 a2 = some res → CTi yX6_comesOwner cX6_comesOwner 3 (some .boolean) 2 [rv 137, iv a1, iv a2] M res := CTz_of (by decide +kernel) rfl (Nat.le_of_ble_eq_true rfl) rfl (y_X6_comesOwner n M a1 a2)
def m_X6_comesStanding (n : Nat) (M : Mem) (a1 : Int) (a2 : Int) : Rs := bd (m_X6_isPerson n M a1) (fun r2 M1 => if I32 r2 then (if r2 = 0 then (some (0, M1)) else (bd (m_X6_isCell n M1 a2) (fun r6 M5 => if I32 r6 then (if r6 = 0 then (some (0, M5)) else (if 0 ≤ a1 ∧ a1 < 5 then (wr M5 147 (Int.toNat a1) a2 (fun M10 => some (1, M10))) else none)) else none))) else none)
theorem y_X6_comesStanding (n : Nat) (M : Mem) (a1 : Int) (a2 : Int) : Y RX6 cX6_comesStanding 3 2 1 none 0 [some (rv 137), some (iv a1), some (iv a2)] [] M (m_X6_comesStanding n M a1 a2) := by
  unfold m_X6_comesStanding
  refine y_aload_n (pc := 0) dX6_comesStanding_0 rfl ?_
  refine y_iload_n (pc := 1) dX6_comesStanding_1 rfl ?_
  refine y_callVi (pc := 2) v_X6_isPerson l_X6_92 dX6_comesStanding_2 (c_X6_isPerson n _ _) rfl rc_X6 rfl (by decide) (by decide) (Nat.le_of_ble_eq_true rfl) (fun r2 M1 _ => ?_)
  refine y_gd (fun h3 => ?_)
  refine y_if_eq (off := 10) (tgt := 15) (pc := 5) dX6_comesStanding_5 (by decide) h3 (fun h4 => ?_) (fun h4 => ?_)
  · refine y_iconst (pc := 15) dX6_comesStanding_15 ?_
    exact y_zret (pc := 16) dX6_comesStanding_16 (by decide)
  · refine y_iload_n (pc := 8) dX6_comesStanding_8 rfl ?_
    refine y_callSi (pc := 9) s_X6_isCell l_X6_198 dX6_comesStanding_9 (c_X6_isCell n _ _) rfl rfl (by decide) (by decide) (Nat.le_of_ble_eq_true rfl) (fun r6 M5 _ => ?_)
    refine y_gd (fun h7 => ?_)
    refine y_if_ne (off := 5) (tgt := 17) (pc := 12) dX6_comesStanding_12 (by decide) h7 (fun h8 => ?_) (fun h8 => ?_)
    · refine y_aload_n (pc := 17) dX6_comesStanding_17 rfl ?_
      refine y_getref (pc := 18) (x := 147) g_X6_40 dX6_comesStanding_18 ?_
      refine y_iload_n (pc := 21) dX6_comesStanding_21 rfl ?_
      refine y_iload_n (pc := 22) dX6_comesStanding_22 rfl ?_
      refine y_gd (fun h9 => ?_)
      refine y_iastw (pc := 23) dX6_comesStanding_23 ar_147 h9 (fun M10 => ?_)
      refine y_iconst (pc := 24) dX6_comesStanding_24 ?_
      exact y_zret (pc := 25) dX6_comesStanding_25 (by decide)
    · refine y_iconst (pc := 15) dX6_comesStanding_15 ?_
      exact y_zret (pc := 16) dX6_comesStanding_16 (by decide)
theorem c_X6_comesStanding (n : Nat) (M : Mem) (a1 : Int) (a2 : Int) : ∀ res : Int × Mem, m_X6_comesStanding n M a1 a2 = some res → CTi yX6_comesStanding cX6_comesStanding 3 (some .boolean) 2 [rv 137, iv a1, iv a2] M res := CTz_of (by decide +kernel) rfl (Nat.le_of_ble_eq_true rfl) rfl (y_X6_comesStanding n M a1 a2)
def m_X6_comesNumber (n : Nat) (M : Mem) (a1 : Int) (a2 : Int) : Rs := if I32 a1 then (if a1 = 107 then (if I32 a2 then (if a2 = 0 then (some (0, M)) else (wr M 137 14 a2 (fun M12 => some (1, M12)))) else none) else (bd (m_X6_isIn n M a2 1 60) (fun r4 M3 => if I32 r4 then (if r4 = 0 then (some (0, M3)) else (if I32 ((rd M3 137 13) + a2) then (if ((rd M3 137 13) + a2) ≤ 999 then (bd (m_X6_goes n M3 a2) (fun _ M9 => some (1, M9))) else (some (0, M3))) else none)) else none))) else none
theorem y_X6_comesNumber (n : Nat) (M : Mem) (a1 : Int) (a2 : Int) : Y RX6 cX6_comesNumber 3 8 1 none 0 [some (rv 137), some (iv a1), some (iv a2)] [] M (m_X6_comesNumber n M a1 a2) := by
  unfold m_X6_comesNumber
  refine y_iload_n (pc := 0) dX6_comesNumber_0 rfl ?_
  refine y_bipush (pc := 1) dX6_comesNumber_1 (by decide) ?_
  refine y_gd (fun h1 => ?_)
  refine y_icmp_ne (off := 16) (tgt := 19) (pc := 3) dX6_comesNumber_3 (by decide) h1 (by decide) (fun h2 => ?_) (fun h2 => ?_)
  · refine y_iload_n (pc := 19) dX6_comesNumber_19 rfl ?_
    refine y_iconst (pc := 20) dX6_comesNumber_20 ?_
    refine y_bipush (pc := 21) dX6_comesNumber_21 (by decide) ?_
    refine y_callSi (pc := 23) s_X6_isIn l_X6_82 dX6_comesNumber_23 (c_X6_isIn n _ _ _ _) rfl rfl (by decide) (by decide) (Nat.le_of_ble_eq_true rfl) (fun r4 M3 _ => ?_)
    refine y_gd (fun h5 => ?_)
    refine y_if_eq (off := 15) (tgt := 41) (pc := 26) dX6_comesNumber_26 (by decide) h5 (fun h6 => ?_) (fun h6 => ?_)
    · refine y_iconst (pc := 41) dX6_comesNumber_41 ?_
      exact y_zret (pc := 42) dX6_comesNumber_42 (by decide)
    · refine y_aload_n (pc := 29) dX6_comesNumber_29 rfl ?_
      refine y_getint (pc := 30) g_X6_114 dX6_comesNumber_30 ?_
      refine y_iload_n (pc := 33) dX6_comesNumber_33 rfl ?_
      refine y_iadd (pc := 34) dX6_comesNumber_34 ?_
      refine y_sipush (pc := 35) dX6_comesNumber_35 (by decide) ?_
      refine y_gd (fun h7 => ?_)
      refine y_icmp_le (off := 5) (tgt := 43) (pc := 38) dX6_comesNumber_38 (by decide) h7 (by decide) (fun h8 => ?_) (fun h8 => ?_)
      · refine y_aload_n (pc := 43) dX6_comesNumber_43 rfl ?_
        refine y_iload_n (pc := 44) dX6_comesNumber_44 rfl ?_
        refine y_callVv (pc := 45) v_X6_goes l_X6_210 dX6_comesNumber_45 (c_X6_goes n _ _) rfl rc_X6 rfl (by decide) (by decide) (Nat.le_of_ble_eq_true rfl) (fun _ M9 _ => ?_)
        refine y_iconst (pc := 48) dX6_comesNumber_48 ?_
        exact y_zret (pc := 49) dX6_comesNumber_49 (by decide)
      · refine y_iconst (pc := 41) dX6_comesNumber_41 ?_
        exact y_zret (pc := 42) dX6_comesNumber_42 (by decide)
  · refine y_iload_n (pc := 6) dX6_comesNumber_6 rfl ?_
    refine y_gd (fun h10 => ?_)
    refine y_if_ne (off := 5) (tgt := 12) (pc := 7) dX6_comesNumber_7 (by decide) h10 (fun h11 => ?_) (fun h11 => ?_)
    · refine y_aload_n (pc := 12) dX6_comesNumber_12 rfl ?_
      refine y_iload_n (pc := 13) dX6_comesNumber_13 rfl ?_
      refine y_putintw (pc := 14) pf_X6_74 dX6_comesNumber_14 (fun M12 => ?_)
      refine y_iconst (pc := 17) dX6_comesNumber_17 ?_
      exact y_zret (pc := 18) dX6_comesNumber_18 (by decide)
    · refine y_iconst (pc := 10) dX6_comesNumber_10 ?_
      exact y_zret (pc := 11) dX6_comesNumber_11 (by decide)
theorem c_X6_comesNumber (n : Nat) (M : Mem) (a1 : Int) (a2 : Int) : ∀ res : Int × Mem, m_X6_comesNumber n M a1 a2 = some res → CTi yX6_comesNumber cX6_comesNumber 3 (some .boolean) 8 [rv 137, iv a1, iv a2] M res := CTz_of (by decide +kernel) rfl (Nat.le_of_ble_eq_true rfl) rfl (y_X6_comesNumber n M a1 a2)
def m_X6_comesTold_140 (n : Nat) (M : Mem) (a1 : Int) (a2 : Int) : Rs := if 0 ≤ a1 ∧ a1 < 33 then (if 0 ≤ a2 ∧ a2 < 99 then (bd (m_X6_comesNumber n M (rd M 152 (Int.toNat a1)) (rd M 154 (Int.toNat a2))) (fun r4 M3 => if r4 = 0 ∨ r4 = 1 then (some (r4, M3)) else none)) else none) else none
theorem t_X6_comesTold_140 (n : Nat) (M : Mem) (a1 : Int) (a2 : Int) : Y RX6 cX6_comesTold 3 9 1 none 140 [some (rv 137), some (iv a1), some (iv a2)] [] M (m_X6_comesTold_140 n M a1 a2) := by
  unfold m_X6_comesTold_140
  refine y_aload_n (pc := 140) dX6_comesTold_140 rfl ?_
  refine y_aload_n (pc := 141) dX6_comesTold_141 rfl ?_
  refine y_getref (pc := 142) (x := 152) g_X6_56 dX6_comesTold_142 ?_
  refine y_iload_n (pc := 145) dX6_comesTold_145 rfl ?_
  refine y_gd (fun h1 => ?_)
  refine y_iald (pc := 146) dX6_comesTold_146 ar_152 h1 ?_
  refine y_aload_n (pc := 147) dX6_comesTold_147 rfl ?_
  refine y_getref (pc := 148) (x := 154) g_X6_62 dX6_comesTold_148 ?_
  refine y_iload_n (pc := 151) dX6_comesTold_151 rfl ?_
  refine y_gd (fun h2 => ?_)
  refine y_iald (pc := 152) dX6_comesTold_152 ar_154 h2 ?_
  refine y_callVi (pc := 153) v_X6_comesNumber l_X6_228 dX6_comesTold_153 (c_X6_comesNumber n _ _ _) rfl rc_X6 rfl (by decide) (by decide) (Nat.le_of_ble_eq_true rfl) (fun r4 M3 _ => ?_)
  refine y_gd (fun h5 => ?_)
  exact y_zret (pc := 156) dX6_comesTold_156 h5
def m_X6_comesTold (n : Nat) (M : Mem) (a1 : Int) : Rs := if 0 ≤ a1 ∧ a1 < 33 then (if (rd M 152 (Int.toNat a1)) = 102 then (bd (m_X6_comesFront n M (3 * a1)) (fun r9 M8 => if r9 = 0 ∨ r9 = 1 then (some (r9, M8)) else none)) else (if (rd M 152 (Int.toNat a1)) = 103 then (m_X6_comesTold_140 n M a1 (3 * a1)) else (if (rd M 152 (Int.toNat a1)) = 104 then (m_X6_comesTold_140 n M a1 (3 * a1)) else (if (rd M 152 (Int.toNat a1)) = 105 then (m_X6_comesTold_140 n M a1 (3 * a1)) else (if (rd M 152 (Int.toNat a1)) = 106 then (m_X6_comesTold_140 n M a1 (3 * a1)) else (if (rd M 152 (Int.toNat a1)) = 107 then (m_X6_comesTold_140 n M a1 (3 * a1)) else (if (rd M 152 (Int.toNat a1)) = 108 then (m_X6_comesTold_140 n M a1 (3 * a1)) else (if (rd M 152 (Int.toNat a1)) = 109 then (if 0 ≤ (3 * a1) ∧ (3 * a1) < 99 then (if 0 ≤ ((3 * a1) + 1) ∧ ((3 * a1) + 1) < 99 then (bd (m_X6_comesStanding n M (rd M 154 (Int.toNat (3 * a1))) (rd M 154 (Int.toNat ((3 * a1) + 1)))) (fun r21 M20 => if r21 = 0 ∨ r21 = 1 then (some (r21, M20)) else none)) else none) else none) else (if (rd M 152 (Int.toNat a1)) = 110 then (m_X6_comesTold_140 n M a1 (3 * a1)) else (if (rd M 152 (Int.toNat a1)) = 111 then (if 0 ≤ (3 * a1) ∧ (3 * a1) < 99 then (if 0 ≤ ((3 * a1) + 1) ∧ ((3 * a1) + 1) < 99 then (bd (m_X6_comesOwner n M (rd M 154 (Int.toNat (3 * a1))) (rd M 154 (Int.toNat ((3 * a1) + 1)))) (fun r28 M27 => if r28 = 0 ∨ r28 = 1 then (some (r28, M27)) else none)) else none) else none) else (if (rd M 152 (Int.toNat a1)) = 112 then (bd (m_X6_comesPerson n M (3 * a1)) (fun r32 M31 => if r32 = 0 ∨ r32 = 1 then (some (r32, M31)) else none)) else (if (rd M 152 (Int.toNat a1)) = 113 then (m_X6_comesTold_140 n M a1 (3 * a1)) else (if (rd M 152 (Int.toNat a1)) = 114 then (m_X6_comesTold_140 n M a1 (3 * a1)) else (if (rd M 152 (Int.toNat a1)) = 115 then (m_X6_comesTold_140 n M a1 (3 * a1)) else (if (rd M 152 (Int.toNat a1)) = 116 then (bd (m_X6_comesThing n M (3 * a1)) (fun r39 M38 => if r39 = 0 ∨ r39 = 1 then (some (r39, M38)) else none)) else (m_X6_comesTold_140 n M a1 (3 * a1))))))))))))))))) else none
theorem y_X6_comesTold (n : Nat) (M : Mem) (a1 : Int) : Y RX6 cX6_comesTold 3 9 1 none 0 [some (rv 137), some (iv a1), none] [] M (m_X6_comesTold n M a1) := by
  unfold m_X6_comesTold
  refine y_iconst (pc := 0) dX6_comesTold_0 ?_
  refine y_iload_n (pc := 1) dX6_comesTold_1 rfl ?_
  refine y_imul (pc := 2) dX6_comesTold_2 ?_
  refine y_istore_n (L' := [some (rv 137), some (iv a1), some (iv (3 * a1))]) (pc := 3) dX6_comesTold_3 (by decide) rfl rfl ?_
  refine y_aload_n (pc := 4) dX6_comesTold_4 rfl ?_
  refine y_getref (pc := 5) (x := 152) g_X6_56 dX6_comesTold_5 ?_
  refine y_iload_n (pc := 8) dX6_comesTold_8 rfl ?_
  refine y_gd (fun h6 => ?_)
  refine y_iald (pc := 9) dX6_comesTold_9 ar_152 h6 ?_
  refine y_br (fun h7 => ?_) (fun h7 => ?_)
  · refine y_tableIn (off := 74) (tgt := 84) (pc := 10) dX6_comesTold_10 h7 (by decide) (by decide) (by decide) rfl (by decide) ?_
    refine y_aload_n (pc := 84) dX6_comesTold_84 rfl ?_
    refine y_iload_n (pc := 85) dX6_comesTold_85 rfl ?_
    refine y_callVi (pc := 86) v_X6_comesFront l_X6_213 dX6_comesTold_86 (c_X6_comesFront n _ _) rfl rc_X6 rfl (by decide) (by decide) (Nat.le_of_ble_eq_true rfl) (fun r9 M8 _ => ?_)
    refine y_gd (fun h10 => ?_)
    exact y_zret (pc := 89) dX6_comesTold_89 h10
  · refine y_br (fun h11 => ?_) (fun h11 => ?_)
    · refine y_tableIn (off := 130) (tgt := 140) (pc := 10) dX6_comesTold_10 h11 (by decide) (by decide) (by decide) rfl (by decide) ?_
      exact y_sub (ls_s (ls_s (ls_s ls_0))) (t_X6_comesTold_140 n M a1 (3 * a1))
    · refine y_br (fun h12 => ?_) (fun h12 => ?_)
      · refine y_tableIn (off := 130) (tgt := 140) (pc := 10) dX6_comesTold_10 h12 (by decide) (by decide) (by decide) rfl (by decide) ?_
        exact y_sub (ls_s (ls_s (ls_s ls_0))) (t_X6_comesTold_140 n M a1 (3 * a1))
      · refine y_br (fun h13 => ?_) (fun h13 => ?_)
        · refine y_tableIn (off := 130) (tgt := 140) (pc := 10) dX6_comesTold_10 h13 (by decide) (by decide) (by decide) rfl (by decide) ?_
          exact y_sub (ls_s (ls_s (ls_s ls_0))) (t_X6_comesTold_140 n M a1 (3 * a1))
        · refine y_br (fun h14 => ?_) (fun h14 => ?_)
          · refine y_tableIn (off := 130) (tgt := 140) (pc := 10) dX6_comesTold_10 h14 (by decide) (by decide) (by decide) rfl (by decide) ?_
            exact y_sub (ls_s (ls_s (ls_s ls_0))) (t_X6_comesTold_140 n M a1 (3 * a1))
          · refine y_br (fun h15 => ?_) (fun h15 => ?_)
            · refine y_tableIn (off := 130) (tgt := 140) (pc := 10) dX6_comesTold_10 h15 (by decide) (by decide) (by decide) rfl (by decide) ?_
              exact y_sub (ls_s (ls_s (ls_s ls_0))) (t_X6_comesTold_140 n M a1 (3 * a1))
            · refine y_br (fun h16 => ?_) (fun h16 => ?_)
              · refine y_tableIn (off := 130) (tgt := 140) (pc := 10) dX6_comesTold_10 h16 (by decide) (by decide) (by decide) rfl (by decide) ?_
                exact y_sub (ls_s (ls_s (ls_s ls_0))) (t_X6_comesTold_140 n M a1 (3 * a1))
              · refine y_br (fun h17 => ?_) (fun h17 => ?_)
                · refine y_tableIn (off := 111) (tgt := 121) (pc := 10) dX6_comesTold_10 h17 (by decide) (by decide) (by decide) rfl (by decide) ?_
                  refine y_aload_n (pc := 121) dX6_comesTold_121 rfl ?_
                  refine y_aload_n (pc := 122) dX6_comesTold_122 rfl ?_
                  refine y_getref (pc := 123) (x := 154) g_X6_62 dX6_comesTold_123 ?_
                  refine y_iload_n (pc := 126) dX6_comesTold_126 rfl ?_
                  refine y_gd (fun h18 => ?_)
                  refine y_iald (pc := 127) dX6_comesTold_127 ar_154 h18 ?_
                  refine y_aload_n (pc := 128) dX6_comesTold_128 rfl ?_
                  refine y_getref (pc := 129) (x := 154) g_X6_62 dX6_comesTold_129 ?_
                  refine y_iload_n (pc := 132) dX6_comesTold_132 rfl ?_
                  refine y_iconst (pc := 133) dX6_comesTold_133 ?_
                  refine y_iadd (pc := 134) dX6_comesTold_134 ?_
                  refine y_gd (fun h19 => ?_)
                  refine y_iald (pc := 135) dX6_comesTold_135 ar_154 h19 ?_
                  refine y_callVi (pc := 136) v_X6_comesStanding l_X6_225 dX6_comesTold_136 (c_X6_comesStanding n _ _ _) rfl rc_X6 rfl (by decide) (by decide) (Nat.le_of_ble_eq_true rfl) (fun r21 M20 _ => ?_)
                  refine y_gd (fun h22 => ?_)
                  exact y_zret (pc := 139) dX6_comesTold_139 h22
                · refine y_br (fun h23 => ?_) (fun h23 => ?_)
                  · refine y_tableIn (off := 130) (tgt := 140) (pc := 10) dX6_comesTold_10 h23 (by decide) (by decide) (by decide) rfl (by decide) ?_
                    exact y_sub (ls_s (ls_s (ls_s ls_0))) (t_X6_comesTold_140 n M a1 (3 * a1))
                  · refine y_br (fun h24 => ?_) (fun h24 => ?_)
                    · refine y_tableIn (off := 92) (tgt := 102) (pc := 10) dX6_comesTold_10 h24 (by decide) (by decide) (by decide) rfl (by decide) ?_
                      refine y_aload_n (pc := 102) dX6_comesTold_102 rfl ?_
                      refine y_aload_n (pc := 103) dX6_comesTold_103 rfl ?_
                      refine y_getref (pc := 104) (x := 154) g_X6_62 dX6_comesTold_104 ?_
                      refine y_iload_n (pc := 107) dX6_comesTold_107 rfl ?_
                      refine y_gd (fun h25 => ?_)
                      refine y_iald (pc := 108) dX6_comesTold_108 ar_154 h25 ?_
                      refine y_aload_n (pc := 109) dX6_comesTold_109 rfl ?_
                      refine y_getref (pc := 110) (x := 154) g_X6_62 dX6_comesTold_110 ?_
                      refine y_iload_n (pc := 113) dX6_comesTold_113 rfl ?_
                      refine y_iconst (pc := 114) dX6_comesTold_114 ?_
                      refine y_iadd (pc := 115) dX6_comesTold_115 ?_
                      refine y_gd (fun h26 => ?_)
                      refine y_iald (pc := 116) dX6_comesTold_116 ar_154 h26 ?_
                      refine y_callVi (pc := 117) v_X6_comesOwner l_X6_222 dX6_comesTold_117 (c_X6_comesOwner n _ _ _) rfl rc_X6 rfl (by decide) (by decide) (Nat.le_of_ble_eq_true rfl) (fun r28 M27 _ => ?_)
                      refine y_gd (fun h29 => ?_)
                      exact y_zret (pc := 120) dX6_comesTold_120 h29
                    · refine y_br (fun h30 => ?_) (fun h30 => ?_)
                      · refine y_tableIn (off := 80) (tgt := 90) (pc := 10) dX6_comesTold_10 h30 (by decide) (by decide) (by decide) rfl (by decide) ?_
                        refine y_aload_n (pc := 90) dX6_comesTold_90 rfl ?_
                        refine y_iload_n (pc := 91) dX6_comesTold_91 rfl ?_
                        refine y_callVi (pc := 92) v_X6_comesPerson l_X6_216 dX6_comesTold_92 (c_X6_comesPerson n _ _) rfl rc_X6 rfl (by decide) (by decide) (Nat.le_of_ble_eq_true rfl) (fun r32 M31 _ => ?_)
                        refine y_gd (fun h33 => ?_)
                        exact y_zret (pc := 95) dX6_comesTold_95 h33
                      · refine y_br (fun h34 => ?_) (fun h34 => ?_)
                        · refine y_tableIn (off := 130) (tgt := 140) (pc := 10) dX6_comesTold_10 h34 (by decide) (by decide) (by decide) rfl (by decide) ?_
                          exact y_sub (ls_s (ls_s (ls_s ls_0))) (t_X6_comesTold_140 n M a1 (3 * a1))
                        · refine y_br (fun h35 => ?_) (fun h35 => ?_)
                          · refine y_tableIn (off := 130) (tgt := 140) (pc := 10) dX6_comesTold_10 h35 (by decide) (by decide) (by decide) rfl (by decide) ?_
                            exact y_sub (ls_s (ls_s (ls_s ls_0))) (t_X6_comesTold_140 n M a1 (3 * a1))
                          · refine y_br (fun h36 => ?_) (fun h36 => ?_)
                            · refine y_tableIn (off := 130) (tgt := 140) (pc := 10) dX6_comesTold_10 h36 (by decide) (by decide) (by decide) rfl (by decide) ?_
                              exact y_sub (ls_s (ls_s (ls_s ls_0))) (t_X6_comesTold_140 n M a1 (3 * a1))
                            · refine y_br (fun h37 => ?_) (fun h37 => ?_)
                              · refine y_tableIn (off := 86) (tgt := 96) (pc := 10) dX6_comesTold_10 h37 (by decide) (by decide) (by decide) rfl (by decide) ?_
                                refine y_aload_n (pc := 96) dX6_comesTold_96 rfl ?_
                                refine y_iload_n (pc := 97) dX6_comesTold_97 rfl ?_
                                refine y_callVi (pc := 98) v_X6_comesThing l_X6_219 dX6_comesTold_98 (c_X6_comesThing n _ _) rfl rc_X6 rfl (by decide) (by decide) (Nat.le_of_ble_eq_true rfl) (fun r39 M38 _ => ?_)
                                refine y_gd (fun h40 => ?_)
                                exact y_zret (pc := 101) dX6_comesTold_101 h40
                              · refine y_tableOut (tgt := 140) (pc := 10) dX6_comesTold_10 (rd_rng _ _ _) (by omega) (by decide) ?_
                                exact y_sub (ls_s (ls_s (ls_s ls_0))) (t_X6_comesTold_140 n M a1 (3 * a1))
theorem c_X6_comesTold (n : Nat) (M : Mem) (a1 : Int) : ∀ res : Int × Mem, m_X6_comesTold n M a1 = some res → CTi yX6_comesTold cX6_comesTold 3 (some .boolean) 9 [rv 137, iv a1] M res := CTz_of (by decide +kernel) rfl (Nat.le_of_ble_eq_true rfl) rfl (y_X6_comesTold n M a1)
def m_X6_passOne_38 (n : Nat) (M : Mem) (a2 : Int) : Rs := wr M 137 28 ((rd M 137 28) + 1) (fun M1 => some (a2, M1))
theorem t_X6_passOne_38 (n : Nat) (M : Mem) (a2 : Int) : Y RX6 cX6_passOne 3 0 0 none 38 [some (rv 137), none, some (iv a2)] [] M (m_X6_passOne_38 n M a2) := by
  unfold m_X6_passOne_38
  refine y_aload_n (pc := 38) dX6_passOne_38 rfl ?_
  refine y_dup (pc := 39) dX6_passOne_39 rfl ?_
  refine y_getint (pc := 40) g_X6_248 dX6_passOne_40 ?_
  refine y_iconst (pc := 43) dX6_passOne_43 ?_
  refine y_iadd (pc := 44) dX6_passOne_44 ?_
  refine y_putintw (pc := 45) pf_X6_248 dX6_passOne_45 (fun M1 => ?_)
  refine y_iload_n (pc := 48) dX6_passOne_48 rfl ?_
  exact y_iret (pc := 49) dX6_passOne_49
def m_X6_passOne_20 (n : Nat) (M : Mem) (a1 : Int) (s0 : Int) : Rs := if (rd M 137 27) = 0 then (m_X6_passOne_38 n M s0) else (if 0 ≤ (rd M 137 28) ∧ (rd M 137 28) < 750 then (wr M 155 (Int.toNat (rd M 137 28)) a1 (fun M4 => m_X6_passOne_38 n M4 s0)) else none)
theorem t_X6_passOne_20 (n : Nat) (M : Mem) (a1 : Int) (s0 : Int) : Y RX6 cX6_passOne 3 0 0 none 20 [some (rv 137), some (iv a1), none] [iv s0] M (m_X6_passOne_20 n M a1 s0) := by
  unfold m_X6_passOne_20
  refine y_istore_n (L' := [some (rv 137), some (iv a1), some (iv s0)]) (pc := 20) dX6_passOne_20 (by decide) rfl rfl ?_
  refine y_aload_n (pc := 21) dX6_passOne_21 rfl ?_
  refine y_getint (pc := 22) g_X6_245 dX6_passOne_22 ?_
  refine y_if_eq (off := 13) (tgt := 38) (pc := 25) dX6_passOne_25 (by decide) (rd_rng _ _ _) (fun h2 => ?_) (fun h2 => ?_)
  · exact y_sub (ls_s (ls_n (ls_s ls_0))) (t_X6_passOne_38 n M s0)
  · refine y_aload_n (pc := 28) dX6_passOne_28 rfl ?_
    refine y_getref (pc := 29) (x := 155) g_X6_65 dX6_passOne_29 ?_
    refine y_aload_n (pc := 32) dX6_passOne_32 rfl ?_
    refine y_getint (pc := 33) g_X6_248 dX6_passOne_33 ?_
    refine y_iload_n (pc := 36) dX6_passOne_36 rfl ?_
    refine y_gd (fun h3 => ?_)
    refine y_iastw (pc := 37) dX6_passOne_37 ar_155 h3 (fun M4 => ?_)
    exact y_sub (ls_s (ls_n (ls_s ls_0))) (t_X6_passOne_38 n M4 s0)
def m_X6_passOne (n : Nat) (M : Mem) (a1 : Int) : Rs := if (rd M 137 27) = 0 then (if 0 ≤ (rd M 137 28) ∧ (rd M 137 28) < 750 then (m_X6_passOne_20 n M a1 (rd M 155 (Int.toNat (rd M 137 28)))) else none) else (m_X6_passOne_20 n M a1 a1)
theorem y_X6_passOne (n : Nat) (M : Mem) (a1 : Int) : Y RX6 cX6_passOne 3 0 0 none 0 [some (rv 137), some (iv a1), none] [] M (m_X6_passOne n M a1) := by
  unfold m_X6_passOne
  refine y_aload_n (pc := 0) dX6_passOne_0 rfl ?_
  refine y_getint (pc := 1) g_X6_245 dX6_passOne_1 ?_
  refine y_if_eq (off := 7) (tgt := 11) (pc := 4) dX6_passOne_4 (by decide) (rd_rng _ _ _) (fun h5 => ?_) (fun h5 => ?_)
  · refine y_aload_n (pc := 11) dX6_passOne_11 rfl ?_
    refine y_getref (pc := 12) (x := 155) g_X6_65 dX6_passOne_12 ?_
    refine y_aload_n (pc := 15) dX6_passOne_15 rfl ?_
    refine y_getint (pc := 16) g_X6_248 dX6_passOne_16 ?_
    refine y_gd (fun h6 => ?_)
    refine y_iald (pc := 19) dX6_passOne_19 ar_155 h6 ?_
    exact y_sub (ls_s (ls_s (ls_n ls_0))) (t_X6_passOne_20 n M a1 (rd M 155 (Int.toNat (rd M 137 28))))
  · refine y_iload_n (pc := 7) dX6_passOne_7 rfl ?_
    refine y_goto (tgt := 20) (pc := 8) dX6_passOne_8 (by decide) ?_
    exact y_sub (ls_s (ls_s (ls_n ls_0))) (t_X6_passOne_20 n M a1 a1)
theorem c_X6_passOne (n : Nat) (M : Mem) (a1 : Int) : ∀ res : Int × Mem, m_X6_passOne n M a1 = some res → CTi yX6_passOne cX6_passOne 3 (some .int) 0 [rv 137, iv a1] M res := CTi_of (by decide +kernel) rfl (Nat.le_of_ble_eq_true rfl) rfl (y_X6_passOne n M a1)
def m_X6_passes_42 (n : Nat) (k2 : Mem → Nat → Int → Rs) (M : Mem) (a1 : Nat) (a2 : Int) : Rs := wr M 137 28 ((rd M 137 28) + 1) (fun M1 => k2 M1 a1 (a2 + 1))
theorem t_X6_passes_42 (n : Nat) (k2 : Mem → Nat → Int → Rs) (hk2 : ∀ (M : Mem) (a1 : Nat) (a2 : Int), isA a1 → Y RX6 cX6_passes 3 0 3 none 2 [some (rv 137), some (rv a1), some (iv a2)] [] M (k2 M a1 a2)) (M : Mem) (a1 : Nat) (a2 : Int) (ha1 : isA a1) : Y RX6 cX6_passes 3 0 3 none 42 [some (rv 137), some (rv a1), some (iv a2)] [] M (m_X6_passes_42 n k2 M a1 a2) := by
  unfold m_X6_passes_42
  refine y_aload_n (pc := 42) dX6_passes_42 rfl ?_
  refine y_dup (pc := 43) dX6_passes_43 rfl ?_
  refine y_getint (pc := 44) g_X6_248 dX6_passes_44 ?_
  refine y_iconst (pc := 47) dX6_passes_47 ?_
  refine y_iadd (pc := 48) dX6_passes_48 ?_
  refine y_putintw (pc := 49) pf_X6_248 dX6_passes_49 (fun M1 => ?_)
  refine y_iinc (L' := [some (rv 137), some (rv a1), some (iv (a2 + 1))]) (pc := 52) dX6_passes_52 rfl (by decide) rfl rfl ?_
  refine y_goto (tgt := 2) (pc := 55) dX6_passes_55 (by decide) ?_
  exact y_sub (ls_s (ls_s (ls_s ls_0))) (hk2 M1 a1 (a2 + 1) ha1)
def m_X6_passes_2 (n : Nat) : Nat → Mem → Nat → Int → Rs
  | 0, _, _, _ => none
  | t + 1, M, a1, a2 => if I32 a2 then (if ((ln a1 : Nat) : Int) ≤ a2 then (some (0, M)) else (if (rd M 137 27) = 0 then (if 0 ≤ (rd M 137 28) ∧ (rd M 137 28) < 750 then (if 0 ≤ a2 ∧ a2 < ((ln a1 : Nat) : Int) then (wr M a1 (Int.toNat a2) (rd M 155 (Int.toNat (rd M 137 28))) (fun M7 => m_X6_passes_42 n (m_X6_passes_2 n t) M7 a1 a2)) else none) else none) else (if 0 ≤ a2 ∧ a2 < ((ln a1 : Nat) : Int) then (if 0 ≤ (rd M 137 28) ∧ (rd M 137 28) < 750 then (wr M 155 (Int.toNat (rd M 137 28)) (rd M a1 (Int.toNat a2)) (fun M10 => m_X6_passes_42 n (m_X6_passes_2 n t) M10 a1 a2)) else none) else none))) else none
theorem t_X6_passes_2 (n : Nat) : ∀ (t : Nat) (M : Mem) (a1 : Nat) (a2 : Int), isA a1 → Y RX6 cX6_passes 3 0 3 none 2 [some (rv 137), some (rv a1), some (iv a2)] [] M (m_X6_passes_2 n t M a1 a2) := by
  intro t
  induction t with
  | zero => intro M a1 a2 ha1; exact y_none
  | succ t ih =>
    intro M a1 a2 ha1
    rewrite [m_X6_passes_2]
    refine y_iload_n (pc := 2) dX6_passes_2 rfl ?_
    refine y_aload_n (pc := 3) dX6_passes_3 rfl ?_
    refine y_alen (pc := 4) dX6_passes_4 (ar_A ha1) ?_
    refine y_gd (fun h2 => ?_)
    refine y_icmp_ge (off := 53) (tgt := 58) (pc := 5) dX6_passes_5 (by decide) h2 (ln_rng _) (fun h3 => ?_) (fun h3 => ?_)
    · exact y_vret (pc := 58) dX6_passes_58
    · refine y_aload_n (pc := 8) dX6_passes_8 rfl ?_
      refine y_getint (pc := 9) g_X6_245 dX6_passes_9 ?_
      refine y_if_eq (off := 18) (tgt := 30) (pc := 12) dX6_passes_12 (by decide) (rd_rng _ _ _) (fun h4 => ?_) (fun h4 => ?_)
      · refine y_aload_n (pc := 30) dX6_passes_30 rfl ?_
        refine y_iload_n (pc := 31) dX6_passes_31 rfl ?_
        refine y_aload_n (pc := 32) dX6_passes_32 rfl ?_
        refine y_getref (pc := 33) (x := 155) g_X6_65 dX6_passes_33 ?_
        refine y_aload_n (pc := 36) dX6_passes_36 rfl ?_
        refine y_getint (pc := 37) g_X6_248 dX6_passes_37 ?_
        refine y_gd (fun h5 => ?_)
        refine y_iald (pc := 40) dX6_passes_40 ar_155 h5 ?_
        refine y_gd (fun h6 => ?_)
        refine y_iastw (pc := 41) dX6_passes_41 (ar_A ha1) h6 (fun M7 => ?_)
        exact y_sub (ls_s (ls_s (ls_s ls_0))) (t_X6_passes_42 n (m_X6_passes_2 n t) ih M7 a1 a2 ha1)
      · refine y_aload_n (pc := 15) dX6_passes_15 rfl ?_
        refine y_getref (pc := 16) (x := 155) g_X6_65 dX6_passes_16 ?_
        refine y_aload_n (pc := 19) dX6_passes_19 rfl ?_
        refine y_getint (pc := 20) g_X6_248 dX6_passes_20 ?_
        refine y_aload_n (pc := 23) dX6_passes_23 rfl ?_
        refine y_iload_n (pc := 24) dX6_passes_24 rfl ?_
        refine y_gd (fun h8 => ?_)
        refine y_iald (pc := 25) dX6_passes_25 (ar_A ha1) h8 ?_
        refine y_gd (fun h9 => ?_)
        refine y_iastw (pc := 26) dX6_passes_26 ar_155 h9 (fun M10 => ?_)
        refine y_goto (tgt := 42) (pc := 27) dX6_passes_27 (by decide) ?_
        exact y_sub (ls_s (ls_s (ls_s ls_0))) (t_X6_passes_42 n (m_X6_passes_2 n t) ih M10 a1 a2 ha1)
def m_X6_passes (n : Nat) (M : Mem) (a1 : Nat) : Rs := if isA a1 then (m_X6_passes_2 n n M a1 0) else none
theorem y_X6_passes (n : Nat) (M : Mem) (a1 : Nat) : Y RX6 cX6_passes 3 0 3 none 0 [some (rv 137), some (rv a1), none] [] M (m_X6_passes n M a1) := by
  unfold m_X6_passes
  refine y_gd (fun ha1 => ?_)
  refine y_iconst (pc := 0) dX6_passes_0 ?_
  refine y_istore_n (L' := [some (rv 137), some (rv a1), some (iv 0)]) (pc := 1) dX6_passes_1 (by decide) rfl rfl ?_
  exact y_sub (ls_s (ls_s (ls_s ls_0))) (t_X6_passes_2 n n M a1 0 ha1)
theorem c_X6_passes (n : Nat) (M : Mem) (a1 : Nat) : ∀ res : Int × Mem, m_X6_passes n M a1 = some res → CTv yX6_passes cX6_passes 3 0 [rv 137, rv a1] M res := CTv_of (by decide +kernel) rfl (Nat.le_of_ble_eq_true rfl) rfl (y_X6_passes n M a1)
