def m_X6_passesAll (n : Nat) (M : Mem) (a1 : Int) (a2 : Int) : Rs := wr M 137 28 (68 * a1) (fun M1 => if a2 = 0 ∨ a2 = 1 then (wr M1 137 27 a2 (fun M3 => bd (m_X6_passes n M3 138) (fun _ M4 => bd (m_X6_passes n M4 139) (fun _ M5 => bd (m_X6_passes n M5 140) (fun _ M6 => bd (m_X6_passes n M6 141) (fun _ M7 => bd (m_X6_passes n M7 142) (fun _ M8 => bd (m_X6_passes n M8 143) (fun _ M9 => bd (m_X6_passes n M9 144) (fun _ M10 => bd (m_X6_passes n M10 145) (fun _ M11 => bd (m_X6_passes n M11 146) (fun _ M12 => bd (m_X6_passes n M12 147) (fun _ M13 => bd (m_X6_passOne n M13 (rd M13 137 3)) (fun r15 M14 => wr M14 137 3 r15 (fun M16 => bd (m_X6_passOne n M16 (rd M16 137 7)) (fun r18 M17 => wr M17 137 7 r18 (fun M19 => bd (m_X6_passOne n M19 (rd M19 137 12)) (fun r21 M20 => wr M20 137 12 r21 (fun M22 => bd (m_X6_passOne n M22 (rd M22 137 14)) (fun r24 M23 => wr M23 137 14 r24 (fun M25 => bd (m_X6_passOne n M25 (rd M25 137 13)) (fun r27 M26 => wr M26 137 13 r27 (fun M28 => some (0, M28))))))))))))))))))))))) else none)
theorem y_X6_passesAll (n : Nat) (M : Mem) (a1 : Int) (a2 : Int) : Y RX6 cX6_passesAll 3 1 3 none 0 [some (rv 137), some (iv a1), some (iv a2)] [] M (m_X6_passesAll n M a1 a2) := by
  unfold m_X6_passesAll
  refine y_aload_n (pc := 0) dX6_passesAll_0 rfl ?_
  refine y_bipush (pc := 1) dX6_passesAll_1 (by decide) ?_
  refine y_iload_n (pc := 3) dX6_passesAll_3 rfl ?_
  refine y_imul (pc := 4) dX6_passesAll_4 ?_
  refine y_putintw (pc := 5) pf_X6_248 dX6_passesAll_5 (fun M1 => ?_)
  refine y_aload_n (pc := 8) dX6_passesAll_8 rfl ?_
  refine y_iload_n (pc := 9) dX6_passesAll_9 rfl ?_
  refine y_gd (fun h2 => ?_)
  refine y_putboolw (pc := 10) pf_X6_245 h2 dX6_passesAll_10 (fun M3 => ?_)
  refine y_aload_n (pc := 13) dX6_passesAll_13 rfl ?_
  refine y_aload_n (pc := 14) dX6_passesAll_14 rfl ?_
  refine y_getref (pc := 15) (x := 138) g_X6_13 dX6_passesAll_15 ?_
  refine y_callVv (pc := 18) v_X6_passes l_X6_251 dX6_passesAll_18 (c_X6_passes n _ _) rfl rc_X6 rfl (by decide) (by decide) (Nat.le_of_ble_eq_true rfl) (fun _ M4 _ => ?_)
  refine y_aload_n (pc := 21) dX6_passesAll_21 rfl ?_
  refine y_aload_n (pc := 22) dX6_passesAll_22 rfl ?_
  refine y_getref (pc := 23) (x := 139) g_X6_16 dX6_passesAll_23 ?_
  refine y_callVv (pc := 26) v_X6_passes l_X6_251 dX6_passesAll_26 (c_X6_passes n _ _) rfl rc_X6 rfl (by decide) (by decide) (Nat.le_of_ble_eq_true rfl) (fun _ M5 _ => ?_)
  refine y_aload_n (pc := 29) dX6_passesAll_29 rfl ?_
  refine y_aload_n (pc := 30) dX6_passesAll_30 rfl ?_
  refine y_getref (pc := 31) (x := 140) g_X6_19 dX6_passesAll_31 ?_
  refine y_callVv (pc := 34) v_X6_passes l_X6_251 dX6_passesAll_34 (c_X6_passes n _ _) rfl rc_X6 rfl (by decide) (by decide) (Nat.le_of_ble_eq_true rfl) (fun _ M6 _ => ?_)
  refine y_aload_n (pc := 37) dX6_passesAll_37 rfl ?_
  refine y_aload_n (pc := 38) dX6_passesAll_38 rfl ?_
  refine y_getref (pc := 39) (x := 141) g_X6_22 dX6_passesAll_39 ?_
  refine y_callVv (pc := 42) v_X6_passes l_X6_251 dX6_passesAll_42 (c_X6_passes n _ _) rfl rc_X6 rfl (by decide) (by decide) (Nat.le_of_ble_eq_true rfl) (fun _ M7 _ => ?_)
  refine y_aload_n (pc := 45) dX6_passesAll_45 rfl ?_
  refine y_aload_n (pc := 46) dX6_passesAll_46 rfl ?_
  refine y_getref (pc := 47) (x := 142) g_X6_25 dX6_passesAll_47 ?_
  refine y_callVv (pc := 50) v_X6_passes l_X6_251 dX6_passesAll_50 (c_X6_passes n _ _) rfl rc_X6 rfl (by decide) (by decide) (Nat.le_of_ble_eq_true rfl) (fun _ M8 _ => ?_)
  refine y_aload_n (pc := 53) dX6_passesAll_53 rfl ?_
  refine y_aload_n (pc := 54) dX6_passesAll_54 rfl ?_
  refine y_getref (pc := 55) (x := 143) g_X6_28 dX6_passesAll_55 ?_
  refine y_callVv (pc := 58) v_X6_passes l_X6_251 dX6_passesAll_58 (c_X6_passes n _ _) rfl rc_X6 rfl (by decide) (by decide) (Nat.le_of_ble_eq_true rfl) (fun _ M9 _ => ?_)
  refine y_aload_n (pc := 61) dX6_passesAll_61 rfl ?_
  refine y_aload_n (pc := 62) dX6_passesAll_62 rfl ?_
  refine y_getref (pc := 63) (x := 144) g_X6_31 dX6_passesAll_63 ?_
  refine y_callVv (pc := 66) v_X6_passes l_X6_251 dX6_passesAll_66 (c_X6_passes n _ _) rfl rc_X6 rfl (by decide) (by decide) (Nat.le_of_ble_eq_true rfl) (fun _ M10 _ => ?_)
  refine y_aload_n (pc := 69) dX6_passesAll_69 rfl ?_
  refine y_aload_n (pc := 70) dX6_passesAll_70 rfl ?_
  refine y_getref (pc := 71) (x := 145) g_X6_34 dX6_passesAll_71 ?_
  refine y_callVv (pc := 74) v_X6_passes l_X6_251 dX6_passesAll_74 (c_X6_passes n _ _) rfl rc_X6 rfl (by decide) (by decide) (Nat.le_of_ble_eq_true rfl) (fun _ M11 _ => ?_)
  refine y_aload_n (pc := 77) dX6_passesAll_77 rfl ?_
  refine y_aload_n (pc := 78) dX6_passesAll_78 rfl ?_
  refine y_getref (pc := 79) (x := 146) g_X6_37 dX6_passesAll_79 ?_
  refine y_callVv (pc := 82) v_X6_passes l_X6_251 dX6_passesAll_82 (c_X6_passes n _ _) rfl rc_X6 rfl (by decide) (by decide) (Nat.le_of_ble_eq_true rfl) (fun _ M12 _ => ?_)
  refine y_aload_n (pc := 85) dX6_passesAll_85 rfl ?_
  refine y_aload_n (pc := 86) dX6_passesAll_86 rfl ?_
  refine y_getref (pc := 87) (x := 147) g_X6_40 dX6_passesAll_87 ?_
  refine y_callVv (pc := 90) v_X6_passes l_X6_251 dX6_passesAll_90 (c_X6_passes n _ _) rfl rc_X6 rfl (by decide) (by decide) (Nat.le_of_ble_eq_true rfl) (fun _ M13 _ => ?_)
  refine y_aload_n (pc := 93) dX6_passesAll_93 rfl ?_
  refine y_aload_n (pc := 94) dX6_passesAll_94 rfl ?_
  refine y_aload_n (pc := 95) dX6_passesAll_95 rfl ?_
  refine y_getint (pc := 96) g_X6_79 dX6_passesAll_96 ?_
  refine y_callVi (pc := 99) v_X6_passOne l_X6_255 dX6_passesAll_99 (c_X6_passOne n _ _) rfl rc_X6 rfl (by decide) (by decide) (Nat.le_of_ble_eq_true rfl) (fun r15 M14 _ => ?_)
  refine y_putintw (pc := 102) pf_X6_79 dX6_passesAll_102 (fun M16 => ?_)
  refine y_aload_n (pc := 105) dX6_passesAll_105 rfl ?_
  refine y_aload_n (pc := 106) dX6_passesAll_106 rfl ?_
  refine y_aload_n (pc := 107) dX6_passesAll_107 rfl ?_
  refine y_getint (pc := 108) g_X6_86 dX6_passesAll_108 ?_
  refine y_callVi (pc := 111) v_X6_passOne l_X6_255 dX6_passesAll_111 (c_X6_passOne n _ _) rfl rc_X6 rfl (by decide) (by decide) (Nat.le_of_ble_eq_true rfl) (fun r18 M17 _ => ?_)
  refine y_putintw (pc := 114) pf_X6_86 dX6_passesAll_114 (fun M19 => ?_)
  refine y_aload_n (pc := 117) dX6_passesAll_117 rfl ?_
  refine y_aload_n (pc := 118) dX6_passesAll_118 rfl ?_
  refine y_aload_n (pc := 119) dX6_passesAll_119 rfl ?_
  refine y_getint (pc := 120) g_X6_89 dX6_passesAll_120 ?_
  refine y_callVi (pc := 123) v_X6_passOne l_X6_255 dX6_passesAll_123 (c_X6_passOne n _ _) rfl rc_X6 rfl (by decide) (by decide) (Nat.le_of_ble_eq_true rfl) (fun r21 M20 _ => ?_)
  refine y_putintw (pc := 126) pf_X6_89 dX6_passesAll_126 (fun M22 => ?_)
  refine y_aload_n (pc := 129) dX6_passesAll_129 rfl ?_
  refine y_aload_n (pc := 130) dX6_passesAll_130 rfl ?_
  refine y_aload_n (pc := 131) dX6_passesAll_131 rfl ?_
  refine y_getint (pc := 132) g_X6_74 dX6_passesAll_132 ?_
  refine y_callVi (pc := 135) v_X6_passOne l_X6_255 dX6_passesAll_135 (c_X6_passOne n _ _) rfl rc_X6 rfl (by decide) (by decide) (Nat.le_of_ble_eq_true rfl) (fun r24 M23 _ => ?_)
  refine y_putintw (pc := 138) pf_X6_74 dX6_passesAll_138 (fun M25 => ?_)
  refine y_aload_n (pc := 141) dX6_passesAll_141 rfl ?_
  refine y_aload_n (pc := 142) dX6_passesAll_142 rfl ?_
  refine y_aload_n (pc := 143) dX6_passesAll_143 rfl ?_
  refine y_getint (pc := 144) g_X6_114 dX6_passesAll_144 ?_
  refine y_callVi (pc := 147) v_X6_passOne l_X6_255 dX6_passesAll_147 (c_X6_passOne n _ _) rfl rc_X6 rfl (by decide) (by decide) (Nat.le_of_ble_eq_true rfl) (fun r27 M26 _ => ?_)
  refine y_putintw (pc := 150) pf_X6_114 dX6_passesAll_150 (fun M28 => ?_)
  exact y_vret (pc := 153) dX6_passesAll_153
theorem c_X6_passesAll (n : Nat) (M : Mem) (a1 : Int) (a2 : Int) : ∀ res : Int × Mem, m_X6_passesAll n M a1 a2 = some res → CTv yX6_passesAll cX6_passesAll 3 1 [rv 137, iv a1, iv a2] M res := CTv_of (by decide +kernel) rfl (Nat.le_of_ble_eq_true rfl) rfl (y_X6_passesAll n M a1 a2)
def m_X6_coast_86 (n : Nat) : Nat → Mem → Int → Rs
  | 0, _, _ => none
  | t + 1, M, a2 => if I32 a2 then (if (rd M 137 24) ≤ a2 then (wr M 137 30 0 (fun M3 => some ((rd M3 137 24), M3))) else (bd (m_X6_comesTold n M a2) (fun r5 M4 => if I32 r5 then (if r5 = 0 then (bd (m_X6_passesAll n M4 1 0) (fun _ M8 => if 0 ≤ a2 ∧ a2 < 33 then (some (((-2000) - (rd M8 153 (Int.toNat a2))), M8)) else none)) else ((m_X6_coast_86 n t) M4 (a2 + 1))) else none))) else none
theorem t_X6_coast_86 (n : Nat) : ∀ (t : Nat) (M : Mem) (a2 : Int), Y RX6 cX6_coast 3 10 0 none 86 [some (rv 137), none, some (iv a2)] [] M (m_X6_coast_86 n t M a2) := by
  intro t
  induction t with
  | zero => intro M a2; exact y_none
  | succ t ih =>
    intro M a2
    rewrite [m_X6_coast_86]
    refine y_iload_n (pc := 86) dX6_coast_86 rfl ?_
    refine y_aload_n (pc := 87) dX6_coast_87 rfl ?_
    refine y_getint (pc := 88) g_X6_188 dX6_coast_88 ?_
    refine y_gd (fun h1 => ?_)
    refine y_icmp_ge (off := 37) (tgt := 128) (pc := 91) dX6_coast_91 (by decide) h1 (rd_rng _ _ _) (fun h2 => ?_) (fun h2 => ?_)
    · refine y_aload_n (pc := 128) dX6_coast_128 rfl ?_
      refine y_iconst (pc := 129) dX6_coast_129 ?_
      refine y_putintw (pc := 130) pf_X6_242 dX6_coast_130 (fun M3 => ?_)
      refine y_aload_n (pc := 133) dX6_coast_133 rfl ?_
      refine y_getint (pc := 134) g_X6_188 dX6_coast_134 ?_
      exact y_iret (pc := 137) dX6_coast_137
    · refine y_aload_n (pc := 94) dX6_coast_94 rfl ?_
      refine y_iload_n (pc := 95) dX6_coast_95 rfl ?_
      refine y_callVi (pc := 96) v_X6_comesTold l_X6_239 dX6_coast_96 (c_X6_comesTold n _ _) rfl rc_X6 rfl (by decide) (by decide) (Nat.le_of_ble_eq_true rfl) (fun r5 M4 _ => ?_)
      refine y_gd (fun h6 => ?_)
      refine y_if_eq (off := 6) (tgt := 105) (pc := 99) dX6_coast_99 (by decide) h6 (fun h7 => ?_) (fun h7 => ?_)
      · refine y_aload_n (pc := 105) dX6_coast_105 rfl ?_
        refine y_iconst (pc := 106) dX6_coast_106 ?_
        refine y_iconst (pc := 107) dX6_coast_107 ?_
        refine y_callVv (pc := 108) v_X6_passesAll l_X6_235 dX6_coast_108 (c_X6_passesAll n _ _ _) rfl rc_X6 rfl (by decide) (by decide) (Nat.le_of_ble_eq_true rfl) (fun _ M8 _ => ?_)
        refine y_sipush (pc := 111) dX6_coast_111 (by decide) ?_
        refine y_aload_n (pc := 114) dX6_coast_114 rfl ?_
        refine y_getref (pc := 115) (x := 153) g_X6_59 dX6_coast_115 ?_
        refine y_iload_n (pc := 118) dX6_coast_118 rfl ?_
        refine y_gd (fun h9 => ?_)
        refine y_iald (pc := 119) dX6_coast_119 ar_153 h9 ?_
        refine y_isub (pc := 120) dX6_coast_120 ?_
        exact y_iret (pc := 121) dX6_coast_121
      · refine y_goto (tgt := 122) (pc := 102) dX6_coast_102 (by decide) ?_
        refine y_iinc (L' := [some (rv 137), none, some (iv (a2 + 1))]) (pc := 122) dX6_coast_122 rfl (by decide) rfl rfl ?_
        refine y_goto (tgt := 86) (pc := 125) dX6_coast_125 (by decide) ?_
        exact y_sub (ls_s (ls_n (ls_s ls_0))) (ih M4 (a2 + 1))
def m_X6_coast_60 (n : Nat) (M : Mem) (a1 : Int) : Rs := wr M 137 22 0 (fun M10 => if I32 a1 then (if a1 = 0 then (some (((-1000) - (rd M10 137 23)), M10)) else (bd (m_X6_passesAll n M10 1 1) (fun _ M13 => m_X6_coast_86 n n M13 0))) else none)
theorem t_X6_coast_60 (n : Nat) (M : Mem) (a1 : Int) : Y RX6 cX6_coast 3 10 0 none 60 [some (rv 137), some (iv a1), none] [] M (m_X6_coast_60 n M a1) := by
  unfold m_X6_coast_60
  refine y_aload_n (pc := 60) dX6_coast_60 rfl ?_
  refine y_iconst (pc := 61) dX6_coast_61 ?_
  refine y_putintw (pc := 62) pf_X6_169 dX6_coast_62 (fun M10 => ?_)
  refine y_iload_n (pc := 65) dX6_coast_65 rfl ?_
  refine y_gd (fun h11 => ?_)
  refine y_if_ne (off := 12) (tgt := 78) (pc := 66) dX6_coast_66 (by decide) h11 (fun h12 => ?_) (fun h12 => ?_)
  · refine y_aload_n (pc := 78) dX6_coast_78 rfl ?_
    refine y_iconst (pc := 79) dX6_coast_79 ?_
    refine y_iconst (pc := 80) dX6_coast_80 ?_
    refine y_callVv (pc := 81) v_X6_passesAll l_X6_235 dX6_coast_81 (c_X6_passesAll n _ _ _) rfl rc_X6 rfl (by decide) (by decide) (Nat.le_of_ble_eq_true rfl) (fun _ M13 _ => ?_)
    refine y_iconst (pc := 84) dX6_coast_84 ?_
    refine y_istore_n (L' := [some (rv 137), some (iv a1), some (iv 0)]) (pc := 85) dX6_coast_85 (by decide) rfl rfl ?_
    exact y_sub (ls_s (ls_n (ls_s ls_0))) (t_X6_coast_86 n n M13 0)
  · refine y_sipush (pc := 69) dX6_coast_69 (by decide) ?_
    refine y_aload_n (pc := 72) dX6_coast_72 rfl ?_
    refine y_getint (pc := 73) g_X6_175 dX6_coast_73 ?_
    refine y_isub (pc := 76) dX6_coast_76 ?_
    exact y_iret (pc := 77) dX6_coast_77
def m_X6_coast_53 (n : Nat) (k12 : Mem → Int → Rs) (M : Mem) (a1 : Int) (s0 : Int) (s1 : Int) : Rs := wr M 137 24 (s1 + s0) (fun M14 => k12 M14 a1)
theorem t_X6_coast_53 (n : Nat) (k12 : Mem → Int → Rs) (hk12 : ∀ (M : Mem) (a1 : Int), Y RX6 cX6_coast 3 10 0 none 12 [some (rv 137), some (iv a1), none] [] M (k12 M a1)) (M : Mem) (a1 : Int) (s0 : Int) (s1 : Int) : Y RX6 cX6_coast 3 10 0 none 53 [some (rv 137), some (iv a1), none] [iv s0, iv s1, rv 137] M (m_X6_coast_53 n k12 M a1 s0 s1) := by
  unfold m_X6_coast_53
  refine y_iadd (pc := 53) dX6_coast_53 ?_
  refine y_putintw (pc := 54) pf_X6_188 dX6_coast_54 (fun M14 => ?_)
  refine y_goto (tgt := 12) (pc := 57) dX6_coast_57 (by decide) ?_
  exact y_sub (ls_s (ls_s (ls_n ls_0))) (hk12 M14 a1)
def m_X6_coast_34 (n : Nat) (k12 : Mem → Int → Rs) (M : Mem) : Rs := bd (m_X6_statement n M) (fun r16 M15 => if I32 r16 then (if r16 = 0 then (m_X6_coast_53 n k12 M15 r16 0 (rd M15 137 24)) else (m_X6_coast_53 n k12 M15 r16 1 (rd M15 137 24))) else none)
theorem t_X6_coast_34 (n : Nat) (k12 : Mem → Int → Rs) (hk12 : ∀ (M : Mem) (a1 : Int), Y RX6 cX6_coast 3 10 0 none 12 [some (rv 137), some (iv a1), none] [] M (k12 M a1)) (M : Mem) : Y RX6 cX6_coast 3 10 0 none 34 [some (rv 137), none, none] [] M (m_X6_coast_34 n k12 M) := by
  unfold m_X6_coast_34
  refine y_aload_n (pc := 34) dX6_coast_34 rfl ?_
  refine y_callVi (pc := 35) v_X6_statement l_X6_231 dX6_coast_35 (c_X6_statement n _) rfl rc_X6 rfl (by decide) (by decide) (Nat.le_of_ble_eq_true rfl) (fun r16 M15 _ => ?_)
  refine y_istore_n (L' := [some (rv 137), some (iv r16), none]) (pc := 38) dX6_coast_38 (by decide) rfl rfl ?_
  refine y_aload_n (pc := 39) dX6_coast_39 rfl ?_
  refine y_dup (pc := 40) dX6_coast_40 rfl ?_
  refine y_getint (pc := 41) g_X6_188 dX6_coast_41 ?_
  refine y_iload_n (pc := 44) dX6_coast_44 rfl ?_
  refine y_gd (fun h17 => ?_)
  refine y_if_eq (off := 7) (tgt := 52) (pc := 45) dX6_coast_45 (by decide) h17 (fun h18 => ?_) (fun h18 => ?_)
  · refine y_iconst (pc := 52) dX6_coast_52 ?_
    exact y_sub (ls_s (ls_s (ls_n ls_0))) (t_X6_coast_53 n k12 hk12 M15 r16 0 (rd M15 137 24))
  · refine y_iconst (pc := 48) dX6_coast_48 ?_
    refine y_goto (tgt := 53) (pc := 49) dX6_coast_49 (by decide) ?_
    exact y_sub (ls_s (ls_s (ls_n ls_0))) (t_X6_coast_53 n k12 hk12 M15 r16 1 (rd M15 137 24))
def m_X6_coast_12 (n : Nat) : Nat → Mem → Int → Rs
  | 0, _, _ => none
  | t + 1, M, a1 => if I32 a1 then (if a1 = 0 then (m_X6_coast_60 n M a1) else (if (rd M 137 23) < (rd M 137 22) then (m_X6_coast_34 n (m_X6_coast_12 n t) M) else (if (rd M 137 24) = 0 then (m_X6_coast_34 n (m_X6_coast_12 n t) M) else (m_X6_coast_60 n M a1)))) else none
theorem t_X6_coast_12 (n : Nat) : ∀ (t : Nat) (M : Mem) (a1 : Int), Y RX6 cX6_coast 3 10 0 none 12 [some (rv 137), some (iv a1), none] [] M (m_X6_coast_12 n t M a1) := by
  intro t
  induction t with
  | zero => intro M a1; exact y_none
  | succ t ih =>
    intro M a1
    rewrite [m_X6_coast_12]
    refine y_iload_n (pc := 12) dX6_coast_12 rfl ?_
    refine y_gd (fun h19 => ?_)
    refine y_if_eq (off := 47) (tgt := 60) (pc := 13) dX6_coast_13 (by decide) h19 (fun h20 => ?_) (fun h20 => ?_)
    · exact y_sub (ls_s (ls_s (ls_n ls_0))) (t_X6_coast_60 n M a1)
    · refine y_aload_n (pc := 16) dX6_coast_16 rfl ?_
      refine y_getint (pc := 17) g_X6_175 dX6_coast_17 ?_
      refine y_aload_n (pc := 20) dX6_coast_20 rfl ?_
      refine y_getint (pc := 21) g_X6_169 dX6_coast_21 ?_
      refine y_icmp_lt (off := 10) (tgt := 34) (pc := 24) dX6_coast_24 (by decide) (rd_rng _ _ _) (rd_rng _ _ _) (fun h21 => ?_) (fun h21 => ?_)
      · exact y_sub (ls_s (ls_n (ls_n ls_0))) (t_X6_coast_34 n (m_X6_coast_12 n t) ih M)
      · refine y_aload_n (pc := 27) dX6_coast_27 rfl ?_
        refine y_getint (pc := 28) g_X6_188 dX6_coast_28 ?_
        refine y_if_ne (off := 29) (tgt := 60) (pc := 31) dX6_coast_31 (by decide) (rd_rng _ _ _) (fun h22 => ?_) (fun h22 => ?_)
        · exact y_sub (ls_s (ls_s (ls_n ls_0))) (t_X6_coast_60 n M a1)
        · exact y_sub (ls_s (ls_n (ls_n ls_0))) (t_X6_coast_34 n (m_X6_coast_12 n t) ih M)
def m_X6_coast (n : Nat) (M : Mem) : Rs := wr M 137 23 0 (fun M23 => wr M23 137 24 0 (fun M24 => m_X6_coast_12 n n M24 1))
theorem y_X6_coast (n : Nat) (M : Mem) : Y RX6 cX6_coast 3 10 0 none 0 [some (rv 137), none, none] [] M (m_X6_coast n M) := by
  unfold m_X6_coast
  refine y_aload_n (pc := 0) dX6_coast_0 rfl ?_
  refine y_iconst (pc := 1) dX6_coast_1 ?_
  refine y_putintw (pc := 2) pf_X6_175 dX6_coast_2 (fun M23 => ?_)
  refine y_aload_n (pc := 5) dX6_coast_5 rfl ?_
  refine y_iconst (pc := 6) dX6_coast_6 ?_
  refine y_putintw (pc := 7) pf_X6_188 dX6_coast_7 (fun M24 => ?_)
  refine y_iconst (pc := 10) dX6_coast_10 ?_
  refine y_istore_n (L' := [some (rv 137), some (iv 1), none]) (pc := 11) dX6_coast_11 (by decide) rfl rfl ?_
  exact y_sub (ls_s (ls_s (ls_n ls_0))) (t_X6_coast_12 n n M24 1)
theorem c_X6_coast (n : Nat) (M : Mem) : ∀ res : Int × Mem, m_X6_coast n M = some res → CTi yX6_coast cX6_coast 3 (some .int) 10 [rv 137] M res := CTi_of (by decide +kernel) rfl (Nat.le_of_ble_eq_true rfl) rfl (y_X6_coast n M)
def m_X6_minds (n : Nat) (M : Mem) : Rs := bd (m_X6_passesAll n M 2 1) (fun _ M1 => some (0, M1))
theorem y_X6_minds (n : Nat) (M : Mem) : Y RX6 cX6_minds 1 2 3 none 0 [some (rv 137)] [] M (m_X6_minds n M) := by
  unfold m_X6_minds
  refine y_aload_n (pc := 0) dX6_minds_0 rfl ?_
  refine y_iconst (pc := 1) dX6_minds_1 ?_
  refine y_iconst (pc := 2) dX6_minds_2 ?_
  refine y_callVv (pc := 3) v_X6_passesAll l_X6_235 dX6_minds_3 (c_X6_passesAll n _ _ _) rfl rc_X6 rfl (by decide) (by decide) (Nat.le_of_ble_eq_true rfl) (fun _ M1 _ => ?_)
  exact y_vret (pc := 6) dX6_minds_6
theorem c_X6_minds (n : Nat) (M : Mem) : ∀ res : Int × Mem, m_X6_minds n M = some res → CTv yX6_minds cX6_minds 1 2 [rv 137] M res := CTv_of (by decide +kernel) rfl (Nat.le_of_ble_eq_true rfl) rfl (y_X6_minds n M)
def m_X6_forgets (n : Nat) (M : Mem) : Rs := bd (m_X6_passesAll n M 2 0) (fun _ M1 => wr M1 137 20 (-9) (fun M2 => wr M2 137 21 0 (fun M3 => some (0, M3))))
theorem y_X6_forgets (n : Nat) (M : Mem) : Y RX6 cX6_forgets 1 2 3 none 0 [some (rv 137)] [] M (m_X6_forgets n M) := by
  unfold m_X6_forgets
  refine y_aload_n (pc := 0) dX6_forgets_0 rfl ?_
  refine y_iconst (pc := 1) dX6_forgets_1 ?_
  refine y_iconst (pc := 2) dX6_forgets_2 ?_
  refine y_callVv (pc := 3) v_X6_passesAll l_X6_235 dX6_forgets_3 (c_X6_passesAll n _ _ _) rfl rc_X6 rfl (by decide) (by decide) (Nat.le_of_ble_eq_true rfl) (fun _ M1 _ => ?_)
  refine y_aload_n (pc := 6) dX6_forgets_6 rfl ?_
  refine y_bipush (pc := 7) dX6_forgets_7 (by decide) ?_
  refine y_putintw (pc := 9) pf_X6_49 dX6_forgets_9 (fun M2 => ?_)
  refine y_aload_n (pc := 12) dX6_forgets_12 rfl ?_
  refine y_iconst (pc := 13) dX6_forgets_13 ?_
  refine y_putboolw (pc := 14) pf_X6_103 (by decide) dX6_forgets_14 (fun M3 => ?_)
  exact y_vret (pc := 17) dX6_forgets_17
theorem c_X6_forgets (n : Nat) (M : Mem) : ∀ res : Int × Mem, m_X6_forgets n M = some res → CTv yX6_forgets cX6_forgets 1 2 [rv 137] M res := CTv_of (by decide +kernel) rfl (Nat.le_of_ble_eq_true rfl) rfl (y_X6_forgets n M)
def m_X6_remembers_35 (n : Nat) (M : Mem) : Rs := if I32 (((rd M 137 29) + (rd M 137 30)) - 1) then (bd (m_X6_passesAll n M (3 + (Int.tmod (((rd M 137 29) + (rd M 137 30)) - 1) 8)) 1) (fun _ M2 => some (0, M2))) else none
theorem t_X6_remembers_35 (n : Nat) (M : Mem) : Y RX6 cX6_remembers 1 2 3 none 35 [some (rv 137)] [] M (m_X6_remembers_35 n M) := by
  unfold m_X6_remembers_35
  refine y_aload_n (pc := 35) dX6_remembers_35 rfl ?_
  refine y_iconst (pc := 36) dX6_remembers_36 ?_
  refine y_aload_n (pc := 37) dX6_remembers_37 rfl ?_
  refine y_getint (pc := 38) g_X6_258 dX6_remembers_38 ?_
  refine y_aload_n (pc := 41) dX6_remembers_41 rfl ?_
  refine y_getint (pc := 42) g_X6_242 dX6_remembers_42 ?_
  refine y_iadd (pc := 45) dX6_remembers_45 ?_
  refine y_iconst (pc := 46) dX6_remembers_46 ?_
  refine y_isub (pc := 47) dX6_remembers_47 ?_
  refine y_bipush (pc := 48) dX6_remembers_48 (by decide) ?_
  refine y_gd (fun h1 => ?_)
  refine y_irem (pc := 50) dX6_remembers_50 h1 (by decide) (by decide) ?_
  refine y_iadd (pc := 51) dX6_remembers_51 ?_
  refine y_iconst (pc := 52) dX6_remembers_52 ?_
  refine y_callVv (pc := 53) v_X6_passesAll l_X6_235 dX6_remembers_53 (c_X6_passesAll n _ _ _) rfl rc_X6 rfl (by decide) (by decide) (Nat.le_of_ble_eq_true rfl) (fun _ M2 _ => ?_)
  exact y_vret (pc := 56) dX6_remembers_56
def m_X6_remembers (n : Nat) (M : Mem) : Rs := if (rd M 137 30) = 8 then (if I32 ((rd M 137 29) + 1) then (wr M 137 29 (Int.tmod ((rd M 137 29) + 1) 8) (fun M6 => m_X6_remembers_35 n M6)) else none) else (wr M 137 30 ((rd M 137 30) + 1) (fun M4 => m_X6_remembers_35 n M4))
theorem y_X6_remembers (n : Nat) (M : Mem) : Y RX6 cX6_remembers 1 2 3 none 0 [some (rv 137)] [] M (m_X6_remembers n M) := by
  unfold m_X6_remembers
  refine y_aload_n (pc := 0) dX6_remembers_0 rfl ?_
  refine y_getint (pc := 1) g_X6_242 dX6_remembers_1 ?_
  refine y_bipush (pc := 4) dX6_remembers_4 (by decide) ?_
  refine y_icmp_ne (off := 19) (tgt := 25) (pc := 6) dX6_remembers_6 (by decide) (rd_rng _ _ _) (by decide) (fun h3 => ?_) (fun h3 => ?_)
  · refine y_aload_n (pc := 25) dX6_remembers_25 rfl ?_
    refine y_dup (pc := 26) dX6_remembers_26 rfl ?_
    refine y_getint (pc := 27) g_X6_242 dX6_remembers_27 ?_
    refine y_iconst (pc := 30) dX6_remembers_30 ?_
    refine y_iadd (pc := 31) dX6_remembers_31 ?_
    refine y_putintw (pc := 32) pf_X6_242 dX6_remembers_32 (fun M4 => ?_)
    exact y_sub (ls_s ls_0) (t_X6_remembers_35 n M4)
  · refine y_aload_n (pc := 9) dX6_remembers_9 rfl ?_
    refine y_aload_n (pc := 10) dX6_remembers_10 rfl ?_
    refine y_getint (pc := 11) g_X6_258 dX6_remembers_11 ?_
    refine y_iconst (pc := 14) dX6_remembers_14 ?_
    refine y_iadd (pc := 15) dX6_remembers_15 ?_
    refine y_bipush (pc := 16) dX6_remembers_16 (by decide) ?_
    refine y_gd (fun h5 => ?_)
    refine y_irem (pc := 18) dX6_remembers_18 h5 (by decide) (by decide) ?_
    refine y_putintw (pc := 19) pf_X6_258 dX6_remembers_19 (fun M6 => ?_)
    refine y_goto (tgt := 35) (pc := 22) dX6_remembers_22 (by decide) ?_
    exact y_sub (ls_s ls_0) (t_X6_remembers_35 n M6)
theorem c_X6_remembers (n : Nat) (M : Mem) : ∀ res : Int × Mem, m_X6_remembers n M = some res → CTv yX6_remembers cX6_remembers 1 2 [rv 137] M res := CTv_of (by decide +kernel) rfl (Nat.le_of_ble_eq_true rfl) rfl (y_X6_remembers n M)
def m_X6_back (n : Nat) (M : Mem) : Rs := if (rd M 137 30) = 0 then (bd (m_X6_no n M (-3)) (fun r6 M5 => some (r6, M5))) else (if I32 (((rd M 137 29) + (rd M 137 30)) - 1) then (bd (m_X6_passesAll n M (3 + (Int.tmod (((rd M 137 29) + (rd M 137 30)) - 1) 8)) 0) (fun _ M3 => wr M3 137 30 ((rd M3 137 30) - 1) (fun M4 => some ((rd M4 137 30), M4)))) else none)
theorem y_X6_back (n : Nat) (M : Mem) : Y RX6 cX6_back 1 2 0 none 0 [some (rv 137)] [] M (m_X6_back n M) := by
  unfold m_X6_back
  refine y_aload_n (pc := 0) dX6_back_0 rfl ?_
  refine y_getint (pc := 1) g_X6_242 dX6_back_1 ?_
  refine y_if_ne (off := 10) (tgt := 14) (pc := 4) dX6_back_4 (by decide) (rd_rng _ _ _) (fun h1 => ?_) (fun h1 => ?_)
  · refine y_aload_n (pc := 14) dX6_back_14 rfl ?_
    refine y_iconst (pc := 15) dX6_back_15 ?_
    refine y_aload_n (pc := 16) dX6_back_16 rfl ?_
    refine y_getint (pc := 17) g_X6_258 dX6_back_17 ?_
    refine y_aload_n (pc := 20) dX6_back_20 rfl ?_
    refine y_getint (pc := 21) g_X6_242 dX6_back_21 ?_
    refine y_iadd (pc := 24) dX6_back_24 ?_
    refine y_iconst (pc := 25) dX6_back_25 ?_
    refine y_isub (pc := 26) dX6_back_26 ?_
    refine y_bipush (pc := 27) dX6_back_27 (by decide) ?_
    refine y_gd (fun h2 => ?_)
    refine y_irem (pc := 29) dX6_back_29 h2 (by decide) (by decide) ?_
    refine y_iadd (pc := 30) dX6_back_30 ?_
    refine y_iconst (pc := 31) dX6_back_31 ?_
    refine y_callVv (pc := 32) v_X6_passesAll l_X6_235 dX6_back_32 (c_X6_passesAll n _ _ _) rfl rc_X6 rfl (by decide) (by decide) (Nat.le_of_ble_eq_true rfl) (fun _ M3 _ => ?_)
    refine y_aload_n (pc := 35) dX6_back_35 rfl ?_
    refine y_dup (pc := 36) dX6_back_36 rfl ?_
    refine y_getint (pc := 37) g_X6_242 dX6_back_37 ?_
    refine y_iconst (pc := 40) dX6_back_40 ?_
    refine y_isub (pc := 41) dX6_back_41 ?_
    refine y_putintw (pc := 42) pf_X6_242 dX6_back_42 (fun M4 => ?_)
    refine y_aload_n (pc := 45) dX6_back_45 rfl ?_
    refine y_getint (pc := 46) g_X6_242 dX6_back_46 ?_
    exact y_iret (pc := 49) dX6_back_49
  · refine y_aload_n (pc := 7) dX6_back_7 rfl ?_
    refine y_bipush (pc := 8) dX6_back_8 (by decide) ?_
    refine y_callVi (pc := 10) v_X6_no l_X6_172 dX6_back_10 (c_X6_no n _ _) rfl rc_X6 rfl (by decide) (by decide) (Nat.le_of_ble_eq_true rfl) (fun r6 M5 _ => ?_)
    exact y_iret (pc := 13) dX6_back_13
theorem c_X6_back (n : Nat) (M : Mem) : ∀ res : Int × Mem, m_X6_back n M = some res → CTi yX6_back cX6_back 1 (some .int) 2 [rv 137] M res := CTi_of (by decide +kernel) rfl (Nat.le_of_ble_eq_true rfl) rfl (y_X6_back n M)
def m_X6_image (n : Nat) (M : Mem) : Rs := wr M 137 26 1 (fun M1 => bd (m_X6_passesAll n M1 0 1) (fun _ M2 => some ((rd M2 137 13), M2)))
theorem y_X6_image (n : Nat) (M : Mem) : Y RX6 cX6_image 1 2 0 none 0 [some (rv 137)] [] M (m_X6_image n M) := by
  unfold m_X6_image
  refine y_aload_n (pc := 0) dX6_image_0 rfl ?_
  refine y_iconst (pc := 1) dX6_image_1 ?_
  refine y_putboolw (pc := 2) pf_X6_261 (by decide) dX6_image_2 (fun M1 => ?_)
  refine y_aload_n (pc := 5) dX6_image_5 rfl ?_
  refine y_iconst (pc := 6) dX6_image_6 ?_
  refine y_iconst (pc := 7) dX6_image_7 ?_
  refine y_callVv (pc := 8) v_X6_passesAll l_X6_235 dX6_image_8 (c_X6_passesAll n _ _ _) rfl rc_X6 rfl (by decide) (by decide) (Nat.le_of_ble_eq_true rfl) (fun _ M2 _ => ?_)
  refine y_aload_n (pc := 11) dX6_image_11 rfl ?_
  refine y_getint (pc := 12) g_X6_114 dX6_image_12 ?_
  exact y_iret (pc := 15) dX6_image_15
theorem c_X6_image (n : Nat) (M : Mem) : ∀ res : Int × Mem, m_X6_image n M = some res → CTi yX6_image cX6_image 1 (some .int) 2 [rv 137] M res := CTi_of (by decide +kernel) rfl (Nat.le_of_ble_eq_true rfl) rfl (y_X6_image n M)
def m_X6_restore (n : Nat) (M : Mem) : Rs := if (rd M 137 26) = 0 then (bd (m_X6_no n M (-3)) (fun r5 M4 => some (r5, M4))) else (bd (m_X6_passesAll n M 0 0) (fun _ M2 => wr M2 137 30 0 (fun M3 => some ((rd M3 137 13), M3))))
theorem y_X6_restore (n : Nat) (M : Mem) : Y RX6 cX6_restore 1 2 0 none 0 [some (rv 137)] [] M (m_X6_restore n M) := by
  unfold m_X6_restore
  refine y_aload_n (pc := 0) dX6_restore_0 rfl ?_
  refine y_getint (pc := 1) g_X6_261 dX6_restore_1 ?_
  refine y_if_ne (off := 10) (tgt := 14) (pc := 4) dX6_restore_4 (by decide) (rd_rng _ _ _) (fun h1 => ?_) (fun h1 => ?_)
  · refine y_aload_n (pc := 14) dX6_restore_14 rfl ?_
    refine y_iconst (pc := 15) dX6_restore_15 ?_
    refine y_iconst (pc := 16) dX6_restore_16 ?_
    refine y_callVv (pc := 17) v_X6_passesAll l_X6_235 dX6_restore_17 (c_X6_passesAll n _ _ _) rfl rc_X6 rfl (by decide) (by decide) (Nat.le_of_ble_eq_true rfl) (fun _ M2 _ => ?_)
    refine y_aload_n (pc := 20) dX6_restore_20 rfl ?_
    refine y_iconst (pc := 21) dX6_restore_21 ?_
    refine y_putintw (pc := 22) pf_X6_242 dX6_restore_22 (fun M3 => ?_)
    refine y_aload_n (pc := 25) dX6_restore_25 rfl ?_
    refine y_getint (pc := 26) g_X6_114 dX6_restore_26 ?_
    exact y_iret (pc := 29) dX6_restore_29
  · refine y_aload_n (pc := 7) dX6_restore_7 rfl ?_
    refine y_bipush (pc := 8) dX6_restore_8 (by decide) ?_
    refine y_callVi (pc := 10) v_X6_no l_X6_172 dX6_restore_10 (c_X6_no n _ _) rfl rc_X6 rfl (by decide) (by decide) (Nat.le_of_ble_eq_true rfl) (fun r5 M4 _ => ?_)
    exact y_iret (pc := 13) dX6_restore_13
theorem c_X6_restore (n : Nat) (M : Mem) : ∀ res : Int × Mem, m_X6_restore n M = some res → CTi yX6_restore cX6_restore 1 (some .int) 2 [rv 137] M res := CTi_of (by decide +kernel) rfl (Nat.le_of_ble_eq_true rfl) rfl (y_X6_restore n M)
def m_X6_person (n : Nat) (M : Mem) (a1 : Int) (a2 : Int) : Rs := bd (m_X6_isPerson n M a1) (fun r2 M1 => if I32 r2 then (if r2 = 0 then (bd (m_X6_no n M1 (-1)) (fun r32 M31 => some (r32, M31))) else (if I32 a2 then (if a2 = 0 then (if 0 ≤ a1 ∧ a1 < 5 then (some ((rd M1 144 (Int.toNat a1)), M1)) else none) else (if a2 = 1 then (if 0 ≤ a1 ∧ a1 < 5 then (some ((rd M1 145 (Int.toNat a1)), M1)) else none) else (if a2 = 2 then (if 0 ≤ a1 ∧ a1 < 5 then (some ((rd M1 146 (Int.toNat a1)), M1)) else none) else (if a2 = 3 then (if 0 ≤ a1 ∧ a1 < 5 then (some ((rd M1 147 (Int.toNat a1)), M1)) else none) else (if a2 = 4 then (bd (m_X6_pace n M1 a1) (fun r16 M15 => some (r16, M15))) else (if a2 = 5 then (bd (m_X6_grabs n M1 a1) (fun r19 M18 => some (r19, M18))) else (if a2 = 6 then (bd (m_X6_steam n M1 a1) (fun r22 M21 => some (r22, M21))) else (if a2 = 7 then (bd (m_X6_goal n M1 a1 ((rd M1 137 13) + 1)) (fun r25 M24 => some (r25, M24))) else (if a2 = 8 then (bd (m_X6_worthsOf n M1 a1) (fun r28 M27 => some (r28, M27))) else (bd (m_X6_no n M1 (-2)) (fun r30 M29 => some (r30, M29)))))))))))) else none)) else none)
theorem y_X6_person (n : Nat) (M : Mem) (a1 : Int) (a2 : Int) : Y RX6 cX6_person 3 5 0 none 0 [some (rv 137), some (iv a1), some (iv a2)] [] M (m_X6_person n M a1 a2) := by
  unfold m_X6_person
  refine y_aload_n (pc := 0) dX6_person_0 rfl ?_
  refine y_iload_n (pc := 1) dX6_person_1 rfl ?_
  refine y_callVi (pc := 2) v_X6_isPerson l_X6_92 dX6_person_2 (c_X6_isPerson n _ _) rfl rc_X6 rfl (by decide) (by decide) (Nat.le_of_ble_eq_true rfl) (fun r2 M1 _ => ?_)
  refine y_gd (fun h3 => ?_)
  refine y_if_ne (off := 9) (tgt := 14) (pc := 5) dX6_person_5 (by decide) h3 (fun h4 => ?_) (fun h4 => ?_)
  · refine y_iload_n (pc := 14) dX6_person_14 rfl ?_
    refine y_gd (fun h5 => ?_)
    refine y_br (fun h6 => ?_) (fun h6 => ?_)
    · refine y_tableIn (off := 49) (tgt := 64) (pc := 15) dX6_person_15 h6 (by decide) (by decide) (by decide) rfl (by decide) ?_
      refine y_aload_n (pc := 64) dX6_person_64 rfl ?_
      refine y_getref (pc := 65) (x := 144) g_X6_31 dX6_person_65 ?_
      refine y_iload_n (pc := 68) dX6_person_68 rfl ?_
      refine y_gd (fun h7 => ?_)
      refine y_iald (pc := 69) dX6_person_69 ar_144 h7 ?_
      exact y_iret (pc := 70) dX6_person_70
    · refine y_br (fun h8 => ?_) (fun h8 => ?_)
      · refine y_tableIn (off := 56) (tgt := 71) (pc := 15) dX6_person_15 h8 (by decide) (by decide) (by decide) rfl (by decide) ?_
        refine y_aload_n (pc := 71) dX6_person_71 rfl ?_
        refine y_getref (pc := 72) (x := 145) g_X6_34 dX6_person_72 ?_
        refine y_iload_n (pc := 75) dX6_person_75 rfl ?_
        refine y_gd (fun h9 => ?_)
        refine y_iald (pc := 76) dX6_person_76 ar_145 h9 ?_
        exact y_iret (pc := 77) dX6_person_77
      · refine y_br (fun h10 => ?_) (fun h10 => ?_)
        · refine y_tableIn (off := 63) (tgt := 78) (pc := 15) dX6_person_15 h10 (by decide) (by decide) (by decide) rfl (by decide) ?_
          refine y_aload_n (pc := 78) dX6_person_78 rfl ?_
          refine y_getref (pc := 79) (x := 146) g_X6_37 dX6_person_79 ?_
          refine y_iload_n (pc := 82) dX6_person_82 rfl ?_
          refine y_gd (fun h11 => ?_)
          refine y_iald (pc := 83) dX6_person_83 ar_146 h11 ?_
          exact y_iret (pc := 84) dX6_person_84
        · refine y_br (fun h12 => ?_) (fun h12 => ?_)
          · refine y_tableIn (off := 70) (tgt := 85) (pc := 15) dX6_person_15 h12 (by decide) (by decide) (by decide) rfl (by decide) ?_
            refine y_aload_n (pc := 85) dX6_person_85 rfl ?_
            refine y_getref (pc := 86) (x := 147) g_X6_40 dX6_person_86 ?_
            refine y_iload_n (pc := 89) dX6_person_89 rfl ?_
            refine y_gd (fun h13 => ?_)
            refine y_iald (pc := 90) dX6_person_90 ar_147 h13 ?_
            exact y_iret (pc := 91) dX6_person_91
          · refine y_br (fun h14 => ?_) (fun h14 => ?_)
            · refine y_tableIn (off := 77) (tgt := 92) (pc := 15) dX6_person_15 h14 (by decide) (by decide) (by decide) rfl (by decide) ?_
              refine y_aload_n (pc := 92) dX6_person_92 rfl ?_
              refine y_iload_n (pc := 93) dX6_person_93 rfl ?_
              refine y_callVi (pc := 94) v_X6_pace l_X6_145 dX6_person_94 (c_X6_pace n _ _) rfl rc_X6 rfl (by decide) (by decide) (Nat.le_of_ble_eq_true rfl) (fun r16 M15 _ => ?_)
              exact y_iret (pc := 97) dX6_person_97
            · refine y_br (fun h17 => ?_) (fun h17 => ?_)
              · refine y_tableIn (off := 83) (tgt := 98) (pc := 15) dX6_person_15 h17 (by decide) (by decide) (by decide) rfl (by decide) ?_
                refine y_aload_n (pc := 98) dX6_person_98 rfl ?_
                refine y_iload_n (pc := 99) dX6_person_99 rfl ?_
                refine y_callVi (pc := 100) v_X6_grabs l_X6_151 dX6_person_100 (c_X6_grabs n _ _) rfl rc_X6 rfl (by decide) (by decide) (Nat.le_of_ble_eq_true rfl) (fun r19 M18 _ => ?_)
                exact y_iret (pc := 103) dX6_person_103
              · refine y_br (fun h20 => ?_) (fun h20 => ?_)
                · refine y_tableIn (off := 89) (tgt := 104) (pc := 15) dX6_person_15 h20 (by decide) (by decide) (by decide) rfl (by decide) ?_
                  refine y_aload_n (pc := 104) dX6_person_104 rfl ?_
                  refine y_iload_n (pc := 105) dX6_person_105 rfl ?_
                  refine y_callVi (pc := 106) v_X6_steam l_X6_120 dX6_person_106 (c_X6_steam n _ _) rfl rc_X6 rfl (by decide) (by decide) (Nat.le_of_ble_eq_true rfl) (fun r22 M21 _ => ?_)
                  exact y_iret (pc := 109) dX6_person_109
                · refine y_br (fun h23 => ?_) (fun h23 => ?_)
                  · refine y_tableIn (off := 95) (tgt := 110) (pc := 15) dX6_person_15 h23 (by decide) (by decide) (by decide) rfl (by decide) ?_
                    refine y_aload_n (pc := 110) dX6_person_110 rfl ?_
                    refine y_iload_n (pc := 111) dX6_person_111 rfl ?_
                    refine y_aload_n (pc := 112) dX6_person_112 rfl ?_
                    refine y_getint (pc := 113) g_X6_114 dX6_person_113 ?_
                    refine y_iconst (pc := 116) dX6_person_116 ?_
                    refine y_iadd (pc := 117) dX6_person_117 ?_
                    refine y_callVi (pc := 118) v_X6_goal l_X6_142 dX6_person_118 (c_X6_goal n _ _ _) rfl rc_X6 rfl (by decide) (by decide) (Nat.le_of_ble_eq_true rfl) (fun r25 M24 _ => ?_)
                    exact y_iret (pc := 121) dX6_person_121
                  · refine y_br (fun h26 => ?_) (fun h26 => ?_)
                    · refine y_tableIn (off := 107) (tgt := 122) (pc := 15) dX6_person_15 h26 (by decide) (by decide) (by decide) rfl (by decide) ?_
                      refine y_aload_n (pc := 122) dX6_person_122 rfl ?_
                      refine y_iload_n (pc := 123) dX6_person_123 rfl ?_
                      refine y_callVi (pc := 124) v_X6_worthsOf l_X6_264 dX6_person_124 (c_X6_worthsOf n _ _) rfl rc_X6 rfl (by decide) (by decide) (Nat.le_of_ble_eq_true rfl) (fun r28 M27 _ => ?_)
                      exact y_iret (pc := 127) dX6_person_127
                    · refine y_tableOut (tgt := 128) (pc := 15) dX6_person_15 h5 (by omega) (by decide) ?_
                      refine y_aload_n (pc := 128) dX6_person_128 rfl ?_
                      refine y_bipush (pc := 129) dX6_person_129 (by decide) ?_
                      refine y_callVi (pc := 131) v_X6_no l_X6_172 dX6_person_131 (c_X6_no n _ _) rfl rc_X6 rfl (by decide) (by decide) (Nat.le_of_ble_eq_true rfl) (fun r30 M29 _ => ?_)
                      exact y_iret (pc := 134) dX6_person_134
  · refine y_aload_n (pc := 8) dX6_person_8 rfl ?_
    refine y_iconst (pc := 9) dX6_person_9 ?_
    refine y_callVi (pc := 10) v_X6_no l_X6_172 dX6_person_10 (c_X6_no n _ _) rfl rc_X6 rfl (by decide) (by decide) (Nat.le_of_ble_eq_true rfl) (fun r32 M31 _ => ?_)
    exact y_iret (pc := 13) dX6_person_13
theorem c_X6_person (n : Nat) (M : Mem) (a1 : Int) (a2 : Int) : ∀ res : Int × Mem, m_X6_person n M a1 a2 = some res → CTi yX6_person cX6_person 3 (some .int) 5 [rv 137, iv a1, iv a2] M res := CTi_of (by decide +kernel) rfl (Nat.le_of_ble_eq_true rfl) rfl (y_X6_person n M a1 a2)
def m_X6_thing (n : Nat) (M : Mem) (a1 : Int) (a2 : Int) : Rs := bd (m_X6_isThing n M a1) (fun r2 M1 => if I32 r2 then (if r2 = 0 then (bd (m_X6_no n M1 (-1)) (fun r15 M14 => some (r15, M14))) else (if I32 a2 then (if a2 = 0 then (if 0 ≤ a1 ∧ a1 < 8 then (some ((rd M1 141 (Int.toNat a1)), M1)) else none) else (if a2 = 1 then (if 0 ≤ a1 ∧ a1 < 8 then (some ((rd M1 142 (Int.toNat a1)), M1)) else none) else (if a2 = 2 then (if 0 ≤ a1 ∧ a1 < 8 then (some ((rd M1 143 (Int.toNat a1)), M1)) else none) else (bd (m_X6_no n M1 (-2)) (fun r13 M12 => some (r13, M12)))))) else none)) else none)
theorem y_X6_thing (n : Nat) (M : Mem) (a1 : Int) (a2 : Int) : Y RX6 cX6_thing 3 2 0 none 0 [some (rv 137), some (iv a1), some (iv a2)] [] M (m_X6_thing n M a1 a2) := by
  unfold m_X6_thing
  refine y_aload_n (pc := 0) dX6_thing_0 rfl ?_
  refine y_iload_n (pc := 1) dX6_thing_1 rfl ?_
  refine y_callVi (pc := 2) v_X6_isThing l_X6_207 dX6_thing_2 (c_X6_isThing n _ _) rfl rc_X6 rfl (by decide) (by decide) (Nat.le_of_ble_eq_true rfl) (fun r2 M1 _ => ?_)
  refine y_gd (fun h3 => ?_)
  refine y_if_ne (off := 9) (tgt := 14) (pc := 5) dX6_thing_5 (by decide) h3 (fun h4 => ?_) (fun h4 => ?_)
  · refine y_iload_n (pc := 14) dX6_thing_14 rfl ?_
    refine y_gd (fun h5 => ?_)
    refine y_br (fun h6 => ?_) (fun h6 => ?_)
    · refine y_tableIn (off := 25) (tgt := 40) (pc := 15) dX6_thing_15 h6 (by decide) (by decide) (by decide) rfl (by decide) ?_
      refine y_aload_n (pc := 40) dX6_thing_40 rfl ?_
      refine y_getref (pc := 41) (x := 141) g_X6_22 dX6_thing_41 ?_
      refine y_iload_n (pc := 44) dX6_thing_44 rfl ?_
      refine y_gd (fun h7 => ?_)
      refine y_iald (pc := 45) dX6_thing_45 ar_141 h7 ?_
      exact y_iret (pc := 46) dX6_thing_46
    · refine y_br (fun h8 => ?_) (fun h8 => ?_)
      · refine y_tableIn (off := 32) (tgt := 47) (pc := 15) dX6_thing_15 h8 (by decide) (by decide) (by decide) rfl (by decide) ?_
        refine y_aload_n (pc := 47) dX6_thing_47 rfl ?_
        refine y_getref (pc := 48) (x := 142) g_X6_25 dX6_thing_48 ?_
        refine y_iload_n (pc := 51) dX6_thing_51 rfl ?_
        refine y_gd (fun h9 => ?_)
        refine y_iald (pc := 52) dX6_thing_52 ar_142 h9 ?_
        exact y_iret (pc := 53) dX6_thing_53
      · refine y_br (fun h10 => ?_) (fun h10 => ?_)
        · refine y_tableIn (off := 39) (tgt := 54) (pc := 15) dX6_thing_15 h10 (by decide) (by decide) (by decide) rfl (by decide) ?_
          refine y_aload_n (pc := 54) dX6_thing_54 rfl ?_
          refine y_getref (pc := 55) (x := 143) g_X6_28 dX6_thing_55 ?_
          refine y_iload_n (pc := 58) dX6_thing_58 rfl ?_
          refine y_gd (fun h11 => ?_)
          refine y_iald (pc := 59) dX6_thing_59 ar_143 h11 ?_
          exact y_iret (pc := 60) dX6_thing_60
        · refine y_tableOut (tgt := 61) (pc := 15) dX6_thing_15 h5 (by omega) (by decide) ?_
          refine y_aload_n (pc := 61) dX6_thing_61 rfl ?_
          refine y_bipush (pc := 62) dX6_thing_62 (by decide) ?_
          refine y_callVi (pc := 64) v_X6_no l_X6_172 dX6_thing_64 (c_X6_no n _ _) rfl rc_X6 rfl (by decide) (by decide) (Nat.le_of_ble_eq_true rfl) (fun r13 M12 _ => ?_)
          exact y_iret (pc := 67) dX6_thing_67
  · refine y_aload_n (pc := 8) dX6_thing_8 rfl ?_
    refine y_iconst (pc := 9) dX6_thing_9 ?_
    refine y_callVi (pc := 10) v_X6_no l_X6_172 dX6_thing_10 (c_X6_no n _ _) rfl rc_X6 rfl (by decide) (by decide) (Nat.le_of_ble_eq_true rfl) (fun r15 M14 _ => ?_)
    exact y_iret (pc := 13) dX6_thing_13
theorem c_X6_thing (n : Nat) (M : Mem) (a1 : Int) (a2 : Int) : ∀ res : Int × Mem, m_X6_thing n M a1 a2 = some res → CTi yX6_thing cX6_thing 3 (some .int) 2 [rv 137, iv a1, iv a2] M res := CTi_of (by decide +kernel) rfl (Nat.le_of_ble_eq_true rfl) rfl (y_X6_thing n M a1 a2)
def m_X6_front (n : Nat) (M : Mem) (a1 : Int) (a2 : Int) : Rs := bd (m_X6_isFront n M a1) (fun r2 M1 => if I32 r2 then (if r2 = 0 then (bd (m_X6_no n M1 (-1)) (fun r15 M14 => some (r15, M14))) else (if I32 a2 then (if a2 = 0 then (if 0 ≤ a1 ∧ a1 < 6 then (some ((rd M1 138 (Int.toNat a1)), M1)) else none) else (if a2 = 1 then (if 0 ≤ a1 ∧ a1 < 6 then (some ((rd M1 139 (Int.toNat a1)), M1)) else none) else (if a2 = 2 then (if 0 ≤ a1 ∧ a1 < 6 then (some ((rd M1 140 (Int.toNat a1)), M1)) else none) else (bd (m_X6_no n M1 (-2)) (fun r13 M12 => some (r13, M12)))))) else none)) else none)
theorem y_X6_front (n : Nat) (M : Mem) (a1 : Int) (a2 : Int) : Y RX6 cX6_front 3 2 0 none 0 [some (rv 137), some (iv a1), some (iv a2)] [] M (m_X6_front n M a1 a2) := by
  unfold m_X6_front
  refine y_aload_n (pc := 0) dX6_front_0 rfl ?_
  refine y_iload_n (pc := 1) dX6_front_1 rfl ?_
  refine y_callVi (pc := 2) v_X6_isFront l_X6_267 dX6_front_2 (c_X6_isFront n _ _) rfl rc_X6 rfl (by decide) (by decide) (Nat.le_of_ble_eq_true rfl) (fun r2 M1 _ => ?_)
  refine y_gd (fun h3 => ?_)
  refine y_if_ne (off := 9) (tgt := 14) (pc := 5) dX6_front_5 (by decide) h3 (fun h4 => ?_) (fun h4 => ?_)
  · refine y_iload_n (pc := 14) dX6_front_14 rfl ?_
    refine y_gd (fun h5 => ?_)
    refine y_br (fun h6 => ?_) (fun h6 => ?_)
    · refine y_tableIn (off := 25) (tgt := 40) (pc := 15) dX6_front_15 h6 (by decide) (by decide) (by decide) rfl (by decide) ?_
      refine y_aload_n (pc := 40) dX6_front_40 rfl ?_
      refine y_getref (pc := 41) (x := 138) g_X6_13 dX6_front_41 ?_
      refine y_iload_n (pc := 44) dX6_front_44 rfl ?_
      refine y_gd (fun h7 => ?_)
      refine y_iald (pc := 45) dX6_front_45 ar_138 h7 ?_
      exact y_iret (pc := 46) dX6_front_46
    · refine y_br (fun h8 => ?_) (fun h8 => ?_)
      · refine y_tableIn (off := 32) (tgt := 47) (pc := 15) dX6_front_15 h8 (by decide) (by decide) (by decide) rfl (by decide) ?_
        refine y_aload_n (pc := 47) dX6_front_47 rfl ?_
        refine y_getref (pc := 48) (x := 139) g_X6_16 dX6_front_48 ?_
        refine y_iload_n (pc := 51) dX6_front_51 rfl ?_
        refine y_gd (fun h9 => ?_)
        refine y_iald (pc := 52) dX6_front_52 ar_139 h9 ?_
        exact y_iret (pc := 53) dX6_front_53
      · refine y_br (fun h10 => ?_) (fun h10 => ?_)
        · refine y_tableIn (off := 39) (tgt := 54) (pc := 15) dX6_front_15 h10 (by decide) (by decide) (by decide) rfl (by decide) ?_
          refine y_aload_n (pc := 54) dX6_front_54 rfl ?_
          refine y_getref (pc := 55) (x := 140) g_X6_19 dX6_front_55 ?_
          refine y_iload_n (pc := 58) dX6_front_58 rfl ?_
          refine y_gd (fun h11 => ?_)
          refine y_iald (pc := 59) dX6_front_59 ar_140 h11 ?_
          exact y_iret (pc := 60) dX6_front_60
        · refine y_tableOut (tgt := 61) (pc := 15) dX6_front_15 h5 (by omega) (by decide) ?_
          refine y_aload_n (pc := 61) dX6_front_61 rfl ?_
          refine y_bipush (pc := 62) dX6_front_62 (by decide) ?_
          refine y_callVi (pc := 64) v_X6_no l_X6_172 dX6_front_64 (c_X6_no n _ _) rfl rc_X6 rfl (by decide) (by decide) (Nat.le_of_ble_eq_true rfl) (fun r13 M12 _ => ?_)
          exact y_iret (pc := 67) dX6_front_67
  · refine y_aload_n (pc := 8) dX6_front_8 rfl ?_
    refine y_iconst (pc := 9) dX6_front_9 ?_
    refine y_callVi (pc := 10) v_X6_no l_X6_172 dX6_front_10 (c_X6_no n _ _) rfl rc_X6 rfl (by decide) (by decide) (Nat.le_of_ble_eq_true rfl) (fun r15 M14 _ => ?_)
    exact y_iret (pc := 13) dX6_front_13
theorem c_X6_front (n : Nat) (M : Mem) (a1 : Int) (a2 : Int) : ∀ res : Int × Mem, m_X6_front n M a1 a2 = some res → CTi yX6_front cX6_front 3 (some .int) 2 [rv 137, iv a1, iv a2] M res := CTi_of (by decide +kernel) rfl (Nat.le_of_ble_eq_true rfl) rfl (y_X6_front n M a1 a2)
def m_X6_setAt_28 (n : Nat) (k5 : Mem → Nat → Int → Int → Int → Int → Rs) (M : Mem) (a0 : Nat) (a1 : Int) (a2 : Int) (a4 : Int) (s0 : Int) (s1 : Int) : Rs := k5 M a0 a1 a2 (bOr s1 s0) (a4 + 1)
theorem t_X6_setAt_28 (n : Nat) (k5 : Mem → Nat → Int → Int → Int → Int → Rs) (hk5 : ∀ (M : Mem) (a0 : Nat) (a1 : Int) (a2 : Int) (a3 : Int) (a4 : Int), isA a0 → Y RX6 cX6_setAt 5 0 0 none 5 [some (rv a0), some (iv a1), some (iv a2), some (iv a3), some (iv a4)] [] M (k5 M a0 a1 a2 a3 a4)) (M : Mem) (a0 : Nat) (a1 : Int) (a2 : Int) (a4 : Int) (s0 : Int) (s1 : Int) (ha0 : isA a0) : Y RX6 cX6_setAt 5 0 0 none 28 [some (rv a0), some (iv a1), some (iv a2), none, some (iv a4)] [iv s0, iv s1] M (m_X6_setAt_28 n k5 M a0 a1 a2 a4 s0 s1) := by
  unfold m_X6_setAt_28
  refine y_ior (pc := 28) dX6_setAt_28 ?_
  refine y_istore_n (L' := [some (rv a0), some (iv a1), some (iv a2), some (iv (bOr s1 s0)), some (iv a4)]) (pc := 29) dX6_setAt_29 (by decide) rfl rfl ?_
  refine y_iinc (L' := [some (rv a0), some (iv a1), some (iv a2), some (iv (bOr s1 s0)), some (iv (a4 + 1))]) (pc := 30) dX6_setAt_30 rfl (by decide) rfl rfl ?_
  refine y_goto (tgt := 5) (pc := 33) dX6_setAt_33 (by decide) ?_
  exact y_sub (ls_s (ls_s (ls_s (ls_s (ls_s ls_0))))) (hk5 M a0 a1 a2 (bOr s1 s0) (a4 + 1) ha0)
def m_X6_setAt_5 (n : Nat) : Nat → Mem → Nat → Int → Int → Int → Int → Rs
  | 0, _, _, _, _, _, _ => none
  | t + 1, M, a0, a1, a2, a3, a4 => if I32 a4 then (if I32 a1 then (if a1 ≤ a4 then (some (a3, M)) else (if 0 ≤ a4 ∧ a4 < ((ln a0 : Nat) : Int) then (if I32 a2 then (if (rd M a0 (Int.toNat a4)) = a2 then (m_X6_setAt_28 n (m_X6_setAt_5 n t) M a0 a1 a2 a4 (bShl 1 a4) a3) else (m_X6_setAt_28 n (m_X6_setAt_5 n t) M a0 a1 a2 a4 0 a3)) else none) else none)) else none) else none
theorem t_X6_setAt_5 (n : Nat) : ∀ (t : Nat) (M : Mem) (a0 : Nat) (a1 : Int) (a2 : Int) (a3 : Int) (a4 : Int), isA a0 → Y RX6 cX6_setAt 5 0 0 none 5 [some (rv a0), some (iv a1), some (iv a2), some (iv a3), some (iv a4)] [] M (m_X6_setAt_5 n t M a0 a1 a2 a3 a4) := by
  intro t
  induction t with
  | zero => intro M a0 a1 a2 a3 a4 ha0; exact y_none
  | succ t ih =>
    intro M a0 a1 a2 a3 a4 ha0
    rewrite [m_X6_setAt_5]
    refine y_iload (pc := 5) dX6_setAt_5 rfl ?_
    refine y_iload_n (pc := 7) dX6_setAt_7 rfl ?_
    refine y_gd (fun h1 => ?_)
    refine y_gd (fun h2 => ?_)
    refine y_icmp_ge (off := 28) (tgt := 36) (pc := 8) dX6_setAt_8 (by decide) h1 h2 (fun h3 => ?_) (fun h3 => ?_)
    · refine y_iload_n (pc := 36) dX6_setAt_36 rfl ?_
      exact y_iret (pc := 37) dX6_setAt_37
    · refine y_iload_n (pc := 11) dX6_setAt_11 rfl ?_
      refine y_aload_n (pc := 12) dX6_setAt_12 rfl ?_
      refine y_iload (pc := 13) dX6_setAt_13 rfl ?_
      refine y_gd (fun h4 => ?_)
      refine y_iald (pc := 15) dX6_setAt_15 (ar_A ha0) h4 ?_
      refine y_iload_n (pc := 16) dX6_setAt_16 rfl ?_
      refine y_gd (fun h5 => ?_)
      refine y_icmp_ne (off := 10) (tgt := 27) (pc := 17) dX6_setAt_17 (by decide) (rd_rng _ _ _) h5 (fun h6 => ?_) (fun h6 => ?_)
      · refine y_iconst (pc := 27) dX6_setAt_27 ?_
        exact y_sub (ls_s (ls_s (ls_s (ls_n (ls_s ls_0))))) (t_X6_setAt_28 n (m_X6_setAt_5 n t) ih M a0 a1 a2 a4 0 a3 ha0)
      · refine y_iconst (pc := 20) dX6_setAt_20 ?_
        refine y_iload (pc := 21) dX6_setAt_21 rfl ?_
        refine y_ishl (pc := 23) dX6_setAt_23 ?_
        refine y_goto (tgt := 28) (pc := 24) dX6_setAt_24 (by decide) ?_
        exact y_sub (ls_s (ls_s (ls_s (ls_n (ls_s ls_0))))) (t_X6_setAt_28 n (m_X6_setAt_5 n t) ih M a0 a1 a2 a4 (bShl 1 a4) a3 ha0)
def m_X6_setAt (n : Nat) (M : Mem) (a0 : Nat) (a1 : Int) (a2 : Int) : Rs := if isA a0 then (m_X6_setAt_5 n n M a0 a1 a2 0 0) else none
theorem y_X6_setAt (n : Nat) (M : Mem) (a0 : Nat) (a1 : Int) (a2 : Int) : Y RX6 cX6_setAt 5 0 0 none 0 [some (rv a0), some (iv a1), some (iv a2), none, none] [] M (m_X6_setAt n M a0 a1 a2) := by
  unfold m_X6_setAt
  refine y_gd (fun ha0 => ?_)
  refine y_iconst (pc := 0) dX6_setAt_0 ?_
  refine y_istore_n (L' := [some (rv a0), some (iv a1), some (iv a2), some (iv 0), none]) (pc := 1) dX6_setAt_1 (by decide) rfl rfl ?_
  refine y_iconst (pc := 2) dX6_setAt_2 ?_
  refine y_istore (L' := [some (rv a0), some (iv a1), some (iv a2), some (iv 0), some (iv 0)]) (pc := 3) dX6_setAt_3 (by decide) rfl rfl ?_
  exact y_sub (ls_s (ls_s (ls_s (ls_s (ls_s ls_0))))) (t_X6_setAt_5 n n M a0 a1 a2 0 0 ha0)
theorem c_X6_setAt (n : Nat) (M : Mem) (a0 : Nat) (a1 : Int) (a2 : Int) : ∀ res : Int × Mem, m_X6_setAt n M a0 a1 a2 = some res → CTi yX6_setAt cX6_setAt 5 (some .int) 0 [rv a0, iv a1, iv a2] M res := CTi_of (by decide +kernel) rfl (Nat.le_of_ble_eq_true rfl) rfl (y_X6_setAt n M a0 a1 a2)
def m_X6_cell (n : Nat) (M : Mem) (a1 : Int) (a2 : Int) : Rs := bd (m_X6_isCell n M a1) (fun r2 M1 => if I32 r2 then (if r2 = 0 then (bd (m_X6_no n M1 (-1)) (fun r26 M25 => some (r26, M25))) else (if I32 a2 then (if a2 = 0 then (bd (m_X6_airIn n M1 a1 (rd M1 137 13)) (fun r8 M7 => some (r8, M7))) else (if a2 = 1 then (bd (m_X6_fogOf n M1 a1) (fun r11 M10 => some (r11, M10))) else (if a2 = 2 then (bd (m_X6_isFoggy n M1 a1) (fun r14 M13 => if I32 r14 then (if r14 = 0 then (some (0, M13)) else (some (1, M13))) else none)) else (if a2 = 3 then (bd (m_X6_setAt n M1 147 (rd M1 137 12) a1) (fun r19 M18 => some (r19, M18))) else (if a2 = 4 then (bd (m_X6_setAt n M1 142 (rd M1 137 7) a1) (fun r22 M21 => some (r22, M21))) else (bd (m_X6_no n M1 (-2)) (fun r24 M23 => some (r24, M23)))))))) else none)) else none)
theorem y_X6_cell (n : Nat) (M : Mem) (a1 : Int) (a2 : Int) : Y RX6 cX6_cell 3 5 0 none 0 [some (rv 137), some (iv a1), some (iv a2)] [] M (m_X6_cell n M a1 a2) := by
  unfold m_X6_cell
  refine y_iload_n (pc := 0) dX6_cell_0 rfl ?_
  refine y_callSi (pc := 1) s_X6_isCell l_X6_198 dX6_cell_1 (c_X6_isCell n _ _) rfl rfl (by decide) (by decide) (Nat.le_of_ble_eq_true rfl) (fun r2 M1 _ => ?_)
  refine y_gd (fun h3 => ?_)
  refine y_if_ne (off := 9) (tgt := 13) (pc := 4) dX6_cell_4 (by decide) h3 (fun h4 => ?_) (fun h4 => ?_)
  · refine y_iload_n (pc := 13) dX6_cell_13 rfl ?_
    refine y_gd (fun h5 => ?_)
    refine y_br (fun h6 => ?_) (fun h6 => ?_)
    · refine y_tableIn (off := 34) (tgt := 48) (pc := 14) dX6_cell_14 h6 (by decide) (by decide) (by decide) rfl (by decide) ?_
      refine y_aload_n (pc := 48) dX6_cell_48 rfl ?_
      refine y_iload_n (pc := 49) dX6_cell_49 rfl ?_
      refine y_aload_n (pc := 50) dX6_cell_50 rfl ?_
      refine y_getint (pc := 51) g_X6_114 dX6_cell_51 ?_
      refine y_callVi (pc := 54) v_X6_airIn l_X6_117 dX6_cell_54 (c_X6_airIn n _ _ _) rfl rc_X6 rfl (by decide) (by decide) (Nat.le_of_ble_eq_true rfl) (fun r8 M7 _ => ?_)
      exact y_iret (pc := 57) dX6_cell_57
    · refine y_br (fun h9 => ?_) (fun h9 => ?_)
      · refine y_tableIn (off := 44) (tgt := 58) (pc := 14) dX6_cell_14 h9 (by decide) (by decide) (by decide) rfl (by decide) ?_
        refine y_aload_n (pc := 58) dX6_cell_58 rfl ?_
        refine y_iload_n (pc := 59) dX6_cell_59 rfl ?_
        refine y_callVi (pc := 60) v_X6_fogOf l_X6_124 dX6_cell_60 (c_X6_fogOf n _ _) rfl rc_X6 rfl (by decide) (by decide) (Nat.le_of_ble_eq_true rfl) (fun r11 M10 _ => ?_)
        exact y_iret (pc := 63) dX6_cell_63
      · refine y_br (fun h12 => ?_) (fun h12 => ?_)
        · refine y_tableIn (off := 50) (tgt := 64) (pc := 14) dX6_cell_14 h12 (by decide) (by decide) (by decide) rfl (by decide) ?_
          refine y_aload_n (pc := 64) dX6_cell_64 rfl ?_
          refine y_iload_n (pc := 65) dX6_cell_65 rfl ?_
          refine y_callVi (pc := 66) v_X6_isFoggy l_X6_127 dX6_cell_66 (c_X6_isFoggy n _ _) rfl rc_X6 rfl (by decide) (by decide) (Nat.le_of_ble_eq_true rfl) (fun r14 M13 _ => ?_)
          refine y_gd (fun h15 => ?_)
          refine y_if_eq (off := 7) (tgt := 76) (pc := 69) dX6_cell_69 (by decide) h15 (fun h16 => ?_) (fun h16 => ?_)
          · refine y_iconst (pc := 76) dX6_cell_76 ?_
            exact y_iret (pc := 77) dX6_cell_77
          · refine y_iconst (pc := 72) dX6_cell_72 ?_
            refine y_goto (tgt := 77) (pc := 73) dX6_cell_73 (by decide) ?_
            exact y_iret (pc := 77) dX6_cell_77
        · refine y_br (fun h17 => ?_) (fun h17 => ?_)
          · refine y_tableIn (off := 64) (tgt := 78) (pc := 14) dX6_cell_14 h17 (by decide) (by decide) (by decide) rfl (by decide) ?_
            refine y_aload_n (pc := 78) dX6_cell_78 rfl ?_
            refine y_getref (pc := 79) (x := 147) g_X6_40 dX6_cell_79 ?_
            refine y_aload_n (pc := 82) dX6_cell_82 rfl ?_
            refine y_getint (pc := 83) g_X6_89 dX6_cell_83 ?_
            refine y_iload_n (pc := 86) dX6_cell_86 rfl ?_
            refine y_callSi (pc := 87) s_X6_setAt l_X6_270 dX6_cell_87 (c_X6_setAt n _ _ _ _) rfl rfl (by decide) (by decide) (Nat.le_of_ble_eq_true rfl) (fun r19 M18 _ => ?_)
            exact y_iret (pc := 90) dX6_cell_90
          · refine y_br (fun h20 => ?_) (fun h20 => ?_)
            · refine y_tableIn (off := 77) (tgt := 91) (pc := 14) dX6_cell_14 h20 (by decide) (by decide) (by decide) rfl (by decide) ?_
              refine y_aload_n (pc := 91) dX6_cell_91 rfl ?_
              refine y_getref (pc := 92) (x := 142) g_X6_25 dX6_cell_92 ?_
              refine y_aload_n (pc := 95) dX6_cell_95 rfl ?_
              refine y_getint (pc := 96) g_X6_86 dX6_cell_96 ?_
              refine y_iload_n (pc := 99) dX6_cell_99 rfl ?_
              refine y_callSi (pc := 100) s_X6_setAt l_X6_270 dX6_cell_100 (c_X6_setAt n _ _ _ _) rfl rfl (by decide) (by decide) (Nat.le_of_ble_eq_true rfl) (fun r22 M21 _ => ?_)
              exact y_iret (pc := 103) dX6_cell_103
            · refine y_tableOut (tgt := 104) (pc := 14) dX6_cell_14 h5 (by omega) (by decide) ?_
              refine y_aload_n (pc := 104) dX6_cell_104 rfl ?_
              refine y_bipush (pc := 105) dX6_cell_105 (by decide) ?_
              refine y_callVi (pc := 107) v_X6_no l_X6_172 dX6_cell_107 (c_X6_no n _ _) rfl rc_X6 rfl (by decide) (by decide) (Nat.le_of_ble_eq_true rfl) (fun r24 M23 _ => ?_)
              exact y_iret (pc := 110) dX6_cell_110
  · refine y_aload_n (pc := 7) dX6_cell_7 rfl ?_
    refine y_iconst (pc := 8) dX6_cell_8 ?_
    refine y_callVi (pc := 9) v_X6_no l_X6_172 dX6_cell_9 (c_X6_no n _ _) rfl rc_X6 rfl (by decide) (by decide) (Nat.le_of_ble_eq_true rfl) (fun r26 M25 _ => ?_)
    exact y_iret (pc := 12) dX6_cell_12
theorem c_X6_cell (n : Nat) (M : Mem) (a1 : Int) (a2 : Int) : ∀ res : Int × Mem, m_X6_cell n M a1 a2 = some res → CTi yX6_cell cX6_cell 3 (some .int) 5 [rv 137, iv a1, iv a2] M res := CTi_of (by decide +kernel) rfl (Nat.le_of_ble_eq_true rfl) rfl (y_X6_cell n M a1 a2)
