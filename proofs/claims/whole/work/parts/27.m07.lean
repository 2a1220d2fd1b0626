def m_X5_stand_63 (n : Nat) : Nat → Mem → Int → Int → Int → Int → Int → Int → Rs
  | 0, _, _, _, _, _, _, _ => none
  | t + 1, M, a1, a2, a3, a5, a6, a7 => if I32 a7 then (if 24 ≤ a7 then (if I32 a3 then (if a3 = 0 then (some (a5, M)) else (some (a6, M))) else none) else (bd (m_X0_begin n M 0) (fun _ M5 => if 0 ≤ a1 ∧ a1 < 5 then (wr M5 32 (Int.toNat a1) a7 (fun M7 => bd (m_X0_goOn n M7 a2) (fun _ M8 => bd (m_X4_worthsOf n M8 22 a1) (fun r10 M9 => if I32 r10 then (if I32 a6 then (if r10 ≤ a6 then ((m_X5_stand_63 n t) M9 a1 a2 a3 a5 a6 (a7 + 1)) else ((m_X5_stand_63 n t) M9 a1 a2 a3 a7 r10 (a7 + 1))) else none) else none)))) else none))) else none
theorem t_X5_stand_63 (n : Nat) : ∀ (t : Nat) (M : Mem) (a1 : Int) (a2 : Int) (a3 : Int) (a5 : Int) (a6 : Int) (a7 : Int), Y RX5 cX5_stand 9 5 0 none 63 [some (rv 130), some (iv a1), some (iv a2), some (iv a3), none, some (iv a5), some (iv a6), some (iv a7), none] [] M (m_X5_stand_63 n t M a1 a2 a3 a5 a6 a7) := by
  intro t
  induction t with
  | zero => intro M a1 a2 a3 a5 a6 a7; exact y_none
  | succ t ih =>
    intro M a1 a2 a3 a5 a6 a7
    rewrite [m_X5_stand_63]
    refine y_iload (pc := 63) dX5_stand_63 rfl ?_
    refine y_bipush (pc := 65) dX5_stand_65 (by decide) ?_
    refine y_gd (fun h1 => ?_)
    refine y_icmp_ge (off := 70) (tgt := 137) (pc := 67) dX5_stand_67 (by decide) h1 (by decide) (fun h2 => ?_) (fun h2 => ?_)
    · refine y_iload_n (pc := 137) dX5_stand_137 rfl ?_
      refine y_gd (fun h3 => ?_)
      refine y_if_ne (off := 8) (tgt := 146) (pc := 138) dX5_stand_138 (by decide) h3 (fun h4 => ?_) (fun h4 => ?_)
      · refine y_iload (pc := 146) dX5_stand_146 rfl ?_
        exact y_iret (pc := 148) dX5_stand_148
      · refine y_iload (pc := 141) dX5_stand_141 rfl ?_
        refine y_goto (tgt := 148) (pc := 143) dX5_stand_143 (by decide) ?_
        exact y_iret (pc := 148) dX5_stand_148
    · refine y_aload_n (pc := 70) dX5_stand_70 rfl ?_
      refine y_getref (pc := 71) (x := 129) g_X5_50 dX5_stand_71 ?_
      refine y_aload_n (pc := 74) dX5_stand_74 rfl ?_
      refine y_getref (pc := 75) (x := 0) g_X5_10 dX5_stand_75 ?_
      refine y_callVv (pc := 78) v_X0_begin l_X5_67 dX5_stand_78 (c_X0_begin n _ _) rfl rc_X0 rfl (by decide) (by decide) (Nat.le_of_ble_eq_true rfl) (fun _ M5 _ => ?_)
      refine y_aload_n (pc := 81) dX5_stand_81 rfl ?_
      refine y_getref (pc := 82) (x := 129) g_X5_50 dX5_stand_82 ?_
      refine y_getref (pc := 85) (x := 22) g_X5_81 dX5_stand_85 ?_
      refine y_getref (pc := 88) (x := 32) (g_X5_135 (by decide)) dX5_stand_88 ?_
      refine y_iload_n (pc := 91) dX5_stand_91 rfl ?_
      refine y_iload (pc := 92) dX5_stand_92 rfl ?_
      refine y_gd (fun h6 => ?_)
      refine y_iastw (pc := 94) dX5_stand_94 ar_32 h6 (fun M7 => ?_)
      refine y_aload_n (pc := 95) dX5_stand_95 rfl ?_
      refine y_getref (pc := 96) (x := 129) g_X5_50 dX5_stand_96 ?_
      refine y_iload_n (pc := 99) dX5_stand_99 rfl ?_
      refine y_callVv (pc := 100) v_X0_goOn l_X5_119 dX5_stand_100 (c_X0_goOn n _ _) rfl rc_X0 rfl (by decide) (by decide) (Nat.le_of_ble_eq_true rfl) (fun _ M8 _ => ?_)
      refine y_aload_n (pc := 103) dX5_stand_103 rfl ?_
      refine y_getref (pc := 104) (x := 129) g_X5_50 dX5_stand_104 ?_
      refine y_getref (pc := 107) (x := 22) g_X5_81 dX5_stand_107 ?_
      refine y_iload_n (pc := 110) dX5_stand_110 rfl ?_
      refine y_callVi (pc := 111) v_X4_worthsOf l_X5_156 dX5_stand_111 (c_X4_worthsOf n _ _ _) rfl (rc_X4 (by decide)) rfl (by decide) (by decide) (Nat.le_of_ble_eq_true rfl) (fun r10 M9 _ => ?_)
      refine y_istore (L' := [some (rv 130), some (iv a1), some (iv a2), some (iv a3), none, some (iv a5), some (iv a6), some (iv a7), some (iv r10)]) (pc := 114) dX5_stand_114 (by decide) rfl rfl ?_
      refine y_iload (pc := 116) dX5_stand_116 rfl ?_
      refine y_iload (pc := 118) dX5_stand_118 rfl ?_
      refine y_gd (fun h11 => ?_)
      refine y_gd (fun h12 => ?_)
      refine y_icmp_le (off := 11) (tgt := 131) (pc := 120) dX5_stand_120 (by decide) h11 h12 (fun h13 => ?_) (fun h13 => ?_)
      · refine y_iinc (L' := [some (rv 130), some (iv a1), some (iv a2), some (iv a3), none, some (iv a5), some (iv a6), some (iv (a7 + 1)), some (iv r10)]) (pc := 131) dX5_stand_131 rfl (by decide) rfl rfl ?_
        refine y_goto (tgt := 63) (pc := 134) dX5_stand_134 (by decide) ?_
        exact y_sub (ls_s (ls_s (ls_s (ls_s (ls_n (ls_s (ls_s (ls_s (ls_n ls_0))))))))) (ih M9 a1 a2 a3 a5 a6 (a7 + 1))
      · refine y_iload (pc := 123) dX5_stand_123 rfl ?_
        refine y_istore (L' := [some (rv 130), some (iv a1), some (iv a2), some (iv a3), none, some (iv a5), some (iv r10), some (iv a7), some (iv r10)]) (pc := 125) dX5_stand_125 (by decide) rfl rfl ?_
        refine y_iload (pc := 127) dX5_stand_127 rfl ?_
        refine y_istore (L' := [some (rv 130), some (iv a1), some (iv a2), some (iv a3), none, some (iv a7), some (iv r10), some (iv a7), some (iv r10)]) (pc := 129) dX5_stand_129 (by decide) rfl rfl ?_
        refine y_iinc (L' := [some (rv 130), some (iv a1), some (iv a2), some (iv a3), none, some (iv a7), some (iv r10), some (iv (a7 + 1)), some (iv r10)]) (pc := 131) dX5_stand_131 rfl (by decide) rfl rfl ?_
        refine y_goto (tgt := 63) (pc := 134) dX5_stand_134 (by decide) ?_
        exact y_sub (ls_s (ls_s (ls_s (ls_s (ls_n (ls_s (ls_s (ls_s (ls_n ls_0))))))))) (ih M9 a1 a2 a3 a7 r10 (a7 + 1))
def m_X5_stand_54 (n : Nat) (M : Mem) (a1 : Int) (a2 : Int) (a3 : Int) : Rs := m_X5_stand_63 n n M a1 a2 a3 (-1) (-1) 0
theorem t_X5_stand_54 (n : Nat) (M : Mem) (a1 : Int) (a2 : Int) (a3 : Int) : Y RX5 cX5_stand 9 5 0 none 54 [some (rv 130), some (iv a1), some (iv a2), some (iv a3), none, none, none, none, none] [] M (m_X5_stand_54 n M a1 a2 a3) := by
  unfold m_X5_stand_54
  refine y_iconst (pc := 54) dX5_stand_54 ?_
  refine y_istore (L' := [some (rv 130), some (iv a1), some (iv a2), some (iv a3), none, some (iv (-1)), none, none, none]) (pc := 55) dX5_stand_55 (by decide) rfl rfl ?_
  refine y_iconst (pc := 57) dX5_stand_57 ?_
  refine y_istore (L' := [some (rv 130), some (iv a1), some (iv a2), some (iv a3), none, some (iv (-1)), some (iv (-1)), none, none]) (pc := 58) dX5_stand_58 (by decide) rfl rfl ?_
  refine y_iconst (pc := 60) dX5_stand_60 ?_
  refine y_istore (L' := [some (rv 130), some (iv a1), some (iv a2), some (iv a3), none, some (iv (-1)), some (iv (-1)), some (iv 0), none]) (pc := 61) dX5_stand_61 (by decide) rfl rfl ?_
  exact y_sub (ls_s (ls_s (ls_s (ls_s (ls_n (ls_s (ls_s (ls_s (ls_n ls_0))))))))) (t_X5_stand_63 n n M a1 a2 a3 (-1) (-1) 0)
def m_X5_stand (n : Nat) (M : Mem) (a1 : Int) (a2 : Int) (a3 : Int) : Rs := bd (m_X4_hasPerson n M 0 a1) (fun r15 M14 => if I32 r15 then (if r15 = 0 then (bd (m_X5_refuse n M14 (-1)) (fun r30 M29 => some (r30, M29))) else (bd (m_X5_outOfRange n M14 a2 0 30) (fun r19 M18 => if I32 r19 then (if r19 = 0 then (if I32 a3 then (if a3 = 0 then (m_X5_stand_54 n M18 a1 a2 a3) else (if a3 = 1 then (m_X5_stand_54 n M18 a1 a2 a3) else (bd (m_X5_refuse n M18 (-2)) (fun r26 M25 => some (r26, M25))))) else none) else (bd (m_X5_refuse n M18 r19) (fun r28 M27 => some (r28, M27)))) else none))) else none)
theorem y_X5_stand (n : Nat) (M : Mem) (a1 : Int) (a2 : Int) (a3 : Int) : Y RX5 cX5_stand 9 5 0 none 0 [some (rv 130), some (iv a1), some (iv a2), some (iv a3), none, none, none, none, none] [] M (m_X5_stand n M a1 a2 a3) := by
  unfold m_X5_stand
  refine y_aload_n (pc := 0) dX5_stand_0 rfl ?_
  refine y_getref (pc := 1) (x := 0) g_X5_10 dX5_stand_1 ?_
  refine y_iload_n (pc := 4) dX5_stand_4 rfl ?_
  refine y_callVi (pc := 5) v_X4_hasPerson l_X5_123 dX5_stand_5 (c_X4_hasPerson n _ _ _) rfl (rc_X4 (by decide)) rfl (by decide) (by decide) (Nat.le_of_ble_eq_true rfl) (fun r15 M14 _ => ?_)
  refine y_gd (fun h16 => ?_)
  refine y_if_ne (off := 9) (tgt := 17) (pc := 8) dX5_stand_8 (by decide) h16 (fun h17 => ?_) (fun h17 => ?_)
  · refine y_iload_n (pc := 17) dX5_stand_17 rfl ?_
    refine y_iconst (pc := 18) dX5_stand_18 ?_
    refine y_bipush (pc := 19) dX5_stand_19 (by decide) ?_
    refine y_callSi (pc := 21) s_X5_outOfRange l_X5_220 dX5_stand_21 (c_X5_outOfRange n _ _ _ _) rfl rfl (by decide) (by decide) (Nat.le_of_ble_eq_true rfl) (fun r19 M18 _ => ?_)
    refine y_istore (L' := [some (rv 130), some (iv a1), some (iv a2), some (iv a3), some (iv r19), none, none, none, none]) (pc := 24) dX5_stand_24 (by decide) rfl rfl ?_
    refine y_iload (pc := 26) dX5_stand_26 rfl ?_
    refine y_gd (fun h20 => ?_)
    refine y_if_eq (off := 10) (tgt := 38) (pc := 28) dX5_stand_28 (by decide) h20 (fun h21 => ?_) (fun h21 => ?_)
    · refine y_iload_n (pc := 38) dX5_stand_38 rfl ?_
      refine y_gd (fun h22 => ?_)
      refine y_if_eq (off := 15) (tgt := 54) (pc := 39) dX5_stand_39 (by decide) h22 (fun h23 => ?_) (fun h23 => ?_)
      · exact y_sub (ls_s (ls_s (ls_s (ls_s (ls_n (ls_n (ls_n (ls_n (ls_n ls_0))))))))) (t_X5_stand_54 n M18 a1 a2 a3)
      · refine y_iload_n (pc := 42) dX5_stand_42 rfl ?_
        refine y_iconst (pc := 43) dX5_stand_43 ?_
        refine y_icmp_eq (off := 10) (tgt := 54) (pc := 44) dX5_stand_44 (by decide) h22 (by decide) (fun h24 => ?_) (fun h24 => ?_)
        · exact y_sub (ls_s (ls_s (ls_s (ls_s (ls_n (ls_n (ls_n (ls_n (ls_n ls_0))))))))) (t_X5_stand_54 n M18 a1 a2 a3)
        · refine y_aload_n (pc := 47) dX5_stand_47 rfl ?_
          refine y_bipush (pc := 48) dX5_stand_48 (by decide) ?_
          refine y_callVi (pc := 50) v_X5_refuse l_X5_60 dX5_stand_50 (c_X5_refuse n _ _) rfl rc_X5 rfl (by decide) (by decide) (Nat.le_of_ble_eq_true rfl) (fun r26 M25 _ => ?_)
          exact y_iret (pc := 53) dX5_stand_53
    · refine y_aload_n (pc := 31) dX5_stand_31 rfl ?_
      refine y_iload (pc := 32) dX5_stand_32 rfl ?_
      refine y_callVi (pc := 34) v_X5_refuse l_X5_60 dX5_stand_34 (c_X5_refuse n _ _) rfl rc_X5 rfl (by decide) (by decide) (Nat.le_of_ble_eq_true rfl) (fun r28 M27 _ => ?_)
      exact y_iret (pc := 37) dX5_stand_37
  · refine y_aload_n (pc := 11) dX5_stand_11 rfl ?_
    refine y_iconst (pc := 12) dX5_stand_12 ?_
    refine y_callVi (pc := 13) v_X5_refuse l_X5_60 dX5_stand_13 (c_X5_refuse n _ _) rfl rc_X5 rfl (by decide) (by decide) (Nat.le_of_ble_eq_true rfl) (fun r30 M29 _ => ?_)
    exact y_iret (pc := 16) dX5_stand_16
theorem c_X5_stand (n : Nat) (M : Mem) (a1 : Int) (a2 : Int) (a3 : Int) : ∀ res : Int × Mem, m_X5_stand n M a1 a2 a3 = some res → CTi yX5_stand cX5_stand 9 (some .int) 5 [rv 130, iv a1, iv a2, iv a3] M res := CTi_of (by decide +kernel) rfl (Nat.le_of_ble_eq_true rfl) rfl (y_X5_stand n M a1 a2 a3)
def m_X5_kettle_52 (n : Nat) : Nat → Mem → Int → Int → Int → Int → Rs
  | 0, _, _, _, _, _ => none
  | t + 1, M, a1, a2, a3, a5 => if I32 a5 then (if 24 ≤ a5 then (some ((-9), M)) else (bd (m_X0_begin n M 0) (fun _ M3 => wr M3 129 3 a5 (fun M4 => bd (m_X0_goOn n M4 a3) (fun _ M5 => if 0 ≤ a2 ∧ a2 < 8 then (if I32 a1 then (if (rd M5 28 (Int.toNat a2)) = a1 then (some (a5, M5)) else ((m_X5_kettle_52 n t) M5 a1 a2 a3 (a5 + 1))) else none) else none))))) else none
theorem t_X5_kettle_52 (n : Nat) : ∀ (t : Nat) (M : Mem) (a1 : Int) (a2 : Int) (a3 : Int) (a5 : Int), Y RX5 cX5_kettle 6 5 0 none 52 [some (rv 130), some (iv a1), some (iv a2), some (iv a3), none, some (iv a5)] [] M (m_X5_kettle_52 n t M a1 a2 a3 a5) := by
  intro t
  induction t with
  | zero => intro M a1 a2 a3 a5; exact y_none
  | succ t ih =>
    intro M a1 a2 a3 a5
    rewrite [m_X5_kettle_52]
    refine y_iload (pc := 52) dX5_kettle_52 rfl ?_
    refine y_bipush (pc := 54) dX5_kettle_54 (by decide) ?_
    refine y_gd (fun h1 => ?_)
    refine y_icmp_ge (off := 56) (tgt := 112) (pc := 56) dX5_kettle_56 (by decide) h1 (by decide) (fun h2 => ?_) (fun h2 => ?_)
    · refine y_bipush (pc := 112) dX5_kettle_112 (by decide) ?_
      exact y_iret (pc := 114) dX5_kettle_114
    · refine y_aload_n (pc := 59) dX5_kettle_59 rfl ?_
      refine y_getref (pc := 60) (x := 129) g_X5_50 dX5_kettle_60 ?_
      refine y_aload_n (pc := 63) dX5_kettle_63 rfl ?_
      refine y_getref (pc := 64) (x := 0) g_X5_10 dX5_kettle_64 ?_
      refine y_callVv (pc := 67) v_X0_begin l_X5_67 dX5_kettle_67 (c_X0_begin n _ _) rfl rc_X0 rfl (by decide) (by decide) (Nat.le_of_ble_eq_true rfl) (fun _ M3 _ => ?_)
      refine y_aload_n (pc := 70) dX5_kettle_70 rfl ?_
      refine y_getref (pc := 71) (x := 129) g_X5_50 dX5_kettle_71 ?_
      refine y_iload (pc := 74) dX5_kettle_74 rfl ?_
      refine y_putintw (pc := 76) pf_X5_236 dX5_kettle_76 (fun M4 => ?_)
      refine y_aload_n (pc := 79) dX5_kettle_79 rfl ?_
      refine y_getref (pc := 80) (x := 129) g_X5_50 dX5_kettle_80 ?_
      refine y_iload_n (pc := 83) dX5_kettle_83 rfl ?_
      refine y_callVv (pc := 84) v_X0_goOn l_X5_119 dX5_kettle_84 (c_X0_goOn n _ _) rfl rc_X0 rfl (by decide) (by decide) (Nat.le_of_ble_eq_true rfl) (fun _ M5 _ => ?_)
      refine y_aload_n (pc := 87) dX5_kettle_87 rfl ?_
      refine y_getref (pc := 88) (x := 129) g_X5_50 dX5_kettle_88 ?_
      refine y_getref (pc := 91) (x := 22) g_X5_81 dX5_kettle_91 ?_
      refine y_getref (pc := 94) (x := 28) (g_X5_168 (by decide)) dX5_kettle_94 ?_
      refine y_iload_n (pc := 97) dX5_kettle_97 rfl ?_
      refine y_gd (fun h6 => ?_)
      refine y_iald (pc := 98) dX5_kettle_98 ar_28 h6 ?_
      refine y_iload_n (pc := 99) dX5_kettle_99 rfl ?_
      refine y_gd (fun h7 => ?_)
      refine y_icmp_ne (off := 6) (tgt := 106) (pc := 100) dX5_kettle_100 (by decide) (rd_rng _ _ _) h7 (fun h8 => ?_) (fun h8 => ?_)
      · refine y_iinc (L' := [some (rv 130), some (iv a1), some (iv a2), some (iv a3), none, some (iv (a5 + 1))]) (pc := 106) dX5_kettle_106 rfl (by decide) rfl rfl ?_
        refine y_goto (tgt := 52) (pc := 109) dX5_kettle_109 (by decide) ?_
        exact y_sub (ls_s (ls_s (ls_s (ls_s (ls_n (ls_s ls_0)))))) (ih M5 a1 a2 a3 (a5 + 1))
      · refine y_iload (pc := 103) dX5_kettle_103 rfl ?_
        exact y_iret (pc := 105) dX5_kettle_105
def m_X5_kettle_22 (n : Nat) (M : Mem) : Rs := bd (m_X5_refuse n M (-1)) (fun r10 M9 => some (r10, M9))
theorem t_X5_kettle_22 (n : Nat) (M : Mem) : Y RX5 cX5_kettle 6 5 0 none 22 [some (rv 130), none, none, none, none, none] [] M (m_X5_kettle_22 n M) := by
  unfold m_X5_kettle_22
  refine y_aload_n (pc := 22) dX5_kettle_22 rfl ?_
  refine y_iconst (pc := 23) dX5_kettle_23 ?_
  refine y_callVi (pc := 24) v_X5_refuse l_X5_60 dX5_kettle_24 (c_X5_refuse n _ _) rfl rc_X5 rfl (by decide) (by decide) (Nat.le_of_ble_eq_true rfl) (fun r10 M9 _ => ?_)
  exact y_iret (pc := 27) dX5_kettle_27
def m_X5_kettle (n : Nat) (M : Mem) (a1 : Int) (a2 : Int) (a3 : Int) : Rs := bd (m_X4_hasPerson n M 0 a1) (fun r12 M11 => if I32 r12 then (if r12 = 0 then (m_X5_kettle_22 n M11) else (bd (m_X4_hasThing n M11 0 a2) (fun r16 M15 => if I32 r16 then (if r16 = 0 then (m_X5_kettle_22 n M15) else (bd (m_X5_outOfRange n M15 a3 0 30) (fun r20 M19 => if I32 r20 then (if r20 = 0 then (m_X5_kettle_52 n n M19 a1 a2 a3 0) else (bd (m_X5_refuse n M19 r20) (fun r24 M23 => some (r24, M23)))) else none))) else none))) else none)
theorem y_X5_kettle (n : Nat) (M : Mem) (a1 : Int) (a2 : Int) (a3 : Int) : Y RX5 cX5_kettle 6 5 0 none 0 [some (rv 130), some (iv a1), some (iv a2), some (iv a3), none, none] [] M (m_X5_kettle n M a1 a2 a3) := by
  unfold m_X5_kettle
  refine y_aload_n (pc := 0) dX5_kettle_0 rfl ?_
  refine y_getref (pc := 1) (x := 0) g_X5_10 dX5_kettle_1 ?_
  refine y_iload_n (pc := 4) dX5_kettle_4 rfl ?_
  refine y_callVi (pc := 5) v_X4_hasPerson l_X5_123 dX5_kettle_5 (c_X4_hasPerson n _ _ _) rfl (rc_X4 (by decide)) rfl (by decide) (by decide) (Nat.le_of_ble_eq_true rfl) (fun r12 M11 _ => ?_)
  refine y_gd (fun h13 => ?_)
  refine y_if_eq (off := 14) (tgt := 22) (pc := 8) dX5_kettle_8 (by decide) h13 (fun h14 => ?_) (fun h14 => ?_)
  · exact y_sub (ls_s (ls_n (ls_n (ls_n (ls_n (ls_n ls_0)))))) (t_X5_kettle_22 n M11)
  · refine y_aload_n (pc := 11) dX5_kettle_11 rfl ?_
    refine y_getref (pc := 12) (x := 0) g_X5_10 dX5_kettle_12 ?_
    refine y_iload_n (pc := 15) dX5_kettle_15 rfl ?_
    refine y_callVi (pc := 16) v_X4_hasThing l_X5_159 dX5_kettle_16 (c_X4_hasThing n _ _ _) rfl (rc_X4 (by decide)) rfl (by decide) (by decide) (Nat.le_of_ble_eq_true rfl) (fun r16 M15 _ => ?_)
    refine y_gd (fun h17 => ?_)
    refine y_if_ne (off := 9) (tgt := 28) (pc := 19) dX5_kettle_19 (by decide) h17 (fun h18 => ?_) (fun h18 => ?_)
    · refine y_iload_n (pc := 28) dX5_kettle_28 rfl ?_
      refine y_iconst (pc := 29) dX5_kettle_29 ?_
      refine y_bipush (pc := 30) dX5_kettle_30 (by decide) ?_
      refine y_callSi (pc := 32) s_X5_outOfRange l_X5_220 dX5_kettle_32 (c_X5_outOfRange n _ _ _ _) rfl rfl (by decide) (by decide) (Nat.le_of_ble_eq_true rfl) (fun r20 M19 _ => ?_)
      refine y_istore (L' := [some (rv 130), some (iv a1), some (iv a2), some (iv a3), some (iv r20), none]) (pc := 35) dX5_kettle_35 (by decide) rfl rfl ?_
      refine y_iload (pc := 37) dX5_kettle_37 rfl ?_
      refine y_gd (fun h21 => ?_)
      refine y_if_eq (off := 10) (tgt := 49) (pc := 39) dX5_kettle_39 (by decide) h21 (fun h22 => ?_) (fun h22 => ?_)
      · refine y_iconst (pc := 49) dX5_kettle_49 ?_
        refine y_istore (L' := [some (rv 130), some (iv a1), some (iv a2), some (iv a3), some (iv r20), some (iv 0)]) (pc := 50) dX5_kettle_50 (by decide) rfl rfl ?_
        exact y_sub (ls_s (ls_s (ls_s (ls_s (ls_n (ls_s ls_0)))))) (t_X5_kettle_52 n n M19 a1 a2 a3 0)
      · refine y_aload_n (pc := 42) dX5_kettle_42 rfl ?_
        refine y_iload (pc := 43) dX5_kettle_43 rfl ?_
        refine y_callVi (pc := 45) v_X5_refuse l_X5_60 dX5_kettle_45 (c_X5_refuse n _ _) rfl rc_X5 rfl (by decide) (by decide) (Nat.le_of_ble_eq_true rfl) (fun r24 M23 _ => ?_)
        exact y_iret (pc := 48) dX5_kettle_48
    · exact y_sub (ls_s (ls_n (ls_n (ls_n (ls_n (ls_n ls_0)))))) (t_X5_kettle_22 n M15)
theorem c_X5_kettle (n : Nat) (M : Mem) (a1 : Int) (a2 : Int) (a3 : Int) : ∀ res : Int × Mem, m_X5_kettle n M a1 a2 a3 = some res → CTi yX5_kettle cX5_kettle 6 (some .int) 5 [rv 130, iv a1, iv a2, iv a3] M res := CTi_of (by decide +kernel) rfl (Nat.le_of_ble_eq_true rfl) rfl (y_X5_kettle n M a1 a2 a3)
def m_X5_without_112 (n : Nat) (k45 : Mem → Int → Int → Int → Int → Int → Rs) (M : Mem) (a1 : Int) (a2 : Int) (a6 : Int) (a7 : Int) : Rs := k45 M a1 a2 a6 a7 (a6 + 1)
theorem t_X5_without_112 (n : Nat) (k45 : Mem → Int → Int → Int → Int → Int → Rs) (hk45 : ∀ (M : Mem) (a1 : Int) (a2 : Int) (a4 : Int) (a5 : Int) (a6 : Int), Y RX5 cX5_without 8 5 0 none 45 [some (rv 130), some (iv a1), some (iv a2), none, some (iv a4), some (iv a5), some (iv a6), none] [] M (k45 M a1 a2 a4 a5 a6)) (M : Mem) (a1 : Int) (a2 : Int) (a6 : Int) (a7 : Int) : Y RX5 cX5_without 8 5 0 none 112 [some (rv 130), some (iv a1), some (iv a2), none, none, none, some (iv a6), some (iv a7)] [] M (m_X5_without_112 n k45 M a1 a2 a6 a7) := by
  unfold m_X5_without_112
  refine y_iload (pc := 112) dX5_without_112 rfl ?_
  refine y_istore (L' := [some (rv 130), some (iv a1), some (iv a2), none, none, some (iv a7), some (iv a6), some (iv a7)]) (pc := 114) dX5_without_114 (by decide) rfl rfl ?_
  refine y_iload (pc := 116) dX5_without_116 rfl ?_
  refine y_istore (L' := [some (rv 130), some (iv a1), some (iv a2), none, some (iv a6), some (iv a7), some (iv a6), some (iv a7)]) (pc := 118) dX5_without_118 (by decide) rfl rfl ?_
  refine y_iinc (L' := [some (rv 130), some (iv a1), some (iv a2), none, some (iv a6), some (iv a7), some (iv (a6 + 1)), some (iv a7)]) (pc := 120) dX5_without_120 rfl (by decide) rfl rfl ?_
  refine y_goto (tgt := 45) (pc := 123) dX5_without_123 (by decide) ?_
  exact y_sub (ls_s (ls_s (ls_s (ls_n (ls_s (ls_s (ls_s (ls_n ls_0)))))))) (hk45 M a1 a2 a6 a7 (a6 + 1))
def m_X5_without_45 (n : Nat) : Nat → Mem → Int → Int → Int → Int → Int → Rs
  | 0, _, _, _, _, _, _ => none
  | t + 1, M, a1, a2, a4, a5, a6 => if I32 a6 then (if (rd M 0 3) ≤ a6 then (if I32 a2 then (if a2 = 0 then (some (a4, M)) else (some (a5, M))) else none) else (bd (m_X0_begin n M 0) (fun _ M5 => bd (m_X4_dropFront n M5 22 a6) (fun _ M6 => bd (m_X0_goOn n M6 a1) (fun _ M7 => bd (m_X0_foggyCells n M7) (fun r9 M8 => bd (m_J6_bitCount_0f7a4 n M8 r9) (fun r11 M10 => if a6 = 0 then (m_X5_without_112 n (m_X5_without_45 n t) M10 a1 a2 a6 r11) else (if I32 r11 then (if I32 a5 then (if a5 ≤ r11 then ((m_X5_without_45 n t) M10 a1 a2 a4 a5 (a6 + 1)) else (m_X5_without_112 n (m_X5_without_45 n t) M10 a1 a2 a6 r11)) else none) else none)))))))) else none
theorem t_X5_without_45 (n : Nat) : ∀ (t : Nat) (M : Mem) (a1 : Int) (a2 : Int) (a4 : Int) (a5 : Int) (a6 : Int), Y RX5 cX5_without 8 5 0 none 45 [some (rv 130), some (iv a1), some (iv a2), none, some (iv a4), some (iv a5), some (iv a6), none] [] M (m_X5_without_45 n t M a1 a2 a4 a5 a6) := by
  intro t
  induction t with
  | zero => intro M a1 a2 a4 a5 a6; exact y_none
  | succ t ih =>
    intro M a1 a2 a4 a5 a6
    rewrite [m_X5_without_45]
    refine y_iload (pc := 45) dX5_without_45 rfl ?_
    refine y_aload_n (pc := 47) dX5_without_47 rfl ?_
    refine y_getref (pc := 48) (x := 0) g_X5_10 dX5_without_48 ?_
    refine y_getint (pc := 51) (g_X5_210 (by decide)) dX5_without_51 ?_
    refine y_gd (fun h1 => ?_)
    refine y_icmp_ge (off := 72) (tgt := 126) (pc := 54) dX5_without_54 (by decide) h1 (rd_rng _ _ _) (fun h2 => ?_) (fun h2 => ?_)
    · refine y_iload_n (pc := 126) dX5_without_126 rfl ?_
      refine y_gd (fun h3 => ?_)
      refine y_if_ne (off := 8) (tgt := 135) (pc := 127) dX5_without_127 (by decide) h3 (fun h4 => ?_) (fun h4 => ?_)
      · refine y_iload (pc := 135) dX5_without_135 rfl ?_
        exact y_iret (pc := 137) dX5_without_137
      · refine y_iload (pc := 130) dX5_without_130 rfl ?_
        refine y_goto (tgt := 137) (pc := 132) dX5_without_132 (by decide) ?_
        exact y_iret (pc := 137) dX5_without_137
    · refine y_aload_n (pc := 57) dX5_without_57 rfl ?_
      refine y_getref (pc := 58) (x := 129) g_X5_50 dX5_without_58 ?_
      refine y_aload_n (pc := 61) dX5_without_61 rfl ?_
      refine y_getref (pc := 62) (x := 0) g_X5_10 dX5_without_62 ?_
      refine y_callVv (pc := 65) v_X0_begin l_X5_67 dX5_without_65 (c_X0_begin n _ _) rfl rc_X0 rfl (by decide) (by decide) (Nat.le_of_ble_eq_true rfl) (fun _ M5 _ => ?_)
      refine y_aload_n (pc := 68) dX5_without_68 rfl ?_
      refine y_getref (pc := 69) (x := 129) g_X5_50 dX5_without_69 ?_
      refine y_getref (pc := 72) (x := 22) g_X5_81 dX5_without_72 ?_
      refine y_iload (pc := 75) dX5_without_75 rfl ?_
      refine y_callVv (pc := 77) v_X4_dropFront l_X5_239 dX5_without_77 (c_X4_dropFront n _ _ _) rfl (rc_X4 (by decide)) rfl (by decide) (by decide) (Nat.le_of_ble_eq_true rfl) (fun _ M6 _ => ?_)
      refine y_aload_n (pc := 80) dX5_without_80 rfl ?_
      refine y_getref (pc := 81) (x := 129) g_X5_50 dX5_without_81 ?_
      refine y_iload_n (pc := 84) dX5_without_84 rfl ?_
      refine y_callVv (pc := 85) v_X0_goOn l_X5_119 dX5_without_85 (c_X0_goOn n _ _) rfl rc_X0 rfl (by decide) (by decide) (Nat.le_of_ble_eq_true rfl) (fun _ M7 _ => ?_)
      refine y_aload_n (pc := 88) dX5_without_88 rfl ?_
      refine y_getref (pc := 89) (x := 129) g_X5_50 dX5_without_89 ?_
      refine y_callVi (pc := 92) v_X0_foggyCells l_X5_217 dX5_without_92 (c_X0_foggyCells n _) rfl rc_X0 rfl (by decide) (by decide) (Nat.le_of_ble_eq_true rfl) (fun r9 M8 _ => ?_)
      refine y_callSi (pc := 95) s_J6_bitCount_0f7a4 l_X5_242 dX5_without_95 (c_J6_bitCount_0f7a4 n _ _) rfl rfl (by decide) (by decide) (Nat.le_of_ble_eq_true rfl) (fun r11 M10 _ => ?_)
      refine y_istore (L' := [some (rv 130), some (iv a1), some (iv a2), none, some (iv a4), some (iv a5), some (iv a6), some (iv r11)]) (pc := 98) dX5_without_98 (by decide) rfl rfl ?_
      refine y_iload (pc := 100) dX5_without_100 rfl ?_
      refine y_if_eq (off := 10) (tgt := 112) (pc := 102) dX5_without_102 (by decide) h1 (fun h12 => ?_) (fun h12 => ?_)
      · exact y_sub (ls_s (ls_s (ls_s (ls_n (ls_n (ls_n (ls_s (ls_s ls_0)))))))) (t_X5_without_112 n (m_X5_without_45 n t) ih M10 a1 a2 a6 r11)
      · refine y_iload (pc := 105) dX5_without_105 rfl ?_
        refine y_iload (pc := 107) dX5_without_107 rfl ?_
        refine y_gd (fun h13 => ?_)
        refine y_gd (fun h14 => ?_)
        refine y_icmp_ge (off := 11) (tgt := 120) (pc := 109) dX5_without_109 (by decide) h13 h14 (fun h15 => ?_) (fun h15 => ?_)
        · refine y_iinc (L' := [some (rv 130), some (iv a1), some (iv a2), none, some (iv a4), some (iv a5), some (iv (a6 + 1)), some (iv r11)]) (pc := 120) dX5_without_120 rfl (by decide) rfl rfl ?_
          refine y_goto (tgt := 45) (pc := 123) dX5_without_123 (by decide) ?_
          exact y_sub (ls_s (ls_s (ls_s (ls_n (ls_s (ls_s (ls_s (ls_n ls_0)))))))) (ih M10 a1 a2 a4 a5 (a6 + 1))
        · exact y_sub (ls_s (ls_s (ls_s (ls_n (ls_n (ls_n (ls_s (ls_s ls_0)))))))) (t_X5_without_112 n (m_X5_without_45 n t) ih M10 a1 a2 a6 r11)
def m_X5_without_34 (n : Nat) (M : Mem) (a1 : Int) (a2 : Int) : Rs := m_X5_without_45 n n M a1 a2 (-9) (-9) 0
theorem t_X5_without_34 (n : Nat) (M : Mem) (a1 : Int) (a2 : Int) : Y RX5 cX5_without 8 5 0 none 34 [some (rv 130), some (iv a1), some (iv a2), none, none, none, none, none] [] M (m_X5_without_34 n M a1 a2) := by
  unfold m_X5_without_34
  refine y_bipush (pc := 34) dX5_without_34 (by decide) ?_
  refine y_istore (L' := [some (rv 130), some (iv a1), some (iv a2), none, some (iv (-9)), none, none, none]) (pc := 36) dX5_without_36 (by decide) rfl rfl ?_
  refine y_bipush (pc := 38) dX5_without_38 (by decide) ?_
  refine y_istore (L' := [some (rv 130), some (iv a1), some (iv a2), none, some (iv (-9)), some (iv (-9)), none, none]) (pc := 40) dX5_without_40 (by decide) rfl rfl ?_
  refine y_iconst (pc := 42) dX5_without_42 ?_
  refine y_istore (L' := [some (rv 130), some (iv a1), some (iv a2), none, some (iv (-9)), some (iv (-9)), some (iv 0), none]) (pc := 43) dX5_without_43 (by decide) rfl rfl ?_
  exact y_sub (ls_s (ls_s (ls_s (ls_n (ls_s (ls_s (ls_s (ls_n ls_0)))))))) (t_X5_without_45 n n M a1 a2 (-9) (-9) 0)
def m_X5_without (n : Nat) (M : Mem) (a1 : Int) (a2 : Int) : Rs := bd (m_X5_outOfRange n M a1 0 60) (fun r17 M16 => if I32 r17 then (if r17 = 0 then (if I32 a2 then (if a2 = 0 then (m_X5_without_34 n M16 a1 a2) else (if a2 = 1 then (m_X5_without_34 n M16 a1 a2) else (bd (m_X5_refuse n M16 (-2)) (fun r24 M23 => some (r24, M23))))) else none) else (bd (m_X5_refuse n M16 r17) (fun r26 M25 => some (r26, M25)))) else none)
theorem y_X5_without (n : Nat) (M : Mem) (a1 : Int) (a2 : Int) : Y RX5 cX5_without 8 5 0 none 0 [some (rv 130), some (iv a1), some (iv a2), none, none, none, none, none] [] M (m_X5_without n M a1 a2) := by
  unfold m_X5_without
  refine y_iload_n (pc := 0) dX5_without_0 rfl ?_
  refine y_iconst (pc := 1) dX5_without_1 ?_
  refine y_bipush (pc := 2) dX5_without_2 (by decide) ?_
  refine y_callSi (pc := 4) s_X5_outOfRange l_X5_220 dX5_without_4 (c_X5_outOfRange n _ _ _ _) rfl rfl (by decide) (by decide) (Nat.le_of_ble_eq_true rfl) (fun r17 M16 _ => ?_)
  refine y_istore_n (L' := [some (rv 130), some (iv a1), some (iv a2), some (iv r17), none, none, none, none]) (pc := 7) dX5_without_7 (by decide) rfl rfl ?_
  refine y_iload_n (pc := 8) dX5_without_8 rfl ?_
  refine y_gd (fun h18 => ?_)
  refine y_if_eq (off := 9) (tgt := 18) (pc := 9) dX5_without_9 (by decide) h18 (fun h19 => ?_) (fun h19 => ?_)
  · refine y_iload_n (pc := 18) dX5_without_18 rfl ?_
    refine y_gd (fun h20 => ?_)
    refine y_if_eq (off := 15) (tgt := 34) (pc := 19) dX5_without_19 (by decide) h20 (fun h21 => ?_) (fun h21 => ?_)
    · exact y_sub (ls_s (ls_s (ls_s (ls_n (ls_n (ls_n (ls_n (ls_n ls_0)))))))) (t_X5_without_34 n M16 a1 a2)
    · refine y_iload_n (pc := 22) dX5_without_22 rfl ?_
      refine y_iconst (pc := 23) dX5_without_23 ?_
      refine y_icmp_eq (off := 10) (tgt := 34) (pc := 24) dX5_without_24 (by decide) h20 (by decide) (fun h22 => ?_) (fun h22 => ?_)
      · exact y_sub (ls_s (ls_s (ls_s (ls_n (ls_n (ls_n (ls_n (ls_n ls_0)))))))) (t_X5_without_34 n M16 a1 a2)
      · refine y_aload_n (pc := 27) dX5_without_27 rfl ?_
        refine y_bipush (pc := 28) dX5_without_28 (by decide) ?_
        refine y_callVi (pc := 30) v_X5_refuse l_X5_60 dX5_without_30 (c_X5_refuse n _ _) rfl rc_X5 rfl (by decide) (by decide) (Nat.le_of_ble_eq_true rfl) (fun r24 M23 _ => ?_)
        exact y_iret (pc := 33) dX5_without_33
  · refine y_aload_n (pc := 12) dX5_without_12 rfl ?_
    refine y_iload_n (pc := 13) dX5_without_13 rfl ?_
    refine y_callVi (pc := 14) v_X5_refuse l_X5_60 dX5_without_14 (c_X5_refuse n _ _) rfl rc_X5 rfl (by decide) (by decide) (Nat.le_of_ble_eq_true rfl) (fun r26 M25 _ => ?_)
    exact y_iret (pc := 17) dX5_without_17
theorem c_X5_without (n : Nat) (M : Mem) (a1 : Int) (a2 : Int) : ∀ res : Int × Mem, m_X5_without n M a1 a2 = some res → CTi yX5_without cX5_without 8 (some .int) 5 [rv 130, iv a1, iv a2] M res := CTi_of (by decide +kernel) rfl (Nat.le_of_ble_eq_true rfl) rfl (y_X5_without n M a1 a2)
def m_X5_swap_59 (n : Nat) (k41 : Mem → Int → Int → Int → Int → Rs) : Nat → Mem → Int → Int → Int → Int → Int → Rs
  | 0, _, _, _, _, _, _ => none
  | t + 1, M, a1, a3, a4, a5, a6 => if I32 a6 then (if (rd M 0 12) ≤ a6 then (k41 M a1 a3 a4 (a5 + 1)) else (bd (m_X0_begin n M 0) (fun _ M3 => bd (m_X4_change n M3 22 a5 a6) (fun _ M4 => bd (m_X0_goOn n M4 a1) (fun _ M5 => bd (m_X4_ownedThings n M5 22) (fun r7 M6 => if I32 r7 then (if I32 a4 then (if r7 ≤ a4 then ((m_X5_swap_59 n k41 t) M6 a1 a3 a4 a5 (a6 + 1)) else ((m_X5_swap_59 n k41 t) M6 a1 ((10 * a5) + a6) r7 a5 (a6 + 1))) else none) else none)))))) else none
theorem t_X5_swap_59 (n : Nat) (k41 : Mem → Int → Int → Int → Int → Rs) (hk41 : ∀ (M : Mem) (a1 : Int) (a3 : Int) (a4 : Int) (a5 : Int), Y RX5 cX5_swap 8 6 0 none 41 [some (rv 130), some (iv a1), none, some (iv a3), some (iv a4), some (iv a5), none, none] [] M (k41 M a1 a3 a4 a5)) : ∀ (t : Nat) (M : Mem) (a1 : Int) (a3 : Int) (a4 : Int) (a5 : Int) (a6 : Int), Y RX5 cX5_swap 8 6 0 none 59 [some (rv 130), some (iv a1), none, some (iv a3), some (iv a4), some (iv a5), some (iv a6), none] [] M (m_X5_swap_59 n k41 t M a1 a3 a4 a5 a6) := by
  intro t
  induction t with
  | zero => intro M a1 a3 a4 a5 a6; exact y_none
  | succ t ih =>
    intro M a1 a3 a4 a5 a6
    rewrite [m_X5_swap_59]
    refine y_iload (pc := 59) dX5_swap_59 rfl ?_
    refine y_aload_n (pc := 61) dX5_swap_61 rfl ?_
    refine y_getref (pc := 62) (x := 0) g_X5_10 dX5_swap_62 ?_
    refine y_getint (pc := 65) (g_X5_204 (by decide)) dX5_swap_65 ?_
    refine y_gd (fun h1 => ?_)
    refine y_icmp_ge (off := 74) (tgt := 142) (pc := 68) dX5_swap_68 (by decide) h1 (rd_rng _ _ _) (fun h2 => ?_) (fun h2 => ?_)
    · refine y_iinc (L' := [some (rv 130), some (iv a1), none, some (iv a3), some (iv a4), some (iv (a5 + 1)), some (iv a6), none]) (pc := 142) dX5_swap_142 rfl (by decide) rfl rfl ?_
      refine y_goto (tgt := 41) (pc := 145) dX5_swap_145 (by decide) ?_
      exact y_sub (ls_s (ls_s (ls_n (ls_s (ls_s (ls_s (ls_n (ls_n ls_0)))))))) (hk41 M a1 a3 a4 (a5 + 1))
    · refine y_aload_n (pc := 71) dX5_swap_71 rfl ?_
      refine y_getref (pc := 72) (x := 129) g_X5_50 dX5_swap_72 ?_
      refine y_aload_n (pc := 75) dX5_swap_75 rfl ?_
      refine y_getref (pc := 76) (x := 0) g_X5_10 dX5_swap_76 ?_
      refine y_callVv (pc := 79) v_X0_begin l_X5_67 dX5_swap_79 (c_X0_begin n _ _) rfl rc_X0 rfl (by decide) (by decide) (Nat.le_of_ble_eq_true rfl) (fun _ M3 _ => ?_)
      refine y_aload_n (pc := 82) dX5_swap_82 rfl ?_
      refine y_getref (pc := 83) (x := 129) g_X5_50 dX5_swap_83 ?_
      refine y_getref (pc := 86) (x := 22) g_X5_81 dX5_swap_86 ?_
      refine y_iload (pc := 89) dX5_swap_89 rfl ?_
      refine y_iload (pc := 91) dX5_swap_91 rfl ?_
      refine y_callVv (pc := 93) v_X4_change l_X5_247 dX5_swap_93 (c_X4_change n _ _ _ _) rfl (rc_X4 (by decide)) rfl (by decide) (by decide) (Nat.le_of_ble_eq_true rfl) (fun _ M4 _ => ?_)
      refine y_aload_n (pc := 96) dX5_swap_96 rfl ?_
      refine y_getref (pc := 97) (x := 129) g_X5_50 dX5_swap_97 ?_
      refine y_iload_n (pc := 100) dX5_swap_100 rfl ?_
      refine y_callVv (pc := 101) v_X0_goOn l_X5_119 dX5_swap_101 (c_X0_goOn n _ _) rfl rc_X0 rfl (by decide) (by decide) (Nat.le_of_ble_eq_true rfl) (fun _ M5 _ => ?_)
      refine y_aload_n (pc := 104) dX5_swap_104 rfl ?_
      refine y_getref (pc := 105) (x := 129) g_X5_50 dX5_swap_105 ?_
      refine y_getref (pc := 108) (x := 22) g_X5_81 dX5_swap_108 ?_
      refine y_callVi (pc := 111) v_X4_ownedThings l_X5_213 dX5_swap_111 (c_X4_ownedThings n _ _) rfl (rc_X4 (by decide)) rfl (by decide) (by decide) (Nat.le_of_ble_eq_true rfl) (fun r7 M6 _ => ?_)
      refine y_istore (L' := [some (rv 130), some (iv a1), none, some (iv a3), some (iv a4), some (iv a5), some (iv a6), some (iv r7)]) (pc := 114) dX5_swap_114 (by decide) rfl rfl ?_
      refine y_iload (pc := 116) dX5_swap_116 rfl ?_
      refine y_iload (pc := 118) dX5_swap_118 rfl ?_
      refine y_gd (fun h8 => ?_)
      refine y_gd (fun h9 => ?_)
      refine y_icmp_le (off := 16) (tgt := 136) (pc := 120) dX5_swap_120 (by decide) h8 h9 (fun h10 => ?_) (fun h10 => ?_)
      · refine y_iinc (L' := [some (rv 130), some (iv a1), none, some (iv a3), some (iv a4), some (iv a5), some (iv (a6 + 1)), some (iv r7)]) (pc := 136) dX5_swap_136 rfl (by decide) rfl rfl ?_
        refine y_goto (tgt := 59) (pc := 139) dX5_swap_139 (by decide) ?_
        exact y_sub (ls_s (ls_s (ls_n (ls_s (ls_s (ls_s (ls_s (ls_n ls_0)))))))) (ih M6 a1 a3 a4 a5 (a6 + 1))
      · refine y_iload (pc := 123) dX5_swap_123 rfl ?_
        refine y_istore (L' := [some (rv 130), some (iv a1), none, some (iv a3), some (iv r7), some (iv a5), some (iv a6), some (iv r7)]) (pc := 125) dX5_swap_125 (by decide) rfl rfl ?_
        refine y_bipush (pc := 127) dX5_swap_127 (by decide) ?_
        refine y_iload (pc := 129) dX5_swap_129 rfl ?_
        refine y_imul (pc := 131) dX5_swap_131 ?_
        refine y_iload (pc := 132) dX5_swap_132 rfl ?_
        refine y_iadd (pc := 134) dX5_swap_134 ?_
        refine y_istore_n (L' := [some (rv 130), some (iv a1), none, some (iv ((10 * a5) + a6)), some (iv r7), some (iv a5), some (iv a6), some (iv r7)]) (pc := 135) dX5_swap_135 (by decide) rfl rfl ?_
        refine y_iinc (L' := [some (rv 130), some (iv a1), none, some (iv ((10 * a5) + a6)), some (iv r7), some (iv a5), some (iv (a6 + 1)), some (iv r7)]) (pc := 136) dX5_swap_136 rfl (by decide) rfl rfl ?_
        refine y_goto (tgt := 59) (pc := 139) dX5_swap_139 (by decide) ?_
        exact y_sub (ls_s (ls_s (ls_n (ls_s (ls_s (ls_s (ls_s (ls_n ls_0)))))))) (ih M6 a1 ((10 * a5) + a6) r7 a5 (a6 + 1))
def m_X5_swap_41 (n : Nat) : Nat → Mem → Int → Int → Int → Int → Rs
  | 0, _, _, _, _, _ => none
  | t + 1, M, a1, a3, a4, a5 => if I32 a5 then (if (rd M 0 12) ≤ a5 then (some (a3, M)) else (m_X5_swap_59 n (m_X5_swap_41 n t) n M a1 a3 a4 a5 (a5 + 1))) else none
theorem t_X5_swap_41 (n : Nat) : ∀ (t : Nat) (M : Mem) (a1 : Int) (a3 : Int) (a4 : Int) (a5 : Int), Y RX5 cX5_swap 8 6 0 none 41 [some (rv 130), some (iv a1), none, some (iv a3), some (iv a4), some (iv a5), none, none] [] M (m_X5_swap_41 n t M a1 a3 a4 a5) := by
  intro t
  induction t with
  | zero => intro M a1 a3 a4 a5; exact y_none
  | succ t ih =>
    intro M a1 a3 a4 a5
    rewrite [m_X5_swap_41]
    refine y_iload (pc := 41) dX5_swap_41 rfl ?_
    refine y_aload_n (pc := 43) dX5_swap_43 rfl ?_
    refine y_getref (pc := 44) (x := 0) g_X5_10 dX5_swap_44 ?_
    refine y_getint (pc := 47) (g_X5_204 (by decide)) dX5_swap_47 ?_
    refine y_gd (fun h11 => ?_)
    refine y_icmp_ge (off := 98) (tgt := 148) (pc := 50) dX5_swap_50 (by decide) h11 (rd_rng _ _ _) (fun h12 => ?_) (fun h12 => ?_)
    · refine y_iload_n (pc := 148) dX5_swap_148 rfl ?_
      exact y_iret (pc := 149) dX5_swap_149
    · refine y_iload (pc := 53) dX5_swap_53 rfl ?_
      refine y_iconst (pc := 55) dX5_swap_55 ?_
      refine y_iadd (pc := 56) dX5_swap_56 ?_
      refine y_istore (L' := [some (rv 130), some (iv a1), none, some (iv a3), some (iv a4), some (iv a5), some (iv (a5 + 1)), none]) (pc := 57) dX5_swap_57 (by decide) rfl rfl ?_
      exact y_sub (ls_s (ls_s (ls_n (ls_s (ls_s (ls_s (ls_s (ls_n ls_0)))))))) (t_X5_swap_59 n (m_X5_swap_41 n t) ih n M a1 a3 a4 a5 (a5 + 1))
def m_X5_swap (n : Nat) (M : Mem) (a1 : Int) : Rs := bd (m_X5_outOfRange n M a1 0 30) (fun r14 M13 => if I32 r14 then (if r14 = 0 then (bd (m_X5_thinkOn n M13 a1) (fun _ M17 => bd (m_X4_ownedThings n M17 22) (fun r19 M18 => m_X5_swap_41 n n M18 a1 (-9) r19 0))) else (bd (m_X5_refuse n M13 r14) (fun r21 M20 => some (r21, M20)))) else none)
theorem y_X5_swap (n : Nat) (M : Mem) (a1 : Int) : Y RX5 cX5_swap 8 6 0 none 0 [some (rv 130), some (iv a1), none, none, none, none, none, none] [] M (m_X5_swap n M a1) := by
  unfold m_X5_swap
  refine y_iload_n (pc := 0) dX5_swap_0 rfl ?_
  refine y_iconst (pc := 1) dX5_swap_1 ?_
  refine y_bipush (pc := 2) dX5_swap_2 (by decide) ?_
  refine y_callSi (pc := 4) s_X5_outOfRange l_X5_220 dX5_swap_4 (c_X5_outOfRange n _ _ _ _) rfl rfl (by decide) (by decide) (Nat.le_of_ble_eq_true rfl) (fun r14 M13 _ => ?_)
  refine y_istore_n (L' := [some (rv 130), some (iv a1), some (iv r14), none, none, none, none, none]) (pc := 7) dX5_swap_7 (by decide) rfl rfl ?_
  refine y_iload_n (pc := 8) dX5_swap_8 rfl ?_
  refine y_gd (fun h15 => ?_)
  refine y_if_eq (off := 9) (tgt := 18) (pc := 9) dX5_swap_9 (by decide) h15 (fun h16 => ?_) (fun h16 => ?_)
  · refine y_aload_n (pc := 18) dX5_swap_18 rfl ?_
    refine y_iload_n (pc := 19) dX5_swap_19 rfl ?_
    refine y_callVv (pc := 20) v_X5_thinkOn l_X5_227 dX5_swap_20 (c_X5_thinkOn n _ _) rfl rc_X5 rfl (by decide) (by decide) (Nat.le_of_ble_eq_true rfl) (fun _ M17 _ => ?_)
    refine y_bipush (pc := 23) dX5_swap_23 (by decide) ?_
    refine y_istore_n (L' := [some (rv 130), some (iv a1), some (iv r14), some (iv (-9)), none, none, none, none]) (pc := 25) dX5_swap_25 (by decide) rfl rfl ?_
    refine y_aload_n (pc := 26) dX5_swap_26 rfl ?_
    refine y_getref (pc := 27) (x := 129) g_X5_50 dX5_swap_27 ?_
    refine y_getref (pc := 30) (x := 22) g_X5_81 dX5_swap_30 ?_
    refine y_callVi (pc := 33) v_X4_ownedThings l_X5_213 dX5_swap_33 (c_X4_ownedThings n _ _) rfl (rc_X4 (by decide)) rfl (by decide) (by decide) (Nat.le_of_ble_eq_true rfl) (fun r19 M18 _ => ?_)
    refine y_istore (L' := [some (rv 130), some (iv a1), some (iv r14), some (iv (-9)), some (iv r19), none, none, none]) (pc := 36) dX5_swap_36 (by decide) rfl rfl ?_
    refine y_iconst (pc := 38) dX5_swap_38 ?_
    refine y_istore (L' := [some (rv 130), some (iv a1), some (iv r14), some (iv (-9)), some (iv r19), some (iv 0), none, none]) (pc := 39) dX5_swap_39 (by decide) rfl rfl ?_
    exact y_sub (ls_s (ls_s (ls_n (ls_s (ls_s (ls_s (ls_n (ls_n ls_0)))))))) (t_X5_swap_41 n n M18 a1 (-9) r19 0)
  · refine y_aload_n (pc := 12) dX5_swap_12 rfl ?_
    refine y_iload_n (pc := 13) dX5_swap_13 rfl ?_
    refine y_callVi (pc := 14) v_X5_refuse l_X5_60 dX5_swap_14 (c_X5_refuse n _ _) rfl rc_X5 rfl (by decide) (by decide) (Nat.le_of_ble_eq_true rfl) (fun r21 M20 _ => ?_)
    exact y_iret (pc := 17) dX5_swap_17
theorem c_X5_swap (n : Nat) (M : Mem) (a1 : Int) : ∀ res : Int × Mem, m_X5_swap n M a1 = some res → CTi yX5_swap cX5_swap 8 (some .int) 6 [rv 130, iv a1] M res := CTi_of (by decide +kernel) rfl (Nat.le_of_ble_eq_true rfl) rfl (y_X5_swap n M a1)
def m_X5_goesByTheRow_22 (n : Nat) (k2 : Mem → Int → Int → Rs) (M : Mem) (a1 : Int) (a2 : Int) : Rs := if 0 ≤ a1 ∧ a1 < 5 then (if 0 ≤ a2 ∧ a2 < 12 then (if (rd M 32 (Int.toNat a1)) = (rd M 133 (Int.toNat a2)) then (k2 M a1 (a2 + 1)) else (some (0, M))) else none) else none
theorem t_X5_goesByTheRow_22 (n : Nat) (k2 : Mem → Int → Int → Rs) (hk2 : ∀ (M : Mem) (a1 : Int) (a2 : Int), Y RX5 cX5_goesByTheRow 3 5 1 none 2 [some (rv 130), some (iv a1), some (iv a2)] [] M (k2 M a1 a2)) (M : Mem) (a1 : Int) (a2 : Int) : Y RX5 cX5_goesByTheRow 3 5 1 none 22 [some (rv 130), some (iv a1), some (iv a2)] [] M (m_X5_goesByTheRow_22 n k2 M a1 a2) := by
  unfold m_X5_goesByTheRow_22
  refine y_aload_n (pc := 22) dX5_goesByTheRow_22 rfl ?_
  refine y_getref (pc := 23) (x := 129) g_X5_50 dX5_goesByTheRow_23 ?_
  refine y_getref (pc := 26) (x := 22) g_X5_81 dX5_goesByTheRow_26 ?_
  refine y_getref (pc := 29) (x := 32) (g_X5_135 (by decide)) dX5_goesByTheRow_29 ?_
  refine y_iload_n (pc := 32) dX5_goesByTheRow_32 rfl ?_
  refine y_gd (fun h1 => ?_)
  refine y_iald (pc := 33) dX5_goesByTheRow_33 ar_32 h1 ?_
  refine y_aload_n (pc := 34) dX5_goesByTheRow_34 rfl ?_
  refine y_getref (pc := 35) (x := 133) g_X5_38 dX5_goesByTheRow_35 ?_
  refine y_iload_n (pc := 38) dX5_goesByTheRow_38 rfl ?_
  refine y_gd (fun h2 => ?_)
  refine y_iald (pc := 39) dX5_goesByTheRow_39 ar_133 h2 ?_
  refine y_icmp_eq (off := 5) (tgt := 45) (pc := 40) dX5_goesByTheRow_40 (by decide) (rd_rng _ _ _) (rd_rng _ _ _) (fun h3 => ?_) (fun h3 => ?_)
  · refine y_iinc (L' := [some (rv 130), some (iv a1), some (iv (a2 + 1))]) (pc := 45) dX5_goesByTheRow_45 rfl (by decide) rfl rfl ?_
    refine y_goto (tgt := 2) (pc := 48) dX5_goesByTheRow_48 (by decide) ?_
    exact y_sub (ls_s (ls_s (ls_s ls_0))) (hk2 M a1 (a2 + 1))
  · refine y_iconst (pc := 43) dX5_goesByTheRow_43 ?_
    exact y_zret (pc := 44) dX5_goesByTheRow_44 (by decide)
def m_X5_goesByTheRow_2 (n : Nat) : Nat → Mem → Int → Int → Rs
  | 0, _, _, _ => none
  | t + 1, M, a1, a2 => if I32 a2 then (if (rd M 130 8) ≤ a2 then (some (1, M)) else (if a2 ≤ 0 then (m_X5_goesByTheRow_22 n (m_X5_goesByTheRow_2 n t) M a1 a2) else (bd (m_X0_goOn n M 1) (fun _ M7 => m_X5_goesByTheRow_22 n (m_X5_goesByTheRow_2 n t) M7 a1 a2)))) else none
theorem t_X5_goesByTheRow_2 (n : Nat) : ∀ (t : Nat) (M : Mem) (a1 : Int) (a2 : Int), Y RX5 cX5_goesByTheRow 3 5 1 none 2 [some (rv 130), some (iv a1), some (iv a2)] [] M (m_X5_goesByTheRow_2 n t M a1 a2) := by
  intro t
  induction t with
  | zero => intro M a1 a2; exact y_none
  | succ t ih =>
    intro M a1 a2
    rewrite [m_X5_goesByTheRow_2]
    refine y_iload_n (pc := 2) dX5_goesByTheRow_2 rfl ?_
    refine y_aload_n (pc := 3) dX5_goesByTheRow_3 rfl ?_
    refine y_getint (pc := 4) g_X5_41 dX5_goesByTheRow_4 ?_
    refine y_gd (fun h4 => ?_)
    refine y_icmp_ge (off := 44) (tgt := 51) (pc := 7) dX5_goesByTheRow_7 (by decide) h4 (rd_rng _ _ _) (fun h5 => ?_) (fun h5 => ?_)
    · refine y_iconst (pc := 51) dX5_goesByTheRow_51 ?_
      exact y_zret (pc := 52) dX5_goesByTheRow_52 (by decide)
    · refine y_iload_n (pc := 10) dX5_goesByTheRow_10 rfl ?_
      refine y_if_le (off := 11) (tgt := 22) (pc := 11) dX5_goesByTheRow_11 (by decide) h4 (fun h6 => ?_) (fun h6 => ?_)
      · exact y_sub (ls_s (ls_s (ls_s ls_0))) (t_X5_goesByTheRow_22 n (m_X5_goesByTheRow_2 n t) ih M a1 a2)
      · refine y_aload_n (pc := 14) dX5_goesByTheRow_14 rfl ?_
        refine y_getref (pc := 15) (x := 129) g_X5_50 dX5_goesByTheRow_15 ?_
        refine y_iconst (pc := 18) dX5_goesByTheRow_18 ?_
        refine y_callVv (pc := 19) v_X0_goOn l_X5_119 dX5_goesByTheRow_19 (c_X0_goOn n _ _) rfl rc_X0 rfl (by decide) (by decide) (Nat.le_of_ble_eq_true rfl) (fun _ M7 _ => ?_)
        exact y_sub (ls_s (ls_s (ls_s ls_0))) (t_X5_goesByTheRow_22 n (m_X5_goesByTheRow_2 n t) ih M7 a1 a2)
def m_X5_goesByTheRow (n : Nat) (M : Mem) (a1 : Int) : Rs := m_X5_goesByTheRow_2 n n M a1 0
theorem y_X5_goesByTheRow (n : Nat) (M : Mem) (a1 : Int) : Y RX5 cX5_goesByTheRow 3 5 1 none 0 [some (rv 130), some (iv a1), none] [] M (m_X5_goesByTheRow n M a1) := by
  unfold m_X5_goesByTheRow
  refine y_iconst (pc := 0) dX5_goesByTheRow_0 ?_
  refine y_istore_n (L' := [some (rv 130), some (iv a1), some (iv 0)]) (pc := 1) dX5_goesByTheRow_1 (by decide) rfl rfl ?_
  exact y_sub (ls_s (ls_s (ls_s ls_0))) (t_X5_goesByTheRow_2 n n M a1 0)
theorem c_X5_goesByTheRow (n : Nat) (M : Mem) (a1 : Int) : ∀ res : Int × Mem, m_X5_goesByTheRow n M a1 = some res → CTi yX5_goesByTheRow cX5_goesByTheRow 3 (some .boolean) 5 [rv 130, iv a1] M res := CTz_of (by decide +kernel) rfl (Nat.le_of_ble_eq_true rfl) rfl (y_X5_goesByTheRow n M a1)
def m_X5_whatKind_103 (n : Nat) (k51 : Mem → Int → Int → Int → Int → Int → Rs) (M : Mem) (a1 : Int) (a2 : Int) (a3 : Int) (a4 : Int) (a5 : Int) : Rs := bd (m_X5_goesByTheRow n M a1) (fun r2 M1 => if I32 r2 then (if r2 = 0 then (k51 M1 a1 a2 a3 a4 (a5 + 1)) else (k51 M1 a1 a2 a3 (bOr a4 (bShl 1 a5)) (a5 + 1))) else none)
theorem t_X5_whatKind_103 (n : Nat) (k51 : Mem → Int → Int → Int → Int → Int → Rs) (hk51 : ∀ (M : Mem) (a1 : Int) (a2 : Int) (a3 : Int) (a4 : Int) (a5 : Int), Y RX5 cX5_whatKind 6 6 0 none 51 [some (rv 130), some (iv a1), some (iv a2), some (iv a3), some (iv a4), some (iv a5)] [] M (k51 M a1 a2 a3 a4 a5)) (M : Mem) (a1 : Int) (a2 : Int) (a3 : Int) (a4 : Int) (a5 : Int) : Y RX5 cX5_whatKind 6 6 0 none 103 [some (rv 130), some (iv a1), some (iv a2), some (iv a3), some (iv a4), some (iv a5)] [] M (m_X5_whatKind_103 n k51 M a1 a2 a3 a4 a5) := by
  unfold m_X5_whatKind_103
  refine y_aload_n (pc := 103) dX5_whatKind_103 rfl ?_
  refine y_iload_n (pc := 104) dX5_whatKind_104 rfl ?_
  refine y_callVi (pc := 105) v_X5_goesByTheRow l_X5_251 dX5_whatKind_105 (c_X5_goesByTheRow n _ _) rfl rc_X5 rfl (by decide) (by decide) (Nat.le_of_ble_eq_true rfl) (fun r2 M1 _ => ?_)
  refine y_gd (fun h3 => ?_)
  refine y_if_eq (off := 12) (tgt := 120) (pc := 108) dX5_whatKind_108 (by decide) h3 (fun h4 => ?_) (fun h4 => ?_)
  · refine y_iinc (L' := [some (rv 130), some (iv a1), some (iv a2), some (iv a3), some (iv a4), some (iv (a5 + 1))]) (pc := 120) dX5_whatKind_120 rfl (by decide) rfl rfl ?_
    refine y_goto (tgt := 51) (pc := 123) dX5_whatKind_123 (by decide) ?_
    exact y_sub (ls_s (ls_s (ls_s (ls_s (ls_s (ls_s ls_0)))))) (hk51 M1 a1 a2 a3 a4 (a5 + 1))
  · refine y_iload (pc := 111) dX5_whatKind_111 rfl ?_
    refine y_iconst (pc := 113) dX5_whatKind_113 ?_
    refine y_iload (pc := 114) dX5_whatKind_114 rfl ?_
    refine y_ishl (pc := 116) dX5_whatKind_116 ?_
    refine y_ior (pc := 117) dX5_whatKind_117 ?_
    refine y_istore (L' := [some (rv 130), some (iv a1), some (iv a2), some (iv a3), some (iv (bOr a4 (bShl 1 a5))), some (iv a5)]) (pc := 118) dX5_whatKind_118 (by decide) rfl rfl ?_
    refine y_iinc (L' := [some (rv 130), some (iv a1), some (iv a2), some (iv a3), some (iv (bOr a4 (bShl 1 a5))), some (iv (a5 + 1))]) (pc := 120) dX5_whatKind_120 rfl (by decide) rfl rfl ?_
    refine y_goto (tgt := 51) (pc := 123) dX5_whatKind_123 (by decide) ?_
    exact y_sub (ls_s (ls_s (ls_s (ls_s (ls_s (ls_s ls_0)))))) (hk51 M1 a1 a2 a3 (bOr a4 (bShl 1 a5)) (a5 + 1))
def m_X5_whatKind_51 (n : Nat) : Nat → Mem → Int → Int → Int → Int → Int → Rs
  | 0, _, _, _, _, _, _ => none
  | t + 1, M, a1, a2, a3, a4, a5 => if I32 a5 then (if I32 a3 then (if a3 ≤ a5 then (some (a4, M)) else (bd (m_X0_begin n M 0) (fun _ M8 => if I32 a2 then (if a2 = 0 then (if 0 ≤ a1 ∧ a1 < 5 then (wr M8 29 (Int.toNat a1) a5 (fun M14 => m_X5_whatKind_103 n (m_X5_whatKind_51 n t) M14 a1 a2 a3 a4 a5)) else none) else (if 0 ≤ a1 ∧ a1 < 5 then (wr M8 30 (Int.toNat a1) a5 (fun M12 => m_X5_whatKind_103 n (m_X5_whatKind_51 n t) M12 a1 a2 a3 a4 a5)) else none)) else none))) else none) else none
theorem t_X5_whatKind_51 (n : Nat) : ∀ (t : Nat) (M : Mem) (a1 : Int) (a2 : Int) (a3 : Int) (a4 : Int) (a5 : Int), Y RX5 cX5_whatKind 6 6 0 none 51 [some (rv 130), some (iv a1), some (iv a2), some (iv a3), some (iv a4), some (iv a5)] [] M (m_X5_whatKind_51 n t M a1 a2 a3 a4 a5) := by
  intro t
  induction t with
  | zero => intro M a1 a2 a3 a4 a5; exact y_none
  | succ t ih =>
    intro M a1 a2 a3 a4 a5
    rewrite [m_X5_whatKind_51]
    refine y_iload (pc := 51) dX5_whatKind_51 rfl ?_
    refine y_iload_n (pc := 53) dX5_whatKind_53 rfl ?_
    refine y_gd (fun h5 => ?_)
    refine y_gd (fun h6 => ?_)
    refine y_icmp_ge (off := 72) (tgt := 126) (pc := 54) dX5_whatKind_54 (by decide) h5 h6 (fun h7 => ?_) (fun h7 => ?_)
    · refine y_iload (pc := 126) dX5_whatKind_126 rfl ?_
      exact y_iret (pc := 128) dX5_whatKind_128
    · refine y_aload_n (pc := 57) dX5_whatKind_57 rfl ?_
      refine y_getref (pc := 58) (x := 129) g_X5_50 dX5_whatKind_58 ?_
      refine y_aload_n (pc := 61) dX5_whatKind_61 rfl ?_
      refine y_getref (pc := 62) (x := 0) g_X5_10 dX5_whatKind_62 ?_
      refine y_callVv (pc := 65) v_X0_begin l_X5_67 dX5_whatKind_65 (c_X0_begin n _ _) rfl rc_X0 rfl (by decide) (by decide) (Nat.le_of_ble_eq_true rfl) (fun _ M8 _ => ?_)
      refine y_iload_n (pc := 68) dX5_whatKind_68 rfl ?_
      refine y_gd (fun h9 => ?_)
      refine y_if_ne (off := 20) (tgt := 89) (pc := 69) dX5_whatKind_69 (by decide) h9 (fun h10 => ?_) (fun h10 => ?_)
      · refine y_aload_n (pc := 89) dX5_whatKind_89 rfl ?_
        refine y_getref (pc := 90) (x := 129) g_X5_50 dX5_whatKind_90 ?_
        refine y_getref (pc := 93) (x := 22) g_X5_81 dX5_whatKind_93 ?_
        refine y_getref (pc := 96) (x := 30) (g_X5_129 (by decide)) dX5_whatKind_96 ?_
        refine y_iload_n (pc := 99) dX5_whatKind_99 rfl ?_
        refine y_iload (pc := 100) dX5_whatKind_100 rfl ?_
        refine y_gd (fun h11 => ?_)
        refine y_iastw (pc := 102) dX5_whatKind_102 ar_30 h11 (fun M12 => ?_)
        exact y_sub (ls_s (ls_s (ls_s (ls_s (ls_s (ls_s ls_0)))))) (t_X5_whatKind_103 n (m_X5_whatKind_51 n t) ih M12 a1 a2 a3 a4 a5)
      · refine y_aload_n (pc := 72) dX5_whatKind_72 rfl ?_
        refine y_getref (pc := 73) (x := 129) g_X5_50 dX5_whatKind_73 ?_
        refine y_getref (pc := 76) (x := 22) g_X5_81 dX5_whatKind_76 ?_
        refine y_getref (pc := 79) (x := 29) (g_X5_126 (by decide)) dX5_whatKind_79 ?_
        refine y_iload_n (pc := 82) dX5_whatKind_82 rfl ?_
        refine y_iload (pc := 83) dX5_whatKind_83 rfl ?_
        refine y_gd (fun h13 => ?_)
        refine y_iastw (pc := 85) dX5_whatKind_85 ar_29 h13 (fun M14 => ?_)
        refine y_goto (tgt := 103) (pc := 86) dX5_whatKind_86 (by decide) ?_
        exact y_sub (ls_s (ls_s (ls_s (ls_s (ls_s (ls_s ls_0)))))) (t_X5_whatKind_103 n (m_X5_whatKind_51 n t) ih M14 a1 a2 a3 a4 a5)
def m_X5_whatKind_44 (n : Nat) (M : Mem) (a1 : Int) (a2 : Int) (s0 : Int) : Rs := m_X5_whatKind_51 n n M a1 a2 s0 0 0
theorem t_X5_whatKind_44 (n : Nat) (M : Mem) (a1 : Int) (a2 : Int) (s0 : Int) : Y RX5 cX5_whatKind 6 6 0 none 44 [some (rv 130), some (iv a1), some (iv a2), none, none, none] [iv s0] M (m_X5_whatKind_44 n M a1 a2 s0) := by
  unfold m_X5_whatKind_44
  refine y_istore_n (L' := [some (rv 130), some (iv a1), some (iv a2), some (iv s0), none, none]) (pc := 44) dX5_whatKind_44 (by decide) rfl rfl ?_
  refine y_iconst (pc := 45) dX5_whatKind_45 ?_
  refine y_istore (L' := [some (rv 130), some (iv a1), some (iv a2), some (iv s0), some (iv 0), none]) (pc := 46) dX5_whatKind_46 (by decide) rfl rfl ?_
  refine y_iconst (pc := 48) dX5_whatKind_48 ?_
  refine y_istore (L' := [some (rv 130), some (iv a1), some (iv a2), some (iv s0), some (iv 0), some (iv 0)]) (pc := 49) dX5_whatKind_49 (by decide) rfl rfl ?_
  exact y_sub (ls_s (ls_s (ls_s (ls_s (ls_s (ls_s ls_0)))))) (t_X5_whatKind_51 n n M a1 a2 s0 0 0)
def m_X5_whatKind_33 (n : Nat) (M : Mem) (a1 : Int) (a2 : Int) : Rs := if I32 a2 then (if a2 = 0 then (m_X5_whatKind_44 n M a1 a2 8) else (m_X5_whatKind_44 n M a1 a2 10)) else none
theorem t_X5_whatKind_33 (n : Nat) (M : Mem) (a1 : Int) (a2 : Int) : Y RX5 cX5_whatKind 6 6 0 none 33 [some (rv 130), some (iv a1), some (iv a2), none, none, none] [] M (m_X5_whatKind_33 n M a1 a2) := by
  unfold m_X5_whatKind_33
  refine y_iload_n (pc := 33) dX5_whatKind_33 rfl ?_
  refine y_gd (fun h15 => ?_)
  refine y_if_ne (off := 8) (tgt := 42) (pc := 34) dX5_whatKind_34 (by decide) h15 (fun h16 => ?_) (fun h16 => ?_)
  · refine y_bipush (pc := 42) dX5_whatKind_42 (by decide) ?_
    exact y_sub (ls_s (ls_s (ls_s (ls_n (ls_n (ls_n ls_0)))))) (t_X5_whatKind_44 n M a1 a2 10)
  · refine y_bipush (pc := 37) dX5_whatKind_37 (by decide) ?_
    refine y_goto (tgt := 44) (pc := 39) dX5_whatKind_39 (by decide) ?_
    exact y_sub (ls_s (ls_s (ls_s (ls_n (ls_n (ls_n ls_0)))))) (t_X5_whatKind_44 n M a1 a2 8)
def m_X5_whatKind (n : Nat) (M : Mem) (a1 : Int) (a2 : Int) : Rs := bd (m_X4_hasPerson n M 0 a1) (fun r18 M17 => if I32 r18 then (if r18 = 0 then (bd (m_X5_refuse n M17 (-1)) (fun r27 M26 => some (r27, M26))) else (if I32 a2 then (if a2 = 0 then (m_X5_whatKind_33 n M17 a1 a2) else (if a2 = 1 then (m_X5_whatKind_33 n M17 a1 a2) else (bd (m_X5_refuse n M17 (-2)) (fun r25 M24 => some (r25, M24))))) else none)) else none)
theorem y_X5_whatKind (n : Nat) (M : Mem) (a1 : Int) (a2 : Int) : Y RX5 cX5_whatKind 6 6 0 none 0 [some (rv 130), some (iv a1), some (iv a2), none, none, none] [] M (m_X5_whatKind n M a1 a2) := by
  unfold m_X5_whatKind
  refine y_aload_n (pc := 0) dX5_whatKind_0 rfl ?_
  refine y_getref (pc := 1) (x := 0) g_X5_10 dX5_whatKind_1 ?_
  refine y_iload_n (pc := 4) dX5_whatKind_4 rfl ?_
  refine y_callVi (pc := 5) v_X4_hasPerson l_X5_123 dX5_whatKind_5 (c_X4_hasPerson n _ _ _) rfl (rc_X4 (by decide)) rfl (by decide) (by decide) (Nat.le_of_ble_eq_true rfl) (fun r18 M17 _ => ?_)
  refine y_gd (fun h19 => ?_)
  refine y_if_ne (off := 9) (tgt := 17) (pc := 8) dX5_whatKind_8 (by decide) h19 (fun h20 => ?_) (fun h20 => ?_)
  · refine y_iload_n (pc := 17) dX5_whatKind_17 rfl ?_
    refine y_gd (fun h21 => ?_)
    refine y_if_eq (off := 15) (tgt := 33) (pc := 18) dX5_whatKind_18 (by decide) h21 (fun h22 => ?_) (fun h22 => ?_)
    · exact y_sub (ls_s (ls_s (ls_s (ls_n (ls_n (ls_n ls_0)))))) (t_X5_whatKind_33 n M17 a1 a2)
    · refine y_iload_n (pc := 21) dX5_whatKind_21 rfl ?_
      refine y_iconst (pc := 22) dX5_whatKind_22 ?_
      refine y_icmp_eq (off := 10) (tgt := 33) (pc := 23) dX5_whatKind_23 (by decide) h21 (by decide) (fun h23 => ?_) (fun h23 => ?_)
      · exact y_sub (ls_s (ls_s (ls_s (ls_n (ls_n (ls_n ls_0)))))) (t_X5_whatKind_33 n M17 a1 a2)
      · refine y_aload_n (pc := 26) dX5_whatKind_26 rfl ?_
        refine y_bipush (pc := 27) dX5_whatKind_27 (by decide) ?_
        refine y_callVi (pc := 29) v_X5_refuse l_X5_60 dX5_whatKind_29 (c_X5_refuse n _ _) rfl rc_X5 rfl (by decide) (by decide) (Nat.le_of_ble_eq_true rfl) (fun r25 M24 _ => ?_)
        exact y_iret (pc := 32) dX5_whatKind_32
  · refine y_aload_n (pc := 11) dX5_whatKind_11 rfl ?_
    refine y_iconst (pc := 12) dX5_whatKind_12 ?_
    refine y_callVi (pc := 13) v_X5_refuse l_X5_60 dX5_whatKind_13 (c_X5_refuse n _ _) rfl rc_X5 rfl (by decide) (by decide) (Nat.le_of_ble_eq_true rfl) (fun r27 M26 _ => ?_)
    exact y_iret (pc := 16) dX5_whatKind_16
theorem c_X5_whatKind (n : Nat) (M : Mem) (a1 : Int) (a2 : Int) : ∀ res : Int × Mem, m_X5_whatKind n M a1 a2 = some res → CTi yX5_whatKind cX5_whatKind 6 (some .int) 6 [rv 130, iv a1, iv a2] M res := CTi_of (by decide +kernel) rfl (Nat.le_of_ble_eq_true rfl) rfl (y_X5_whatKind n M a1 a2)
def m_X5_airIsAsTheRow_2 (n : Nat) : Nat → Mem → Int → Int → Rs
  | 0, _, _, _ => none
  | t + 1, M, a1, a2 => if I32 a2 then (if (rd M 130 8) ≤ a2 then (some (1, M)) else (bd (m_X0_look n M) (fun _ M3 => bd (m_X0_airOn n M3 a1) (fun r5 M4 => if 0 ≤ a2 ∧ a2 < 12 then (if I32 r5 then (if r5 = (rd M4 133 (Int.toNat a2)) then (wr M4 22 13 ((rd M4 22 13) + 1) (fun M9 => (m_X5_airIsAsTheRow_2 n t) M9 a1 (a2 + 1))) else (some (0, M4))) else none) else none)))) else none
theorem t_X5_airIsAsTheRow_2 (n : Nat) : ∀ (t : Nat) (M : Mem) (a1 : Int) (a2 : Int), Y RX5 cX5_airIsAsTheRow 3 4 1 none 2 [some (rv 130), some (iv a1), some (iv a2)] [] M (m_X5_airIsAsTheRow_2 n t M a1 a2) := by
  intro t
  induction t with
  | zero => intro M a1 a2; exact y_none
  | succ t ih =>
    intro M a1 a2
    rewrite [m_X5_airIsAsTheRow_2]
    refine y_iload_n (pc := 2) dX5_airIsAsTheRow_2 rfl ?_
    refine y_aload_n (pc := 3) dX5_airIsAsTheRow_3 rfl ?_
    refine y_getint (pc := 4) g_X5_41 dX5_airIsAsTheRow_4 ?_
    refine y_gd (fun h1 => ?_)
    refine y_icmp_ge (off := 51) (tgt := 58) (pc := 7) dX5_airIsAsTheRow_7 (by decide) h1 (rd_rng _ _ _) (fun h2 => ?_) (fun h2 => ?_)
    · refine y_iconst (pc := 58) dX5_airIsAsTheRow_58 ?_
      exact y_zret (pc := 59) dX5_airIsAsTheRow_59 (by decide)
    · refine y_aload_n (pc := 10) dX5_airIsAsTheRow_10 rfl ?_
      refine y_getref (pc := 11) (x := 129) g_X5_50 dX5_airIsAsTheRow_11 ?_
      refine y_callVv (pc := 14) v_X0_look l_X5_150 dX5_airIsAsTheRow_14 (c_X0_look n _) rfl rc_X0 rfl (by decide) (by decide) (Nat.le_of_ble_eq_true rfl) (fun _ M3 _ => ?_)
      refine y_aload_n (pc := 17) dX5_airIsAsTheRow_17 rfl ?_
      refine y_getref (pc := 18) (x := 129) g_X5_50 dX5_airIsAsTheRow_18 ?_
      refine y_iload_n (pc := 21) dX5_airIsAsTheRow_21 rfl ?_
      refine y_callVi (pc := 22) v_X0_airOn l_X5_189 dX5_airIsAsTheRow_22 (c_X0_airOn n _ _) rfl rc_X0 rfl (by decide) (by decide) (Nat.le_of_ble_eq_true rfl) (fun r5 M4 _ => ?_)
      refine y_aload_n (pc := 25) dX5_airIsAsTheRow_25 rfl ?_
      refine y_getref (pc := 26) (x := 133) g_X5_38 dX5_airIsAsTheRow_26 ?_
      refine y_iload_n (pc := 29) dX5_airIsAsTheRow_29 rfl ?_
      refine y_gd (fun h6 => ?_)
      refine y_iald (pc := 30) dX5_airIsAsTheRow_30 ar_133 h6 ?_
      refine y_gd (fun h7 => ?_)
      refine y_icmp_eq (off := 5) (tgt := 36) (pc := 31) dX5_airIsAsTheRow_31 (by decide) h7 (rd_rng _ _ _) (fun h8 => ?_) (fun h8 => ?_)
      · refine y_aload_n (pc := 36) dX5_airIsAsTheRow_36 rfl ?_
        refine y_getref (pc := 37) (x := 129) g_X5_50 dX5_airIsAsTheRow_37 ?_
        refine y_getref (pc := 40) (x := 22) g_X5_81 dX5_airIsAsTheRow_40 ?_
        refine y_dup (pc := 43) dX5_airIsAsTheRow_43 rfl ?_
        refine y_getint (pc := 44) (g_X5_116 (by decide)) dX5_airIsAsTheRow_44 ?_
        refine y_iconst (pc := 47) dX5_airIsAsTheRow_47 ?_
        refine y_iadd (pc := 48) dX5_airIsAsTheRow_48 ?_
        refine y_putintw (pc := 49) (pf_X5_116 (by decide)) dX5_airIsAsTheRow_49 (fun M9 => ?_)
        refine y_iinc (L' := [some (rv 130), some (iv a1), some (iv (a2 + 1))]) (pc := 52) dX5_airIsAsTheRow_52 rfl (by decide) rfl rfl ?_
        refine y_goto (tgt := 2) (pc := 55) dX5_airIsAsTheRow_55 (by decide) ?_
        exact y_sub (ls_s (ls_s (ls_s ls_0))) (ih M9 a1 (a2 + 1))
      · refine y_iconst (pc := 34) dX5_airIsAsTheRow_34 ?_
        exact y_zret (pc := 35) dX5_airIsAsTheRow_35 (by decide)
def m_X5_airIsAsTheRow (n : Nat) (M : Mem) (a1 : Int) : Rs := m_X5_airIsAsTheRow_2 n n M a1 0
theorem y_X5_airIsAsTheRow (n : Nat) (M : Mem) (a1 : Int) : Y RX5 cX5_airIsAsTheRow 3 4 1 none 0 [some (rv 130), some (iv a1), none] [] M (m_X5_airIsAsTheRow n M a1) := by
  unfold m_X5_airIsAsTheRow
  refine y_iconst (pc := 0) dX5_airIsAsTheRow_0 ?_
  refine y_istore_n (L' := [some (rv 130), some (iv a1), some (iv 0)]) (pc := 1) dX5_airIsAsTheRow_1 (by decide) rfl rfl ?_
  exact y_sub (ls_s (ls_s (ls_s ls_0))) (t_X5_airIsAsTheRow_2 n n M a1 0)
theorem c_X5_airIsAsTheRow (n : Nat) (M : Mem) (a1 : Int) : ∀ res : Int × Mem, m_X5_airIsAsTheRow n M a1 = some res → CTi yX5_airIsAsTheRow cX5_airIsAsTheRow 3 (some .boolean) 4 [rv 130, iv a1] M res := CTz_of (by decide +kernel) rfl (Nat.le_of_ble_eq_true rfl) rfl (y_X5_airIsAsTheRow n M a1)
