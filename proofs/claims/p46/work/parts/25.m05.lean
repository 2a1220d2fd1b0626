def m_X5_personThen_54 (n : Nat) (M : Mem) (a1 : Int) (a2 : Int) (a3 : Int) : Rs := bd (m_X5_thinkOn n M a2) (fun _ M1 => if I32 a3 then (if a3 = 0 then (if 0 ≤ a1 ∧ a1 < 5 then (some ((rd M1 32 (Int.toNat a1)), M1)) else none) else (bd (m_X4_worthsOf n M1 22 a1) (fun r5 M4 => some (r5, M4)))) else none)
theorem t_X5_personThen_54 (n : Nat) (M : Mem) (a1 : Int) (a2 : Int) (a3 : Int) : Y RX5 cX5_personThen 5 6 0 none 54 [some (rv 130), some (iv a1), some (iv a2), some (iv a3), none] [] M (m_X5_personThen_54 n M a1 a2 a3) := by
  unfold m_X5_personThen_54
  refine y_aload_n (pc := 54) dX5_personThen_54 rfl ?_
  refine y_iload_n (pc := 55) dX5_personThen_55 rfl ?_
  refine y_callVv (pc := 56) v_X5_thinkOn l_X5_227 dX5_personThen_56 (c_X5_thinkOn n _ _) (fun _ h => nomatch h) rfl rc_X5 rfl (by decide) (by decide) (Nat.le_of_ble_eq_true rfl) (fun _ M1 _ => ?_)
  refine y_iload_n (pc := 59) dX5_personThen_59 rfl ?_
  refine y_gd (fun h2 => ?_)
  refine y_if_ne (off := 18) (tgt := 78) (pc := 60) dX5_personThen_60 (by decide) h2 (fun h3 => ?_) (fun h3 => ?_)
  · refine y_aload_n (pc := 78) dX5_personThen_78 rfl ?_
    refine y_getref (pc := 79) (x := 129) g_X5_50 dX5_personThen_79 ?_
    refine y_getref (pc := 82) (x := 22) g_X5_81 dX5_personThen_82 ?_
    refine y_iload_n (pc := 85) dX5_personThen_85 rfl ?_
    refine y_callVi (pc := 86) v_X4_worthsOf l_X5_156 dX5_personThen_86 (c_X4_worthsOf n _ _ _) (fun _ h => nomatch h) rfl (rc_X4 (by decide)) rfl (by decide) (by decide) (Nat.le_of_ble_eq_true rfl) (fun r5 M4 _ => ?_)
    exact y_iret (pc := 89) dX5_personThen_89
  · refine y_aload_n (pc := 63) dX5_personThen_63 rfl ?_
    refine y_getref (pc := 64) (x := 129) g_X5_50 dX5_personThen_64 ?_
    refine y_getref (pc := 67) (x := 22) g_X5_81 dX5_personThen_67 ?_
    refine y_getref (pc := 70) (x := 32) (g_X5_135 (by decide)) dX5_personThen_70 ?_
    refine y_iload_n (pc := 73) dX5_personThen_73 rfl ?_
    refine y_gd (fun h6 => ?_)
    refine y_iald (pc := 74) dX5_personThen_74 ar_32 h6 ?_
    refine y_goto (tgt := 89) (pc := 75) dX5_personThen_75 (by decide) ?_
    exact y_iret (pc := 89) dX5_personThen_89
def m_X5_personThen (n : Nat) (M : Mem) (a1 : Int) (a2 : Int) (a3 : Int) : Rs := bd (m_X4_hasPerson n M 0 a1) (fun r8 M7 => if I32 r8 then (if r8 = 0 then (bd (m_X5_refuse n M7 (-1)) (fun r23 M22 => some (r23, M22))) else (bd (m_X5_outOfRange n M7 a2 0 60) (fun r12 M11 => if I32 r12 then (if r12 = 0 then (if I32 a3 then (if a3 = 0 then (m_X5_personThen_54 n M11 a1 a2 a3) else (if a3 = 1 then (m_X5_personThen_54 n M11 a1 a2 a3) else (bd (m_X5_refuse n M11 (-2)) (fun r19 M18 => some (r19, M18))))) else none) else (bd (m_X5_refuse n M11 r12) (fun r21 M20 => some (r21, M20)))) else none))) else none)
theorem y_X5_personThen (n : Nat) (M : Mem) (a1 : Int) (a2 : Int) (a3 : Int) : Y RX5 cX5_personThen 5 6 0 none 0 [some (rv 130), some (iv a1), some (iv a2), some (iv a3), none] [] M (m_X5_personThen n M a1 a2 a3) := by
  unfold m_X5_personThen
  refine y_aload_n (pc := 0) dX5_personThen_0 rfl ?_
  refine y_getref (pc := 1) (x := 0) g_X5_10 dX5_personThen_1 ?_
  refine y_iload_n (pc := 4) dX5_personThen_4 rfl ?_
  refine y_callVi (pc := 5) v_X4_hasPerson l_X5_123 dX5_personThen_5 (c_X4_hasPerson n _ _ _) (fun _ h => nomatch h) rfl (rc_X4 (by decide)) rfl (by decide) (by decide) (Nat.le_of_ble_eq_true rfl) (fun r8 M7 _ => ?_)
  refine y_gd (fun h9 => ?_)
  refine y_if_ne (off := 9) (tgt := 17) (pc := 8) dX5_personThen_8 (by decide) h9 (fun h10 => ?_) (fun h10 => ?_)
  · refine y_iload_n (pc := 17) dX5_personThen_17 rfl ?_
    refine y_iconst (pc := 18) dX5_personThen_18 ?_
    refine y_bipush (pc := 19) dX5_personThen_19 (by decide) ?_
    refine y_callSi (pc := 21) s_X5_outOfRange l_X5_220 dX5_personThen_21 (c_X5_outOfRange n _ _ _ _) (fun _ h => nomatch h) rfl rfl (by decide) (by decide) (Nat.le_of_ble_eq_true rfl) (fun r12 M11 _ => ?_)
    refine y_istore (L' := [some (rv 130), some (iv a1), some (iv a2), some (iv a3), some (iv r12)]) (pc := 24) dX5_personThen_24 (by decide) rfl rfl ?_
    refine y_iload (pc := 26) dX5_personThen_26 rfl ?_
    refine y_gd (fun h13 => ?_)
    refine y_if_eq (off := 10) (tgt := 38) (pc := 28) dX5_personThen_28 (by decide) h13 (fun h14 => ?_) (fun h14 => ?_)
    · refine y_iload_n (pc := 38) dX5_personThen_38 rfl ?_
      refine y_gd (fun h15 => ?_)
      refine y_if_eq (off := 15) (tgt := 54) (pc := 39) dX5_personThen_39 (by decide) h15 (fun h16 => ?_) (fun h16 => ?_)
      · exact y_sub (ls_s (ls_s (ls_s (ls_s (ls_n ls_0))))) (t_X5_personThen_54 n M11 a1 a2 a3)
      · refine y_iload_n (pc := 42) dX5_personThen_42 rfl ?_
        refine y_iconst (pc := 43) dX5_personThen_43 ?_
        refine y_icmp_eq (off := 10) (tgt := 54) (pc := 44) dX5_personThen_44 (by decide) h15 (by decide) (fun h17 => ?_) (fun h17 => ?_)
        · exact y_sub (ls_s (ls_s (ls_s (ls_s (ls_n ls_0))))) (t_X5_personThen_54 n M11 a1 a2 a3)
        · refine y_aload_n (pc := 47) dX5_personThen_47 rfl ?_
          refine y_bipush (pc := 48) dX5_personThen_48 (by decide) ?_
          refine y_callVi (pc := 50) v_X5_refuse l_X5_60 dX5_personThen_50 (c_X5_refuse n _ _) (fun _ h => nomatch h) rfl rc_X5 rfl (by decide) (by decide) (Nat.le_of_ble_eq_true rfl) (fun r19 M18 _ => ?_)
          exact y_iret (pc := 53) dX5_personThen_53
    · refine y_aload_n (pc := 31) dX5_personThen_31 rfl ?_
      refine y_iload (pc := 32) dX5_personThen_32 rfl ?_
      refine y_callVi (pc := 34) v_X5_refuse l_X5_60 dX5_personThen_34 (c_X5_refuse n _ _) (fun _ h => nomatch h) rfl rc_X5 rfl (by decide) (by decide) (Nat.le_of_ble_eq_true rfl) (fun r21 M20 _ => ?_)
      exact y_iret (pc := 37) dX5_personThen_37
  · refine y_aload_n (pc := 11) dX5_personThen_11 rfl ?_
    refine y_iconst (pc := 12) dX5_personThen_12 ?_
    refine y_callVi (pc := 13) v_X5_refuse l_X5_60 dX5_personThen_13 (c_X5_refuse n _ _) (fun _ h => nomatch h) rfl rc_X5 rfl (by decide) (by decide) (Nat.le_of_ble_eq_true rfl) (fun r23 M22 _ => ?_)
    exact y_iret (pc := 16) dX5_personThen_16
theorem c_X5_personThen (n : Nat) (M : Mem) (a1 : Int) (a2 : Int) (a3 : Int) : ∀ res : Int × Mem, m_X5_personThen n M a1 a2 a3 = some res → CTi none yX5_personThen cX5_personThen 5 (some .int) 6 [rv 130, iv a1, iv a2, iv a3] M res := CTi_of (by decide +kernel) rfl (Nat.le_of_ble_eq_true rfl) rfl (y_X5_personThen n M a1 a2 a3)
def m_X5_clears_26 (n : Nat) : Nat → Mem → Int → Int → Rs
  | 0, _, _, _ => none
  | t + 1, M, a1, a2 => if I32 a2 then (if 60 < a2 then (some ((-9), M)) else (bd (m_X0_isInFog n M a1) (fun r4 M3 => if I32 r4 then (if r4 = 0 then (some (a2, M3)) else (bd (m_X0_goOn n M3 1) (fun _ M7 => (m_X5_clears_26 n t) M7 a1 (a2 + 1)))) else none))) else none
theorem t_X5_clears_26 (n : Nat) : ∀ (t : Nat) (M : Mem) (a1 : Int) (a2 : Int), Y RX5 cX5_clears 3 5 0 none 26 [some (rv 130), some (iv a1), some (iv a2)] [] M (m_X5_clears_26 n t M a1 a2) := by
  intro t
  induction t with
  | zero => intro M a1 a2; exact y_none
  | succ t ih =>
    intro M a1 a2
    rewrite [m_X5_clears_26]
    refine y_iload_n (pc := 26) dX5_clears_26 rfl ?_
    refine y_bipush (pc := 27) dX5_clears_27 (by decide) ?_
    refine y_gd (fun h1 => ?_)
    refine y_icmp_gt (off := 30) (tgt := 59) (pc := 29) dX5_clears_29 (by decide) h1 (by decide) (fun h2 => ?_) (fun h2 => ?_)
    · refine y_bipush (pc := 59) dX5_clears_59 (by decide) ?_
      exact y_iret (pc := 61) dX5_clears_61
    · refine y_aload_n (pc := 32) dX5_clears_32 rfl ?_
      refine y_getref (pc := 33) (x := 129) g_X5_50 dX5_clears_33 ?_
      refine y_iload_n (pc := 36) dX5_clears_36 rfl ?_
      refine y_callVi (pc := 37) v_X0_isInFog l_X5_195 dX5_clears_37 (c_X0_isInFog n _ _) (fun _ h => nomatch h) rfl rc_X0 rfl (by decide) (by decide) (Nat.le_of_ble_eq_true rfl) (fun r4 M3 _ => ?_)
      refine y_gd (fun h5 => ?_)
      refine y_if_ne (off := 5) (tgt := 45) (pc := 40) dX5_clears_40 (by decide) h5 (fun h6 => ?_) (fun h6 => ?_)
      · refine y_aload_n (pc := 45) dX5_clears_45 rfl ?_
        refine y_getref (pc := 46) (x := 129) g_X5_50 dX5_clears_46 ?_
        refine y_iconst (pc := 49) dX5_clears_49 ?_
        refine y_callVv (pc := 50) v_X0_goOn l_X5_119 dX5_clears_50 (c_X0_goOn n _ _) (fun _ h => nomatch h) rfl rc_X0 rfl (by decide) (by decide) (Nat.le_of_ble_eq_true rfl) (fun _ M7 _ => ?_)
        refine y_iinc (L' := [some (rv 130), some (iv a1), some (iv (a2 + 1))]) (pc := 53) dX5_clears_53 rfl (by decide) rfl rfl ?_
        refine y_goto (tgt := 26) (pc := 56) dX5_clears_56 (by decide) ?_
        exact y_sub (ls_s (ls_s (ls_s ls_0))) (ih M7 a1 (a2 + 1))
      · refine y_iload_n (pc := 43) dX5_clears_43 rfl ?_
        exact y_iret (pc := 44) dX5_clears_44
def m_X5_clears (n : Nat) (M : Mem) (a1 : Int) : Rs := bd (m_X5_isCell n M a1) (fun r9 M8 => if I32 r9 then (if r9 = 0 then (bd (m_X5_refuse n M8 (-1)) (fun r14 M13 => some (r14, M13))) else (bd (m_X0_begin n M8 0) (fun _ M12 => m_X5_clears_26 n n M12 a1 0))) else none)
theorem y_X5_clears (n : Nat) (M : Mem) (a1 : Int) : Y RX5 cX5_clears 3 5 0 none 0 [some (rv 130), some (iv a1), none] [] M (m_X5_clears n M a1) := by
  unfold m_X5_clears
  refine y_iload_n (pc := 0) dX5_clears_0 rfl ?_
  refine y_callSi (pc := 1) s_X5_isCell l_X5_186 dX5_clears_1 (c_X5_isCell n _ _) (fun _ h => nomatch h) rfl rfl (by decide) (by decide) (Nat.le_of_ble_eq_true rfl) (fun r9 M8 _ => ?_)
  refine y_gd (fun h10 => ?_)
  refine y_if_ne (off := 9) (tgt := 13) (pc := 4) dX5_clears_4 (by decide) h10 (fun h11 => ?_) (fun h11 => ?_)
  · refine y_aload_n (pc := 13) dX5_clears_13 rfl ?_
    refine y_getref (pc := 14) (x := 129) g_X5_50 dX5_clears_14 ?_
    refine y_aload_n (pc := 17) dX5_clears_17 rfl ?_
    refine y_getref (pc := 18) (x := 0) g_X5_10 dX5_clears_18 ?_
    refine y_callVv (pc := 21) v_X0_begin l_X5_67 dX5_clears_21 (c_X0_begin n _ _) (fun _ h => nomatch h) rfl rc_X0 rfl (by decide) (by decide) (Nat.le_of_ble_eq_true rfl) (fun _ M12 _ => ?_)
    refine y_iconst (pc := 24) dX5_clears_24 ?_
    refine y_istore_n (L' := [some (rv 130), some (iv a1), some (iv 0)]) (pc := 25) dX5_clears_25 (by decide) rfl rfl ?_
    exact y_sub (ls_s (ls_s (ls_s ls_0))) (t_X5_clears_26 n n M12 a1 0)
  · refine y_aload_n (pc := 7) dX5_clears_7 rfl ?_
    refine y_iconst (pc := 8) dX5_clears_8 ?_
    refine y_callVi (pc := 9) v_X5_refuse l_X5_60 dX5_clears_9 (c_X5_refuse n _ _) (fun _ h => nomatch h) rfl rc_X5 rfl (by decide) (by decide) (Nat.le_of_ble_eq_true rfl) (fun r14 M13 _ => ?_)
    exact y_iret (pc := 12) dX5_clears_12
theorem c_X5_clears (n : Nat) (M : Mem) (a1 : Int) : ∀ res : Int × Mem, m_X5_clears n M a1 = some res → CTi none yX5_clears cX5_clears 3 (some .int) 5 [rv 130, iv a1] M res := CTi_of (by decide +kernel) rfl (Nat.le_of_ble_eq_true rfl) rfl (y_X5_clears n M a1)
def m_X5_stand_63 (n : Nat) : Nat → Mem → Int → Int → Int → Int → Int → Int → Rs
  | 0, _, _, _, _, _, _, _ => none
  | t + 1, M, a1, a2, a3, a5, a6, a7 => if I32 a7 then (if 24 ≤ a7 then (if I32 a3 then (if a3 = 0 then (some (a5, M)) else (some (a6, M))) else none) else (bd (m_X0_begin n M 0) (fun _ M5 => if 0 ≤ a1 ∧ a1 < 5 then (wr M5 32 (Int.toNat a1) a7 (fun M7 => bd (m_X0_goOn n M7 a2) (fun _ M8 => bd (m_X4_worthsOf n M8 22 a1) (fun r10 M9 => if I32 r10 then (if I32 a6 then (if r10 ≤ a6 then ((m_X5_stand_63 n t) M9 a1 a2 a3 a5 a6 (a7 + 1)) else ((m_X5_stand_63 n t) M9 a1 a2 a3 a7 r10 (a7 + 1))) else none) else none)))) else none))) else none
theorem t_X5_stand_63 (n : Nat) : ∀ (t : Nat) (M : Mem) (a1 : Int) (a2 : Int) (a3 : Int) (a5 : Int) (a6 : Int) (a7 : Int), Y RX5 cX5_stand 9 5 0 none 63 [some (rv 130), some (iv a1), some (iv a2), some (iv a3), none, some (iv a5), some (iv a6), some (iv a7), none] [] M (m_X5_stand_63 n t M a1 a2 a3 a5 a6 a7) := by
  intro t
  induction t with
  | zero => intro M a1 a2 a3 a5 a6 a7; exact y_none
  | succ t ih =>
    intro M a1 a2 a3 a5 a6 a7
    rewrite [m_X5_stand_63]
    refine y_iload (pc := 63) dX5_stand_63 rfl ?_
    refine y_bipush (pc := 65) dX5_stand_65 (by decide) ?_
    refine y_gd (fun h1 => ?_)
    refine y_icmp_ge (off := 70) (tgt := 137) (pc := 67) dX5_stand_67 (by decide) h1 (by decide) (fun h2 => ?_) (fun h2 => ?_)
    · refine y_iload_n (pc := 137) dX5_stand_137 rfl ?_
      refine y_gd (fun h3 => ?_)
      refine y_if_ne (off := 8) (tgt := 146) (pc := 138) dX5_stand_138 (by decide) h3 (fun h4 => ?_) (fun h4 => ?_)
      · refine y_iload (pc := 146) dX5_stand_146 rfl ?_
        exact y_iret (pc := 148) dX5_stand_148
      · refine y_iload (pc := 141) dX5_stand_141 rfl ?_
        refine y_goto (tgt := 148) (pc := 143) dX5_stand_143 (by decide) ?_
        exact y_iret (pc := 148) dX5_stand_148
    · refine y_aload_n (pc := 70) dX5_stand_70 rfl ?_
      refine y_getref (pc := 71) (x := 129) g_X5_50 dX5_stand_71 ?_
      refine y_aload_n (pc := 74) dX5_stand_74 rfl ?_
      refine y_getref (pc := 75) (x := 0) g_X5_10 dX5_stand_75 ?_
      refine y_callVv (pc := 78) v_X0_begin l_X5_67 dX5_stand_78 (c_X0_begin n _ _) (fun _ h => nomatch h) rfl rc_X0 rfl (by decide) (by decide) (Nat.le_of_ble_eq_true rfl) (fun _ M5 _ => ?_)
      refine y_aload_n (pc := 81) dX5_stand_81 rfl ?_
      refine y_getref (pc := 82) (x := 129) g_X5_50 dX5_stand_82 ?_
      refine y_getref (pc := 85) (x := 22) g_X5_81 dX5_stand_85 ?_
      refine y_getref (pc := 88) (x := 32) (g_X5_135 (by decide)) dX5_stand_88 ?_
      refine y_iload_n (pc := 91) dX5_stand_91 rfl ?_
      refine y_iload (pc := 92) dX5_stand_92 rfl ?_
      refine y_gd (fun h6 => ?_)
      refine y_iastw (pc := 94) dX5_stand_94 ar_32 h6 (fun M7 => ?_)
      refine y_aload_n (pc := 95) dX5_stand_95 rfl ?_
      refine y_getref (pc := 96) (x := 129) g_X5_50 dX5_stand_96 ?_
      refine y_iload_n (pc := 99) dX5_stand_99 rfl ?_
      refine y_callVv (pc := 100) v_X0_goOn l_X5_119 dX5_stand_100 (c_X0_goOn n _ _) (fun _ h => nomatch h) rfl rc_X0 rfl (by decide) (by decide) (Nat.le_of_ble_eq_true rfl) (fun _ M8 _ => ?_)
      refine y_aload_n (pc := 103) dX5_stand_103 rfl ?_
      refine y_getref (pc := 104) (x := 129) g_X5_50 dX5_stand_104 ?_
      refine y_getref (pc := 107) (x := 22) g_X5_81 dX5_stand_107 ?_
      refine y_iload_n (pc := 110) dX5_stand_110 rfl ?_
      refine y_callVi (pc := 111) v_X4_worthsOf l_X5_156 dX5_stand_111 (c_X4_worthsOf n _ _ _) (fun _ h => nomatch h) rfl (rc_X4 (by decide)) rfl (by decide) (by decide) (Nat.le_of_ble_eq_true rfl) (fun r10 M9 _ => ?_)
      refine y_istore (L' := [some (rv 130), some (iv a1), some (iv a2), some (iv a3), none, some (iv a5), some (iv a6), some (iv a7), some (iv r10)]) (pc := 114) dX5_stand_114 (by decide) rfl rfl ?_
      refine y_iload (pc := 116) dX5_stand_116 rfl ?_
      refine y_iload (pc := 118) dX5_stand_118 rfl ?_
      refine y_gd (fun h11 => ?_)
      refine y_gd (fun h12 => ?_)
      refine y_icmp_le (off := 11) (tgt := 131) (pc := 120) dX5_stand_120 (by decide) h11 h12 (fun h13 => ?_) (fun h13 => ?_)
      · refine y_iinc (L' := [some (rv 130), some (iv a1), some (iv a2), some (iv a3), none, some (iv a5), some (iv a6), some (iv (a7 + 1)), some (iv r10)]) (pc := 131) dX5_stand_131 rfl (by decide) rfl rfl ?_
        refine y_goto (tgt := 63) (pc := 134) dX5_stand_134 (by decide) ?_
        exact y_sub (ls_s (ls_s (ls_s (ls_s (ls_n (ls_s (ls_s (ls_s (ls_n ls_0))))))))) (ih M9 a1 a2 a3 a5 a6 (a7 + 1))
      · refine y_iload (pc := 123) dX5_stand_123 rfl ?_
        refine y_istore (L' := [some (rv 130), some (iv a1), some (iv a2), some (iv a3), none, some (iv a5), some (iv r10), some (iv a7), some (iv r10)]) (pc := 125) dX5_stand_125 (by decide) rfl rfl ?_
        refine y_iload (pc := 127) dX5_stand_127 rfl ?_
        refine y_istore (L' := [some (rv 130), some (iv a1), some (iv a2), some (iv a3), none, some (iv a7), some (iv r10), some (iv a7), some (iv r10)]) (pc := 129) dX5_stand_129 (by decide) rfl rfl ?_
        refine y_iinc (L' := [some (rv 130), some (iv a1), some (iv a2), some (iv a3), none, some (iv a7), some (iv r10), some (iv (a7 + 1)), some (iv r10)]) (pc := 131) dX5_stand_131 rfl (by decide) rfl rfl ?_
        refine y_goto (tgt := 63) (pc := 134) dX5_stand_134 (by decide) ?_
        exact y_sub (ls_s (ls_s (ls_s (ls_s (ls_n (ls_s (ls_s (ls_s (ls_n ls_0))))))))) (ih M9 a1 a2 a3 a7 r10 (a7 + 1))
def m_X5_stand_54 (n : Nat) (M : Mem) (a1 : Int) (a2 : Int) (a3 : Int) : Rs := m_X5_stand_63 n n M a1 a2 a3 (-1) (-1) 0
theorem t_X5_stand_54 (n : Nat) (M : Mem) (a1 : Int) (a2 : Int) (a3 : Int) : Y RX5 cX5_stand 9 5 0 none 54 [some (rv 130), some (iv a1), some (iv a2), some (iv a3), none, none, none, none, none] [] M (m_X5_stand_54 n M a1 a2 a3) := by
  unfold m_X5_stand_54
  refine y_iconst (pc := 54) dX5_stand_54 ?_
  refine y_istore (L' := [some (rv 130), some (iv a1), some (iv a2), some (iv a3), none, some (iv (-1)), none, none, none]) (pc := 55) dX5_stand_55 (by decide) rfl rfl ?_
  refine y_iconst (pc := 57) dX5_stand_57 ?_
  refine y_istore (L' := [some (rv 130), some (iv a1), some (iv a2), some (iv a3), none, some (iv (-1)), some (iv (-1)), none, none]) (pc := 58) dX5_stand_58 (by decide) rfl rfl ?_
  refine y_iconst (pc := 60) dX5_stand_60 ?_
  refine y_istore (L' := [some (rv 130), some (iv a1), some (iv a2), some (iv a3), none, some (iv (-1)), some (iv (-1)), some (iv 0), none]) (pc := 61) dX5_stand_61 (by decide) rfl rfl ?_
  exact y_sub (ls_s (ls_s (ls_s (ls_s (ls_n (ls_s (ls_s (ls_s (ls_n ls_0))))))))) (t_X5_stand_63 n n M a1 a2 a3 (-1) (-1) 0)
def m_X5_stand (n : Nat) (M : Mem) (a1 : Int) (a2 : Int) (a3 : Int) : Rs := bd (m_X4_hasPerson n M 0 a1) (fun r15 M14 => if I32 r15 then (if r15 = 0 then (bd (m_X5_refuse n M14 (-1)) (fun r30 M29 => some (r30, M29))) else (bd (m_X5_outOfRange n M14 a2 0 30) (fun r19 M18 => if I32 r19 then (if r19 = 0 then (if I32 a3 then (if a3 = 0 then (m_X5_stand_54 n M18 a1 a2 a3) else (if a3 = 1 then (m_X5_stand_54 n M18 a1 a2 a3) else (bd (m_X5_refuse n M18 (-2)) (fun r26 M25 => some (r26, M25))))) else none) else (bd (m_X5_refuse n M18 r19) (fun r28 M27 => some (r28, M27)))) else none))) else none)
theorem y_X5_stand (n : Nat) (M : Mem) (a1 : Int) (a2 : Int) (a3 : Int) : Y RX5 cX5_stand 9 5 0 none 0 [some (rv 130), some (iv a1), some (iv a2), some (iv a3), none, none, none, none, none] [] M (m_X5_stand n M a1 a2 a3) := by
  unfold m_X5_stand
  refine y_aload_n (pc := 0) dX5_stand_0 rfl ?_
  refine y_getref (pc := 1) (x := 0) g_X5_10 dX5_stand_1 ?_
  refine y_iload_n (pc := 4) dX5_stand_4 rfl ?_
  refine y_callVi (pc := 5) v_X4_hasPerson l_X5_123 dX5_stand_5 (c_X4_hasPerson n _ _ _) (fun _ h => nomatch h) rfl (rc_X4 (by decide)) rfl (by decide) (by decide) (Nat.le_of_ble_eq_true rfl) (fun r15 M14 _ => ?_)
  refine y_gd (fun h16 => ?_)
  refine y_if_ne (off := 9) (tgt := 17) (pc := 8) dX5_stand_8 (by decide) h16 (fun h17 => ?_) (fun h17 => ?_)
  · refine y_iload_n (pc := 17) dX5_stand_17 rfl ?_
    refine y_iconst (pc := 18) dX5_stand_18 ?_
    refine y_bipush (pc := 19) dX5_stand_19 (by decide) ?_
    refine y_callSi (pc := 21) s_X5_outOfRange l_X5_220 dX5_stand_21 (c_X5_outOfRange n _ _ _ _) (fun _ h => nomatch h) rfl rfl (by decide) (by decide) (Nat.le_of_ble_eq_true rfl) (fun r19 M18 _ => ?_)
    refine y_istore (L' := [some (rv 130), some (iv a1), some (iv a2), some (iv a3), some (iv r19), none, none, none, none]) (pc := 24) dX5_stand_24 (by decide) rfl rfl ?_
    refine y_iload (pc := 26) dX5_stand_26 rfl ?_
    refine y_gd (fun h20 => ?_)
    refine y_if_eq (off := 10) (tgt := 38) (pc := 28) dX5_stand_28 (by decide) h20 (fun h21 => ?_) (fun h21 => ?_)
    · refine y_iload_n (pc := 38) dX5_stand_38 rfl ?_
      refine y_gd (fun h22 => ?_)
      refine y_if_eq (off := 15) (tgt := 54) (pc := 39) dX5_stand_39 (by decide) h22 (fun h23 => ?_) (fun h23 => ?_)
      · exact y_sub (ls_s (ls_s (ls_s (ls_s (ls_n (ls_n (ls_n (ls_n (ls_n ls_0))))))))) (t_X5_stand_54 n M18 a1 a2 a3)
      · refine y_iload_n (pc := 42) dX5_stand_42 rfl ?_
        refine y_iconst (pc := 43) dX5_stand_43 ?_
        refine y_icmp_eq (off := 10) (tgt := 54) (pc := 44) dX5_stand_44 (by decide) h22 (by decide) (fun h24 => ?_) (fun h24 => ?_)
        · exact y_sub (ls_s (ls_s (ls_s (ls_s (ls_n (ls_n (ls_n (ls_n (ls_n ls_0))))))))) (t_X5_stand_54 n M18 a1 a2 a3)
        · refine y_aload_n (pc := 47) dX5_stand_47 rfl ?_
          refine y_bipush (pc := 48) dX5_stand_48 (by decide) ?_
          refine y_callVi (pc := 50) v_X5_refuse l_X5_60 dX5_stand_50 (c_X5_refuse n _ _) (fun _ h => nomatch h) rfl rc_X5 rfl (by decide) (by decide) (Nat.le_of_ble_eq_true rfl) (fun r26 M25 _ => ?_)
          exact y_iret (pc := 53) dX5_stand_53
    · refine y_aload_n (pc := 31) dX5_stand_31 rfl ?_
      refine y_iload (pc := 32) dX5_stand_32 rfl ?_
      refine y_callVi (pc := 34) v_X5_refuse l_X5_60 dX5_stand_34 (c_X5_refuse n _ _) (fun _ h => nomatch h) rfl rc_X5 rfl (by decide) (by decide) (Nat.le_of_ble_eq_true rfl) (fun r28 M27 _ => ?_)
      exact y_iret (pc := 37) dX5_stand_37
  · refine y_aload_n (pc := 11) dX5_stand_11 rfl ?_
    refine y_iconst (pc := 12) dX5_stand_12 ?_
    refine y_callVi (pc := 13) v_X5_refuse l_X5_60 dX5_stand_13 (c_X5_refuse n _ _) (fun _ h => nomatch h) rfl rc_X5 rfl (by decide) (by decide) (Nat.le_of_ble_eq_true rfl) (fun r30 M29 _ => ?_)
    exact y_iret (pc := 16) dX5_stand_16
theorem c_X5_stand (n : Nat) (M : Mem) (a1 : Int) (a2 : Int) (a3 : Int) : ∀ res : Int × Mem, m_X5_stand n M a1 a2 a3 = some res → CTi none yX5_stand cX5_stand 9 (some .int) 5 [rv 130, iv a1, iv a2, iv a3] M res := CTi_of (by decide +kernel) rfl (Nat.le_of_ble_eq_true rfl) rfl (y_X5_stand n M a1 a2 a3)
def m_X5_islands_12 (n : Nat) (M : Mem) : Rs := bd (m_X5_refuse n M (-1)) (fun r2 M1 => some (r2, M1))
theorem t_X5_islands_12 (n : Nat) (M : Mem) : Y RX5 cX5_islands 3 5 0 none 12 [some (rv 130), none, none] [] M (m_X5_islands_12 n M) := by
  unfold m_X5_islands_12
  refine y_aload_n (pc := 12) dX5_islands_12 rfl ?_
  refine y_iconst (pc := 13) dX5_islands_13 ?_
  refine y_callVi (pc := 14) v_X5_refuse l_X5_60 dX5_islands_14 (c_X5_refuse n _ _) (fun _ h => nomatch h) rfl rc_X5 rfl (by decide) (by decide) (Nat.le_of_ble_eq_true rfl) (fun r2 M1 _ => ?_)
  exact y_iret (pc := 17) dX5_islands_17
def m_X5_islands (n : Nat) (M : Mem) (a1 : Int) : Rs := if I32 a1 then (if a1 < (-2) then (m_X5_islands_12 n M) else (if a1 < 24 then (bd (m_X0_begin n M 0) (fun _ M6 => bd (m_X0_foggyCells n M6) (fun r8 M7 => if a1 < 0 then (if a1 = (-1) then (bd (m_X2_howMany n M7 r8) (fun r14 M13 => some (r14, M13))) else (bd (m_X2_greatest n M7 r8) (fun r12 M11 => some (r12, M11)))) else (bd (m_X2_pieceWith n M7 a1 r8) (fun r16 M15 => some (r16, M15)))))) else (m_X5_islands_12 n M))) else none
theorem y_X5_islands (n : Nat) (M : Mem) (a1 : Int) : Y RX5 cX5_islands 3 5 0 none 0 [some (rv 130), some (iv a1), none] [] M (m_X5_islands n M a1) := by
  unfold m_X5_islands
  refine y_iload_n (pc := 0) dX5_islands_0 rfl ?_
  refine y_bipush (pc := 1) dX5_islands_1 (by decide) ?_
  refine y_gd (fun h3 => ?_)
  refine y_icmp_lt (off := 9) (tgt := 12) (pc := 3) dX5_islands_3 (by decide) h3 (by decide) (fun h4 => ?_) (fun h4 => ?_)
  · exact y_sub (ls_s (ls_n (ls_n ls_0))) (t_X5_islands_12 n M)
  · refine y_iload_n (pc := 6) dX5_islands_6 rfl ?_
    refine y_bipush (pc := 7) dX5_islands_7 (by decide) ?_
    refine y_icmp_lt (off := 9) (tgt := 18) (pc := 9) dX5_islands_9 (by decide) h3 (by decide) (fun h5 => ?_) (fun h5 => ?_)
    · refine y_aload_n (pc := 18) dX5_islands_18 rfl ?_
      refine y_getref (pc := 19) (x := 129) g_X5_50 dX5_islands_19 ?_
      refine y_aload_n (pc := 22) dX5_islands_22 rfl ?_
      refine y_getref (pc := 23) (x := 0) g_X5_10 dX5_islands_23 ?_
      refine y_callVv (pc := 26) v_X0_begin l_X5_67 dX5_islands_26 (c_X0_begin n _ _) (fun _ h => nomatch h) rfl rc_X0 rfl (by decide) (by decide) (Nat.le_of_ble_eq_true rfl) (fun _ M6 _ => ?_)
      refine y_aload_n (pc := 29) dX5_islands_29 rfl ?_
      refine y_getref (pc := 30) (x := 129) g_X5_50 dX5_islands_30 ?_
      refine y_callVi (pc := 33) v_X0_foggyCells l_X5_217 dX5_islands_33 (c_X0_foggyCells n _) (fun _ h => nomatch h) rfl rc_X0 rfl (by decide) (by decide) (Nat.le_of_ble_eq_true rfl) (fun r8 M7 _ => ?_)
      refine y_istore_n (L' := [some (rv 130), some (iv a1), some (iv r8)]) (pc := 36) dX5_islands_36 (by decide) rfl rfl ?_
      refine y_iload_n (pc := 37) dX5_islands_37 rfl ?_
      refine y_if_lt (off := 9) (tgt := 47) (pc := 38) dX5_islands_38 (by decide) h3 (fun h9 => ?_) (fun h9 => ?_)
      · refine y_iload_n (pc := 47) dX5_islands_47 rfl ?_
        refine y_iconst (pc := 48) dX5_islands_48 ?_
        refine y_icmp_ne (off := 10) (tgt := 59) (pc := 49) dX5_islands_49 (by decide) h3 (by decide) (fun h10 => ?_) (fun h10 => ?_)
        · refine y_iload_n (pc := 59) dX5_islands_59 rfl ?_
          refine y_callSi (pc := 60) s_X2_greatest l_X5_287 dX5_islands_60 (c_X2_greatest n _ _) (fun _ h => nomatch h) rfl rfl (by decide) (by decide) (Nat.le_of_ble_eq_true rfl) (fun r12 M11 _ => ?_)
          exact y_iret (pc := 63) dX5_islands_63
        · refine y_iload_n (pc := 52) dX5_islands_52 rfl ?_
          refine y_callSi (pc := 53) s_X2_howMany l_X5_284 dX5_islands_53 (c_X2_howMany n _ _) (fun _ h => nomatch h) rfl rfl (by decide) (by decide) (Nat.le_of_ble_eq_true rfl) (fun r14 M13 _ => ?_)
          refine y_goto (tgt := 63) (pc := 56) dX5_islands_56 (by decide) ?_
          exact y_iret (pc := 63) dX5_islands_63
      · refine y_iload_n (pc := 41) dX5_islands_41 rfl ?_
        refine y_iload_n (pc := 42) dX5_islands_42 rfl ?_
        refine y_callSi (pc := 43) s_X2_pieceWith l_X5_279 dX5_islands_43 (c_X2_pieceWith n _ _ _) (fun _ h => nomatch h) rfl rfl (by decide) (by decide) (Nat.le_of_ble_eq_true rfl) (fun r16 M15 _ => ?_)
        exact y_iret (pc := 46) dX5_islands_46
    · exact y_sub (ls_s (ls_n (ls_n ls_0))) (t_X5_islands_12 n M)
theorem c_X5_islands (n : Nat) (M : Mem) (a1 : Int) : ∀ res : Int × Mem, m_X5_islands n M a1 = some res → CTi none yX5_islands cX5_islands 3 (some .int) 5 [rv 130, iv a1] M res := CTi_of (by decide +kernel) rfl (Nat.le_of_ble_eq_true rfl) rfl (y_X5_islands n M a1)
def m_X5_way_14 (n : Nat) (M : Mem) : Rs := bd (m_X5_refuse n M (-1)) (fun r2 M1 => some (r2, M1))
theorem t_X5_way_14 (n : Nat) (M : Mem) : Y RX5 cX5_way 3 5 0 none 14 [some (rv 130), none, none] [] M (m_X5_way_14 n M) := by
  unfold m_X5_way_14
  refine y_aload_n (pc := 14) dX5_way_14 rfl ?_
  refine y_iconst (pc := 15) dX5_way_15 ?_
  refine y_callVi (pc := 16) v_X5_refuse l_X5_60 dX5_way_16 (c_X5_refuse n _ _) (fun _ h => nomatch h) rfl rc_X5 rfl (by decide) (by decide) (Nat.le_of_ble_eq_true rfl) (fun r2 M1 _ => ?_)
  exact y_iret (pc := 19) dX5_way_19
def m_X5_way (n : Nat) (M : Mem) (a1 : Int) (a2 : Int) : Rs := bd (m_X5_isCell n M a1) (fun r4 M3 => if I32 r4 then (if r4 = 0 then (m_X5_way_14 n M3) else (bd (m_X5_isCell n M3 a2) (fun r8 M7 => if I32 r8 then (if r8 = 0 then (m_X5_way_14 n M7) else (bd (m_X0_begin n M7 0) (fun _ M11 => bd (m_X0_foggyCells n M11) (fun r13 M12 => bd (m_X2_steps n M12 a1 a2 r13) (fun r15 M14 => some (r15, M14)))))) else none))) else none)
theorem y_X5_way (n : Nat) (M : Mem) (a1 : Int) (a2 : Int) : Y RX5 cX5_way 3 5 0 none 0 [some (rv 130), some (iv a1), some (iv a2)] [] M (m_X5_way n M a1 a2) := by
  unfold m_X5_way
  refine y_iload_n (pc := 0) dX5_way_0 rfl ?_
  refine y_callSi (pc := 1) s_X5_isCell l_X5_186 dX5_way_1 (c_X5_isCell n _ _) (fun _ h => nomatch h) rfl rfl (by decide) (by decide) (Nat.le_of_ble_eq_true rfl) (fun r4 M3 _ => ?_)
  refine y_gd (fun h5 => ?_)
  refine y_if_eq (off := 10) (tgt := 14) (pc := 4) dX5_way_4 (by decide) h5 (fun h6 => ?_) (fun h6 => ?_)
  · exact y_sub (ls_s (ls_n (ls_n ls_0))) (t_X5_way_14 n M3)
  · refine y_iload_n (pc := 7) dX5_way_7 rfl ?_
    refine y_callSi (pc := 8) s_X5_isCell l_X5_186 dX5_way_8 (c_X5_isCell n _ _) (fun _ h => nomatch h) rfl rfl (by decide) (by decide) (Nat.le_of_ble_eq_true rfl) (fun r8 M7 _ => ?_)
    refine y_gd (fun h9 => ?_)
    refine y_if_ne (off := 9) (tgt := 20) (pc := 11) dX5_way_11 (by decide) h9 (fun h10 => ?_) (fun h10 => ?_)
    · refine y_aload_n (pc := 20) dX5_way_20 rfl ?_
      refine y_getref (pc := 21) (x := 129) g_X5_50 dX5_way_21 ?_
      refine y_aload_n (pc := 24) dX5_way_24 rfl ?_
      refine y_getref (pc := 25) (x := 0) g_X5_10 dX5_way_25 ?_
      refine y_callVv (pc := 28) v_X0_begin l_X5_67 dX5_way_28 (c_X0_begin n _ _) (fun _ h => nomatch h) rfl rc_X0 rfl (by decide) (by decide) (Nat.le_of_ble_eq_true rfl) (fun _ M11 _ => ?_)
      refine y_iload_n (pc := 31) dX5_way_31 rfl ?_
      refine y_iload_n (pc := 32) dX5_way_32 rfl ?_
      refine y_aload_n (pc := 33) dX5_way_33 rfl ?_
      refine y_getref (pc := 34) (x := 129) g_X5_50 dX5_way_34 ?_
      refine y_callVi (pc := 37) v_X0_foggyCells l_X5_217 dX5_way_37 (c_X0_foggyCells n _) (fun _ h => nomatch h) rfl rc_X0 rfl (by decide) (by decide) (Nat.le_of_ble_eq_true rfl) (fun r13 M12 _ => ?_)
      refine y_callSi (pc := 40) s_X2_steps l_X5_295 dX5_way_40 (c_X2_steps n _ _ _ _) (fun _ h => nomatch h) rfl rfl (by decide) (by decide) (Nat.le_of_ble_eq_true rfl) (fun r15 M14 _ => ?_)
      exact y_iret (pc := 43) dX5_way_43
    · exact y_sub (ls_s (ls_n (ls_n ls_0))) (t_X5_way_14 n M7)
theorem c_X5_way (n : Nat) (M : Mem) (a1 : Int) (a2 : Int) : ∀ res : Int × Mem, m_X5_way n M a1 a2 = some res → CTi none yX5_way cX5_way 3 (some .int) 5 [rv 130, iv a1, iv a2] M res := CTi_of (by decide +kernel) rfl (Nat.le_of_ble_eq_true rfl) rfl (y_X5_way n M a1 a2)
def m_X5_crowdedCell_7 (n : Nat) : Nat → Mem → Int → Int → Int → Rs
  | 0, _, _, _, _ => none
  | t + 1, M, a1, a2, a3 => if I32 a3 then (if 24 ≤ a3 then (some (a1, M)) else (bd (m_X4_peopleOn n M 0 a3) (fun r4 M3 => bd (m_J6_bitCount_0f7a4 n M3 r4) (fun r6 M5 => if I32 r6 then (if I32 a2 then (if r6 ≤ a2 then ((m_X5_crowdedCell_7 n t) M5 a1 a2 (a3 + 1)) else ((m_X5_crowdedCell_7 n t) M5 a3 r6 (a3 + 1))) else none) else none)))) else none
theorem t_X5_crowdedCell_7 (n : Nat) : ∀ (t : Nat) (M : Mem) (a1 : Int) (a2 : Int) (a3 : Int), Y RX5 cX5_crowdedCell 5 1 0 none 7 [some (rv 130), some (iv a1), some (iv a2), some (iv a3), none] [] M (m_X5_crowdedCell_7 n t M a1 a2 a3) := by
  intro t
  induction t with
  | zero => intro M a1 a2 a3; exact y_none
  | succ t ih =>
    intro M a1 a2 a3
    rewrite [m_X5_crowdedCell_7]
    refine y_iload_n (pc := 7) dX5_crowdedCell_7 rfl ?_
    refine y_bipush (pc := 8) dX5_crowdedCell_8 (by decide) ?_
    refine y_gd (fun h1 => ?_)
    refine y_icmp_ge (off := 33) (tgt := 43) (pc := 10) dX5_crowdedCell_10 (by decide) h1 (by decide) (fun h2 => ?_) (fun h2 => ?_)
    · refine y_iload_n (pc := 43) dX5_crowdedCell_43 rfl ?_
      exact y_iret (pc := 44) dX5_crowdedCell_44
    · refine y_aload_n (pc := 13) dX5_crowdedCell_13 rfl ?_
      refine y_getref (pc := 14) (x := 0) g_X5_10 dX5_crowdedCell_14 ?_
      refine y_iload_n (pc := 17) dX5_crowdedCell_17 rfl ?_
      refine y_callVi (pc := 18) v_X4_peopleOn l_X5_198 dX5_crowdedCell_18 (c_X4_peopleOn n _ _ _) (fun _ h => nomatch h) rfl (rc_X4 (by decide)) rfl (by decide) (by decide) (Nat.le_of_ble_eq_true rfl) (fun r4 M3 _ => ?_)
      refine y_callSi (pc := 21) s_J6_bitCount_0f7a4 l_X5_242 dX5_crowdedCell_21 (c_J6_bitCount_0f7a4 n _ _) (fun _ h => nomatch h) rfl rfl (by decide) (by decide) (Nat.le_of_ble_eq_true rfl) (fun r6 M5 _ => ?_)
      refine y_istore (L' := [some (rv 130), some (iv a1), some (iv a2), some (iv a3), some (iv r6)]) (pc := 24) dX5_crowdedCell_24 (by decide) rfl rfl ?_
      refine y_iload (pc := 26) dX5_crowdedCell_26 rfl ?_
      refine y_iload_n (pc := 28) dX5_crowdedCell_28 rfl ?_
      refine y_gd (fun h7 => ?_)
      refine y_gd (fun h8 => ?_)
      refine y_icmp_le (off := 8) (tgt := 37) (pc := 29) dX5_crowdedCell_29 (by decide) h7 h8 (fun h9 => ?_) (fun h9 => ?_)
      · refine y_iinc (L' := [some (rv 130), some (iv a1), some (iv a2), some (iv (a3 + 1)), some (iv r6)]) (pc := 37) dX5_crowdedCell_37 rfl (by decide) rfl rfl ?_
        refine y_goto (tgt := 7) (pc := 40) dX5_crowdedCell_40 (by decide) ?_
        exact y_sub (ls_s (ls_s (ls_s (ls_s (ls_n ls_0))))) (ih M5 a1 a2 (a3 + 1))
      · refine y_iload (pc := 32) dX5_crowdedCell_32 rfl ?_
        refine y_istore_n (L' := [some (rv 130), some (iv a1), some (iv r6), some (iv a3), some (iv r6)]) (pc := 34) dX5_crowdedCell_34 (by decide) rfl rfl ?_
        refine y_iload_n (pc := 35) dX5_crowdedCell_35 rfl ?_
        refine y_istore_n (L' := [some (rv 130), some (iv a3), some (iv r6), some (iv a3), some (iv r6)]) (pc := 36) dX5_crowdedCell_36 (by decide) rfl rfl ?_
        refine y_iinc (L' := [some (rv 130), some (iv a3), some (iv r6), some (iv (a3 + 1)), some (iv r6)]) (pc := 37) dX5_crowdedCell_37 rfl (by decide) rfl rfl ?_
        refine y_goto (tgt := 7) (pc := 40) dX5_crowdedCell_40 (by decide) ?_
        exact y_sub (ls_s (ls_s (ls_s (ls_s (ls_n ls_0))))) (ih M5 a3 r6 (a3 + 1))
def m_X5_crowdedCell (n : Nat) (M : Mem) : Rs := m_X5_crowdedCell_7 n n M (-9) 0 0
theorem y_X5_crowdedCell (n : Nat) (M : Mem) : Y RX5 cX5_crowdedCell 5 1 0 none 0 [some (rv 130), none, none, none, none] [] M (m_X5_crowdedCell n M) := by
  unfold m_X5_crowdedCell
  refine y_bipush (pc := 0) dX5_crowdedCell_0 (by decide) ?_
  refine y_istore_n (L' := [some (rv 130), some (iv (-9)), none, none, none]) (pc := 2) dX5_crowdedCell_2 (by decide) rfl rfl ?_
  refine y_iconst (pc := 3) dX5_crowdedCell_3 ?_
  refine y_istore_n (L' := [some (rv 130), some (iv (-9)), some (iv 0), none, none]) (pc := 4) dX5_crowdedCell_4 (by decide) rfl rfl ?_
  refine y_iconst (pc := 5) dX5_crowdedCell_5 ?_
  refine y_istore_n (L' := [some (rv 130), some (iv (-9)), some (iv 0), some (iv 0), none]) (pc := 6) dX5_crowdedCell_6 (by decide) rfl rfl ?_
  exact y_sub (ls_s (ls_s (ls_s (ls_s (ls_n ls_0))))) (t_X5_crowdedCell_7 n n M (-9) 0 0)
theorem c_X5_crowdedCell (n : Nat) (M : Mem) : ∀ res : Int × Mem, m_X5_crowdedCell n M = some res → CTi none yX5_crowdedCell cX5_crowdedCell 5 (some .int) 1 [rv 130] M res := CTi_of (by decide +kernel) rfl (Nat.le_of_ble_eq_true rfl) rfl (y_X5_crowdedCell n M)
def m_X5_hoursAlike_26 (n : Nat) : Nat → Mem → Int → Int → Int → Rs
  | 0, _, _, _, _ => none
  | t + 1, M, a1, a2, a3 => if I32 a3 then (if 60 ≤ a3 then (some (a2, M)) else (bd (m_X0_goOn n M 1) (fun _ M3 => bd (m_X0_foggyCells n M3) (fun r5 M4 => bd (m_J6_bitCount_0f7a4 n M4 r5) (fun r7 M6 => if I32 r7 then (if I32 a1 then (if r7 = a1 then ((m_X5_hoursAlike_26 n t) M6 a1 (a2 + 1) (a3 + 1)) else ((m_X5_hoursAlike_26 n t) M6 a1 a2 (a3 + 1))) else none) else none))))) else none
theorem t_X5_hoursAlike_26 (n : Nat) : ∀ (t : Nat) (M : Mem) (a1 : Int) (a2 : Int) (a3 : Int), Y RX5 cX5_hoursAlike 4 5 0 none 26 [some (rv 130), some (iv a1), some (iv a2), some (iv a3)] [] M (m_X5_hoursAlike_26 n t M a1 a2 a3) := by
  intro t
  induction t with
  | zero => intro M a1 a2 a3; exact y_none
  | succ t ih =>
    intro M a1 a2 a3
    rewrite [m_X5_hoursAlike_26]
    refine y_iload_n (pc := 26) dX5_hoursAlike_26 rfl ?_
    refine y_bipush (pc := 27) dX5_hoursAlike_27 (by decide) ?_
    refine y_gd (fun h1 => ?_)
    refine y_icmp_ge (off := 34) (tgt := 63) (pc := 29) dX5_hoursAlike_29 (by decide) h1 (by decide) (fun h2 => ?_) (fun h2 => ?_)
    · refine y_iload_n (pc := 63) dX5_hoursAlike_63 rfl ?_
      exact y_iret (pc := 64) dX5_hoursAlike_64
    · refine y_aload_n (pc := 32) dX5_hoursAlike_32 rfl ?_
      refine y_getref (pc := 33) (x := 129) g_X5_50 dX5_hoursAlike_33 ?_
      refine y_iconst (pc := 36) dX5_hoursAlike_36 ?_
      refine y_callVv (pc := 37) v_X0_goOn l_X5_119 dX5_hoursAlike_37 (c_X0_goOn n _ _) (fun _ h => nomatch h) rfl rc_X0 rfl (by decide) (by decide) (Nat.le_of_ble_eq_true rfl) (fun _ M3 _ => ?_)
      refine y_aload_n (pc := 40) dX5_hoursAlike_40 rfl ?_
      refine y_getref (pc := 41) (x := 129) g_X5_50 dX5_hoursAlike_41 ?_
      refine y_callVi (pc := 44) v_X0_foggyCells l_X5_217 dX5_hoursAlike_44 (c_X0_foggyCells n _) (fun _ h => nomatch h) rfl rc_X0 rfl (by decide) (by decide) (Nat.le_of_ble_eq_true rfl) (fun r5 M4 _ => ?_)
      refine y_callSi (pc := 47) s_J6_bitCount_0f7a4 l_X5_242 dX5_hoursAlike_47 (c_J6_bitCount_0f7a4 n _ _) (fun _ h => nomatch h) rfl rfl (by decide) (by decide) (Nat.le_of_ble_eq_true rfl) (fun r7 M6 _ => ?_)
      refine y_iload_n (pc := 50) dX5_hoursAlike_50 rfl ?_
      refine y_gd (fun h8 => ?_)
      refine y_gd (fun h9 => ?_)
      refine y_icmp_ne (off := 6) (tgt := 57) (pc := 51) dX5_hoursAlike_51 (by decide) h8 h9 (fun h10 => ?_) (fun h10 => ?_)
      · refine y_iinc (L' := [some (rv 130), some (iv a1), some (iv a2), some (iv (a3 + 1))]) (pc := 57) dX5_hoursAlike_57 rfl (by decide) rfl rfl ?_
        refine y_goto (tgt := 26) (pc := 60) dX5_hoursAlike_60 (by decide) ?_
        exact y_sub (ls_s (ls_s (ls_s (ls_s ls_0)))) (ih M6 a1 a2 (a3 + 1))
      · refine y_iinc (L' := [some (rv 130), some (iv a1), some (iv (a2 + 1)), some (iv a3)]) (pc := 54) dX5_hoursAlike_54 rfl (by decide) rfl rfl ?_
        refine y_iinc (L' := [some (rv 130), some (iv a1), some (iv (a2 + 1)), some (iv (a3 + 1))]) (pc := 57) dX5_hoursAlike_57 rfl (by decide) rfl rfl ?_
        refine y_goto (tgt := 26) (pc := 60) dX5_hoursAlike_60 (by decide) ?_
        exact y_sub (ls_s (ls_s (ls_s (ls_s ls_0)))) (ih M6 a1 (a2 + 1) (a3 + 1))
def m_X5_hoursAlike (n : Nat) (M : Mem) : Rs := bd (m_X0_begin n M 0) (fun _ M11 => bd (m_X0_foggyCells n M11) (fun r13 M12 => bd (m_J6_bitCount_0f7a4 n M12 r13) (fun r15 M14 => m_X5_hoursAlike_26 n n M14 r15 0 0)))
theorem y_X5_hoursAlike (n : Nat) (M : Mem) : Y RX5 cX5_hoursAlike 4 5 0 none 0 [some (rv 130), none, none, none] [] M (m_X5_hoursAlike n M) := by
  unfold m_X5_hoursAlike
  refine y_aload_n (pc := 0) dX5_hoursAlike_0 rfl ?_
  refine y_getref (pc := 1) (x := 129) g_X5_50 dX5_hoursAlike_1 ?_
  refine y_aload_n (pc := 4) dX5_hoursAlike_4 rfl ?_
  refine y_getref (pc := 5) (x := 0) g_X5_10 dX5_hoursAlike_5 ?_
  refine y_callVv (pc := 8) v_X0_begin l_X5_67 dX5_hoursAlike_8 (c_X0_begin n _ _) (fun _ h => nomatch h) rfl rc_X0 rfl (by decide) (by decide) (Nat.le_of_ble_eq_true rfl) (fun _ M11 _ => ?_)
  refine y_aload_n (pc := 11) dX5_hoursAlike_11 rfl ?_
  refine y_getref (pc := 12) (x := 129) g_X5_50 dX5_hoursAlike_12 ?_
  refine y_callVi (pc := 15) v_X0_foggyCells l_X5_217 dX5_hoursAlike_15 (c_X0_foggyCells n _) (fun _ h => nomatch h) rfl rc_X0 rfl (by decide) (by decide) (Nat.le_of_ble_eq_true rfl) (fun r13 M12 _ => ?_)
  refine y_callSi (pc := 18) s_J6_bitCount_0f7a4 l_X5_242 dX5_hoursAlike_18 (c_J6_bitCount_0f7a4 n _ _) (fun _ h => nomatch h) rfl rfl (by decide) (by decide) (Nat.le_of_ble_eq_true rfl) (fun r15 M14 _ => ?_)
  refine y_istore_n (L' := [some (rv 130), some (iv r15), none, none]) (pc := 21) dX5_hoursAlike_21 (by decide) rfl rfl ?_
  refine y_iconst (pc := 22) dX5_hoursAlike_22 ?_
  refine y_istore_n (L' := [some (rv 130), some (iv r15), some (iv 0), none]) (pc := 23) dX5_hoursAlike_23 (by decide) rfl rfl ?_
  refine y_iconst (pc := 24) dX5_hoursAlike_24 ?_
  refine y_istore_n (L' := [some (rv 130), some (iv r15), some (iv 0), some (iv 0)]) (pc := 25) dX5_hoursAlike_25 (by decide) rfl rfl ?_
  exact y_sub (ls_s (ls_s (ls_s (ls_s ls_0)))) (t_X5_hoursAlike_26 n n M14 r15 0 0)
theorem c_X5_hoursAlike (n : Nat) (M : Mem) : ∀ res : Int × Mem, m_X5_hoursAlike n M = some res → CTi none yX5_hoursAlike cX5_hoursAlike 4 (some .int) 5 [rv 130] M res := CTi_of (by decide +kernel) rfl (Nat.le_of_ble_eq_true rfl) rfl (y_X5_hoursAlike n M)
def m_X5_richest_7 (n : Nat) : Nat → Mem → Int → Int → Int → Rs
  | 0, _, _, _, _ => none
  | t + 1, M, a1, a2, a3 => if I32 a3 then (if (rd M 0 12) ≤ a3 then (some (a1, M)) else (bd (m_X4_worthsOf n M 0 a3) (fun r4 M3 => if I32 r4 then (if I32 a2 then (if r4 ≤ a2 then ((m_X5_richest_7 n t) M3 a1 a2 (a3 + 1)) else ((m_X5_richest_7 n t) M3 a3 r4 (a3 + 1))) else none) else none))) else none
theorem t_X5_richest_7 (n : Nat) : ∀ (t : Nat) (M : Mem) (a1 : Int) (a2 : Int) (a3 : Int), Y RX5 cX5_richest 5 1 0 none 7 [some (rv 130), some (iv a1), some (iv a2), some (iv a3), none] [] M (m_X5_richest_7 n t M a1 a2 a3) := by
  intro t
  induction t with
  | zero => intro M a1 a2 a3; exact y_none
  | succ t ih =>
    intro M a1 a2 a3
    rewrite [m_X5_richest_7]
    refine y_iload_n (pc := 7) dX5_richest_7 rfl ?_
    refine y_aload_n (pc := 8) dX5_richest_8 rfl ?_
    refine y_getref (pc := 9) (x := 0) g_X5_10 dX5_richest_9 ?_
    refine y_getint (pc := 12) (g_X5_204 (by decide)) dX5_richest_12 ?_
    refine y_gd (fun h1 => ?_)
    refine y_icmp_ge (off := 30) (tgt := 45) (pc := 15) dX5_richest_15 (by decide) h1 (rd_rng _ _ _) (fun h2 => ?_) (fun h2 => ?_)
    · refine y_iload_n (pc := 45) dX5_richest_45 rfl ?_
      exact y_iret (pc := 46) dX5_richest_46
    · refine y_aload_n (pc := 18) dX5_richest_18 rfl ?_
      refine y_getref (pc := 19) (x := 0) g_X5_10 dX5_richest_19 ?_
      refine y_iload_n (pc := 22) dX5_richest_22 rfl ?_
      refine y_callVi (pc := 23) v_X4_worthsOf l_X5_156 dX5_richest_23 (c_X4_worthsOf n _ _ _) (fun _ h => nomatch h) rfl (rc_X4 (by decide)) rfl (by decide) (by decide) (Nat.le_of_ble_eq_true rfl) (fun r4 M3 _ => ?_)
      refine y_istore (L' := [some (rv 130), some (iv a1), some (iv a2), some (iv a3), some (iv r4)]) (pc := 26) dX5_richest_26 (by decide) rfl rfl ?_
      refine y_iload (pc := 28) dX5_richest_28 rfl ?_
      refine y_iload_n (pc := 30) dX5_richest_30 rfl ?_
      refine y_gd (fun h5 => ?_)
      refine y_gd (fun h6 => ?_)
      refine y_icmp_le (off := 8) (tgt := 39) (pc := 31) dX5_richest_31 (by decide) h5 h6 (fun h7 => ?_) (fun h7 => ?_)
      · refine y_iinc (L' := [some (rv 130), some (iv a1), some (iv a2), some (iv (a3 + 1)), some (iv r4)]) (pc := 39) dX5_richest_39 rfl (by decide) rfl rfl ?_
        refine y_goto (tgt := 7) (pc := 42) dX5_richest_42 (by decide) ?_
        exact y_sub (ls_s (ls_s (ls_s (ls_s (ls_n ls_0))))) (ih M3 a1 a2 (a3 + 1))
      · refine y_iload (pc := 34) dX5_richest_34 rfl ?_
        refine y_istore_n (L' := [some (rv 130), some (iv a1), some (iv r4), some (iv a3), some (iv r4)]) (pc := 36) dX5_richest_36 (by decide) rfl rfl ?_
        refine y_iload_n (pc := 37) dX5_richest_37 rfl ?_
        refine y_istore_n (L' := [some (rv 130), some (iv a3), some (iv r4), some (iv a3), some (iv r4)]) (pc := 38) dX5_richest_38 (by decide) rfl rfl ?_
        refine y_iinc (L' := [some (rv 130), some (iv a3), some (iv r4), some (iv (a3 + 1)), some (iv r4)]) (pc := 39) dX5_richest_39 rfl (by decide) rfl rfl ?_
        refine y_goto (tgt := 7) (pc := 42) dX5_richest_42 (by decide) ?_
        exact y_sub (ls_s (ls_s (ls_s (ls_s (ls_n ls_0))))) (ih M3 a3 r4 (a3 + 1))
def m_X5_richest (n : Nat) (M : Mem) : Rs := m_X5_richest_7 n n M (-9) (-1) 0
theorem y_X5_richest (n : Nat) (M : Mem) : Y RX5 cX5_richest 5 1 0 none 0 [some (rv 130), none, none, none, none] [] M (m_X5_richest n M) := by
  unfold m_X5_richest
  refine y_bipush (pc := 0) dX5_richest_0 (by decide) ?_
  refine y_istore_n (L' := [some (rv 130), some (iv (-9)), none, none, none]) (pc := 2) dX5_richest_2 (by decide) rfl rfl ?_
  refine y_iconst (pc := 3) dX5_richest_3 ?_
  refine y_istore_n (L' := [some (rv 130), some (iv (-9)), some (iv (-1)), none, none]) (pc := 4) dX5_richest_4 (by decide) rfl rfl ?_
  refine y_iconst (pc := 5) dX5_richest_5 ?_
  refine y_istore_n (L' := [some (rv 130), some (iv (-9)), some (iv (-1)), some (iv 0), none]) (pc := 6) dX5_richest_6 (by decide) rfl rfl ?_
  exact y_sub (ls_s (ls_s (ls_s (ls_s (ls_n ls_0))))) (t_X5_richest_7 n n M (-9) (-1) 0)
theorem c_X5_richest (n : Nat) (M : Mem) : ∀ res : Int × Mem, m_X5_richest n M = some res → CTi none yX5_richest cX5_richest 5 (some .int) 1 [rv 130] M res := CTi_of (by decide +kernel) rfl (Nat.le_of_ble_eq_true rfl) rfl (y_X5_richest n M)
def m_X5_wetThings_15 (n : Nat) : Nat → Mem → Int → Int → Rs
  | 0, _, _, _ => none
  | t + 1, M, a1, a2 => if I32 a2 then (if (rd M 0 7) ≤ a2 then (some (a1, M)) else (if 0 ≤ a2 ∧ a2 < 8 then (bd (m_X0_isInFog n M (rd M 5 (Int.toNat a2))) (fun r5 M4 => if I32 r5 then (if r5 = 0 then ((m_X5_wetThings_15 n t) M4 a1 (a2 + 1)) else ((m_X5_wetThings_15 n t) M4 (bOr a1 (bShl 1 a2)) (a2 + 1))) else none)) else none)) else none
theorem t_X5_wetThings_15 (n : Nat) : ∀ (t : Nat) (M : Mem) (a1 : Int) (a2 : Int), Y RX5 cX5_wetThings 3 5 0 none 15 [some (rv 130), some (iv a1), some (iv a2)] [] M (m_X5_wetThings_15 n t M a1 a2) := by
  intro t
  induction t with
  | zero => intro M a1 a2; exact y_none
  | succ t ih =>
    intro M a1 a2
    rewrite [m_X5_wetThings_15]
    refine y_iload_n (pc := 15) dX5_wetThings_15 rfl ?_
    refine y_aload_n (pc := 16) dX5_wetThings_16 rfl ?_
    refine y_getref (pc := 17) (x := 0) g_X5_10 dX5_wetThings_17 ?_
    refine y_getint (pc := 20) (g_X5_207 (by decide)) dX5_wetThings_20 ?_
    refine y_gd (fun h1 => ?_)
    refine y_icmp_ge (off := 34) (tgt := 57) (pc := 23) dX5_wetThings_23 (by decide) h1 (rd_rng _ _ _) (fun h2 => ?_) (fun h2 => ?_)
    · refine y_iload_n (pc := 57) dX5_wetThings_57 rfl ?_
      exact y_iret (pc := 58) dX5_wetThings_58
    · refine y_aload_n (pc := 26) dX5_wetThings_26 rfl ?_
      refine y_getref (pc := 27) (x := 129) g_X5_50 dX5_wetThings_27 ?_
      refine y_aload_n (pc := 30) dX5_wetThings_30 rfl ?_
      refine y_getref (pc := 31) (x := 0) g_X5_10 dX5_wetThings_31 ?_
      refine y_getref (pc := 34) (x := 5) (g_X5_165 (by decide)) dX5_wetThings_34 ?_
      refine y_iload_n (pc := 37) dX5_wetThings_37 rfl ?_
      refine y_gd (fun h3 => ?_)
      refine y_iald (pc := 38) dX5_wetThings_38 ar_5 h3 ?_
      refine y_callVi (pc := 39) v_X0_isInFog l_X5_195 dX5_wetThings_39 (c_X0_isInFog n _ _) (fun _ h => nomatch h) rfl rc_X0 rfl (by decide) (by decide) (Nat.le_of_ble_eq_true rfl) (fun r5 M4 _ => ?_)
      refine y_gd (fun h6 => ?_)
      refine y_if_eq (off := 9) (tgt := 51) (pc := 42) dX5_wetThings_42 (by decide) h6 (fun h7 => ?_) (fun h7 => ?_)
      · refine y_iinc (L' := [some (rv 130), some (iv a1), some (iv (a2 + 1))]) (pc := 51) dX5_wetThings_51 rfl (by decide) rfl rfl ?_
        refine y_goto (tgt := 15) (pc := 54) dX5_wetThings_54 (by decide) ?_
        exact y_sub (ls_s (ls_s (ls_s ls_0))) (ih M4 a1 (a2 + 1))
      · refine y_iload_n (pc := 45) dX5_wetThings_45 rfl ?_
        refine y_iconst (pc := 46) dX5_wetThings_46 ?_
        refine y_iload_n (pc := 47) dX5_wetThings_47 rfl ?_
        refine y_ishl (pc := 48) dX5_wetThings_48 ?_
        refine y_ior (pc := 49) dX5_wetThings_49 ?_
        refine y_istore_n (L' := [some (rv 130), some (iv (bOr a1 (bShl 1 a2))), some (iv a2)]) (pc := 50) dX5_wetThings_50 (by decide) rfl rfl ?_
        refine y_iinc (L' := [some (rv 130), some (iv (bOr a1 (bShl 1 a2))), some (iv (a2 + 1))]) (pc := 51) dX5_wetThings_51 rfl (by decide) rfl rfl ?_
        refine y_goto (tgt := 15) (pc := 54) dX5_wetThings_54 (by decide) ?_
        exact y_sub (ls_s (ls_s (ls_s ls_0))) (ih M4 (bOr a1 (bShl 1 a2)) (a2 + 1))
def m_X5_wetThings (n : Nat) (M : Mem) : Rs := bd (m_X0_begin n M 0) (fun _ M8 => m_X5_wetThings_15 n n M8 0 0)
theorem y_X5_wetThings (n : Nat) (M : Mem) : Y RX5 cX5_wetThings 3 5 0 none 0 [some (rv 130), none, none] [] M (m_X5_wetThings n M) := by
  unfold m_X5_wetThings
  refine y_aload_n (pc := 0) dX5_wetThings_0 rfl ?_
  refine y_getref (pc := 1) (x := 129) g_X5_50 dX5_wetThings_1 ?_
  refine y_aload_n (pc := 4) dX5_wetThings_4 rfl ?_
  refine y_getref (pc := 5) (x := 0) g_X5_10 dX5_wetThings_5 ?_
  refine y_callVv (pc := 8) v_X0_begin l_X5_67 dX5_wetThings_8 (c_X0_begin n _ _) (fun _ h => nomatch h) rfl rc_X0 rfl (by decide) (by decide) (Nat.le_of_ble_eq_true rfl) (fun _ M8 _ => ?_)
  refine y_iconst (pc := 11) dX5_wetThings_11 ?_
  refine y_istore_n (L' := [some (rv 130), some (iv 0), none]) (pc := 12) dX5_wetThings_12 (by decide) rfl rfl ?_
  refine y_iconst (pc := 13) dX5_wetThings_13 ?_
  refine y_istore_n (L' := [some (rv 130), some (iv 0), some (iv 0)]) (pc := 14) dX5_wetThings_14 (by decide) rfl rfl ?_
  exact y_sub (ls_s (ls_s (ls_s ls_0))) (t_X5_wetThings_15 n n M8 0 0)
theorem c_X5_wetThings (n : Nat) (M : Mem) : ∀ res : Int × Mem, m_X5_wetThings n M = some res → CTi none yX5_wetThings cX5_wetThings 3 (some .int) 5 [rv 130] M res := CTi_of (by decide +kernel) rfl (Nat.le_of_ble_eq_true rfl) rfl (y_X5_wetThings n M)
def m_X5_sight (n : Nat) (M : Mem) (a1 : Int) : Rs := if I32 a1 then (if a1 = 0 then (bd (m_X5_richest n M) (fun r4 M3 => some (r4, M3))) else (if a1 = 1 then (bd (m_X4_nobodysThings n M 0) (fun r7 M6 => some (r7, M6))) else (if a1 = 2 then (bd (m_X5_wetThings n M) (fun r10 M9 => some (r10, M9))) else (if a1 = 3 then (bd (m_X5_crowdedCell n M) (fun r13 M12 => some (r13, M12))) else (if a1 = 4 then (bd (m_X5_hoursAlike n M) (fun r16 M15 => some (r16, M15))) else (bd (m_X5_refuse n M (-2)) (fun r18 M17 => some (r18, M17)))))))) else none
theorem y_X5_sight (n : Nat) (M : Mem) (a1 : Int) : Y RX5 cX5_sight 2 6 0 none 0 [some (rv 130), some (iv a1)] [] M (m_X5_sight n M a1) := by
  unfold m_X5_sight
  refine y_iload_n (pc := 0) dX5_sight_0 rfl ?_
  refine y_gd (fun h1 => ?_)
  refine y_br (fun h2 => ?_) (fun h2 => ?_)
  · refine y_tableIn (off := 35) (tgt := 36) (pc := 1) dX5_sight_1 h2 (by decide) (by decide) (by decide) rfl (by decide) ?_
    refine y_aload_n (pc := 36) dX5_sight_36 rfl ?_
    refine y_callVi (pc := 37) v_X5_richest l_X5_298 dX5_sight_37 (c_X5_richest n _) (fun _ h => nomatch h) rfl rc_X5 rfl (by decide) (by decide) (Nat.le_of_ble_eq_true rfl) (fun r4 M3 _ => ?_)
    exact y_iret (pc := 40) dX5_sight_40
  · refine y_br (fun h5 => ?_) (fun h5 => ?_)
    · refine y_tableIn (off := 40) (tgt := 41) (pc := 1) dX5_sight_1 h5 (by decide) (by decide) (by decide) rfl (by decide) ?_
      refine y_aload_n (pc := 41) dX5_sight_41 rfl ?_
      refine y_getref (pc := 42) (x := 0) g_X5_10 dX5_sight_42 ?_
      refine y_callVi (pc := 45) v_X4_nobodysThings l_X5_230 dX5_sight_45 (c_X4_nobodysThings n _ _) (fun _ h => nomatch h) rfl (rc_X4 (by decide)) rfl (by decide) (by decide) (Nat.le_of_ble_eq_true rfl) (fun r7 M6 _ => ?_)
      exact y_iret (pc := 48) dX5_sight_48
    · refine y_br (fun h8 => ?_) (fun h8 => ?_)
      · refine y_tableIn (off := 48) (tgt := 49) (pc := 1) dX5_sight_1 h8 (by decide) (by decide) (by decide) rfl (by decide) ?_
        refine y_aload_n (pc := 49) dX5_sight_49 rfl ?_
        refine y_callVi (pc := 50) v_X5_wetThings l_X5_301 dX5_sight_50 (c_X5_wetThings n _) (fun _ h => nomatch h) rfl rc_X5 rfl (by decide) (by decide) (Nat.le_of_ble_eq_true rfl) (fun r10 M9 _ => ?_)
        exact y_iret (pc := 53) dX5_sight_53
      · refine y_br (fun h11 => ?_) (fun h11 => ?_)
        · refine y_tableIn (off := 53) (tgt := 54) (pc := 1) dX5_sight_1 h11 (by decide) (by decide) (by decide) rfl (by decide) ?_
          refine y_aload_n (pc := 54) dX5_sight_54 rfl ?_
          refine y_callVi (pc := 55) v_X5_crowdedCell l_X5_304 dX5_sight_55 (c_X5_crowdedCell n _) (fun _ h => nomatch h) rfl rc_X5 rfl (by decide) (by decide) (Nat.le_of_ble_eq_true rfl) (fun r13 M12 _ => ?_)
          exact y_iret (pc := 58) dX5_sight_58
        · refine y_br (fun h14 => ?_) (fun h14 => ?_)
          · refine y_tableIn (off := 58) (tgt := 59) (pc := 1) dX5_sight_1 h14 (by decide) (by decide) (by decide) rfl (by decide) ?_
            refine y_aload_n (pc := 59) dX5_sight_59 rfl ?_
            refine y_callVi (pc := 60) v_X5_hoursAlike l_X5_307 dX5_sight_60 (c_X5_hoursAlike n _) (fun _ h => nomatch h) rfl rc_X5 rfl (by decide) (by decide) (Nat.le_of_ble_eq_true rfl) (fun r16 M15 _ => ?_)
            exact y_iret (pc := 63) dX5_sight_63
          · refine y_tableOut (tgt := 64) (pc := 1) dX5_sight_1 h1 (by omega) (by decide) ?_
            refine y_aload_n (pc := 64) dX5_sight_64 rfl ?_
            refine y_bipush (pc := 65) dX5_sight_65 (by decide) ?_
            refine y_callVi (pc := 67) v_X5_refuse l_X5_60 dX5_sight_67 (c_X5_refuse n _ _) (fun _ h => nomatch h) rfl rc_X5 rfl (by decide) (by decide) (Nat.le_of_ble_eq_true rfl) (fun r18 M17 _ => ?_)
            exact y_iret (pc := 70) dX5_sight_70
theorem c_X5_sight (n : Nat) (M : Mem) (a1 : Int) : ∀ res : Int × Mem, m_X5_sight n M a1 = some res → CTi none yX5_sight cX5_sight 2 (some .int) 6 [rv 130, iv a1] M res := CTi_of (by decide +kernel) rfl (Nat.le_of_ble_eq_true rfl) rfl (y_X5_sight n M a1)
def m_X5_image (n : Nat) (M : Mem) : Rs := bd (m_X4_become n M 11 0) (fun _ M1 => wr M1 130 2 1 (fun M2 => some ((rd M2 0 13), M2)))
theorem y_X5_image (n : Nat) (M : Mem) : Y RX5 cX5_image 1 2 0 none 0 [some (rv 130)] [] M (m_X5_image n M) := by
  unfold m_X5_image
  refine y_aload_n (pc := 0) dX5_image_0 rfl ?_
  refine y_getref (pc := 1) (x := 11) g_X5_16 dX5_image_1 ?_
  refine y_aload_n (pc := 4) dX5_image_4 rfl ?_
  refine y_getref (pc := 5) (x := 0) g_X5_10 dX5_image_5 ?_
  refine y_callVv (pc := 8) v_X4_become l_X5_84 dX5_image_8 (c_X4_become n _ _ _) (fun _ h => nomatch h) rfl (rc_X4 (by decide)) rfl (by decide) (by decide) (Nat.le_of_ble_eq_true rfl) (fun _ M1 _ => ?_)
  refine y_aload_n (pc := 11) dX5_image_11 rfl ?_
  refine y_iconst (pc := 12) dX5_image_12 ?_
  refine y_putboolw (pc := 13) pf_X5_19 (by decide) dX5_image_13 (fun M2 => ?_)
  refine y_aload_n (pc := 16) dX5_image_16 rfl ?_
  refine y_getref (pc := 17) (x := 0) g_X5_10 dX5_image_17 ?_
  refine y_getint (pc := 20) (g_X5_116 (by decide)) dX5_image_20 ?_
  exact y_iret (pc := 23) dX5_image_23
theorem c_X5_image (n : Nat) (M : Mem) : ∀ res : Int × Mem, m_X5_image n M = some res → CTi none yX5_image cX5_image 1 (some .int) 2 [rv 130] M res := CTi_of (by decide +kernel) rfl (Nat.le_of_ble_eq_true rfl) rfl (y_X5_image n M)
def m_X5_restore (n : Nat) (M : Mem) : Rs := if (rd M 130 2) = 0 then (bd (m_X5_refuse n M (-3)) (fun r5 M4 => some (r5, M4))) else (bd (m_X4_become n M 0 11) (fun _ M2 => wr M2 130 4 0 (fun M3 => some ((rd M3 0 13), M3))))
theorem y_X5_restore (n : Nat) (M : Mem) : Y RX5 cX5_restore 1 2 0 none 0 [some (rv 130)] [] M (m_X5_restore n M) := by
  unfold m_X5_restore
  refine y_aload_n (pc := 0) dX5_restore_0 rfl ?_
  refine y_getint (pc := 1) g_X5_19 dX5_restore_1 ?_
  refine y_if_ne (off := 10) (tgt := 14) (pc := 4) dX5_restore_4 (by decide) (rd_rng _ _ _) (fun h1 => ?_) (fun h1 => ?_)
  · refine y_aload_n (pc := 14) dX5_restore_14 rfl ?_
    refine y_getref (pc := 15) (x := 0) g_X5_10 dX5_restore_15 ?_
    refine y_aload_n (pc := 18) dX5_restore_18 rfl ?_
    refine y_getref (pc := 19) (x := 11) g_X5_16 dX5_restore_19 ?_
    refine y_callVv (pc := 22) v_X4_become l_X5_84 dX5_restore_22 (c_X4_become n _ _ _) (fun _ h => nomatch h) rfl (rc_X4 (by decide)) rfl (by decide) (by decide) (Nat.le_of_ble_eq_true rfl) (fun _ M2 _ => ?_)
    refine y_aload_n (pc := 25) dX5_restore_25 rfl ?_
    refine y_iconst (pc := 26) dX5_restore_26 ?_
    refine y_putintw (pc := 27) pf_X5_27 dX5_restore_27 (fun M3 => ?_)
    refine y_aload_n (pc := 30) dX5_restore_30 rfl ?_
    refine y_getref (pc := 31) (x := 0) g_X5_10 dX5_restore_31 ?_
    refine y_getint (pc := 34) (g_X5_116 (by decide)) dX5_restore_34 ?_
    exact y_iret (pc := 37) dX5_restore_37
  · refine y_aload_n (pc := 7) dX5_restore_7 rfl ?_
    refine y_bipush (pc := 8) dX5_restore_8 (by decide) ?_
    refine y_callVi (pc := 10) v_X5_refuse l_X5_60 dX5_restore_10 (c_X5_refuse n _ _) (fun _ h => nomatch h) rfl rc_X5 rfl (by decide) (by decide) (Nat.le_of_ble_eq_true rfl) (fun r5 M4 _ => ?_)
    exact y_iret (pc := 13) dX5_restore_13
theorem c_X5_restore (n : Nat) (M : Mem) : ∀ res : Int × Mem, m_X5_restore n M = some res → CTi none yX5_restore cX5_restore 1 (some .int) 2 [rv 130] M res := CTi_of (by decide +kernel) rfl (Nat.le_of_ble_eq_true rfl) rfl (y_X5_restore n M)
def m_L_cell (Ls : Nat) (xs : Nat → Int32) (n : Nat) (M : Mem) (a1 : Int) : Rs := if I32 a1 then (if (Ls : Int) ≤ a1 then (some (((7919 * a1) + 12), M)) else (if 0 ≤ a1 ∧ a1 < (Ls : Int) then (some ((xs (Int.toNat a1)).toInt, M)) else none)) else none
theorem y_L_cell (Ls : Nat) (xs : Nat → Int32) (hLs : Ls < 2147483648) (hLs32 : I32 (Ls : Int)) (n : Nat) (M : Mem) (a1 : Int) : Y RL cL_cell 2 0 0 (some (Ls, xs)) 0 [some (rv 158), some (iv a1)] [] M (m_L_cell Ls xs n M a1) := by
  unfold m_L_cell
  refine y_iload_n (pc := 0) dL_cell_0 rfl ?_
  refine y_aload_n (pc := 1) dL_cell_1 rfl ?_
  refine y_slen (pc := 2) dL_cell_2 rfl ?_
  refine y_gd (fun h1 => ?_)
  refine y_icmp_ge (off := 9) (tgt := 12) (pc := 3) dL_cell_3 (by decide) h1 hLs32 (fun h2 => ?_) (fun h2 => ?_)
  · refine y_sipush (pc := 12) dL_cell_12 (by decide) ?_
    refine y_iload_n (pc := 15) dL_cell_15 rfl ?_
    refine y_imul (pc := 16) dL_cell_16 ?_
    refine y_bipush (pc := 17) dL_cell_17 (by decide) ?_
    refine y_iadd (pc := 19) dL_cell_19 ?_
    exact y_iret (pc := 20) dL_cell_20
  · refine y_aload_n (pc := 6) dL_cell_6 rfl ?_
    refine y_iload_n (pc := 7) dL_cell_7 rfl ?_
    refine y_gd (fun h3 => ?_)
    refine y_sld (pc := 8) dL_cell_8 rfl hLs h3 ?_
    refine y_goto (tgt := 20) (pc := 9) dL_cell_9 (by decide) ?_
    exact y_iret (pc := 20) dL_cell_20
theorem c_L_cell (Ls : Nat) (xs : Nat → Int32) (hLs : Ls < 2147483648) (hLs32 : I32 (Ls : Int)) (n : Nat) (M : Mem) (a1 : Int) : ∀ res : Int × Mem, m_L_cell Ls xs n M a1 = some res → CTi (some (Ls, xs)) yL_cell cL_cell 2 (some .int) 0 [rv 158, iv a1] M res := CTi_of (by decide +kernel) rfl (Nat.le_of_ble_eq_true rfl) rfl (y_L_cell Ls xs hLs hLs32 n M a1)
def m_L_pick (n : Nat) (M : Mem) (a0 : Int) (a1 : Int) : Rs := if I32 (bAnd a0 2147483647) then (if I32 a1 then (if a1 ≠ 0 then (some ((Int.tmod (bAnd a0 2147483647) a1), M)) else none) else none) else none
theorem y_L_pick (n : Nat) (M : Mem) (a0 : Int) (a1 : Int) : Y RL cL_pick 2 0 0 none 0 [some (iv a0), some (iv a1)] [] M (m_L_pick n M a0 a1) := by
  unfold m_L_pick
  refine y_iload_n (pc := 0) dL_pick_0 rfl ?_
  refine y_ldc (pc := 1) (n := 2147483647) k_L_7 (by decide) dL_pick_1 ?_
  refine y_iand (pc := 3) dL_pick_3 ?_
  refine y_iload_n (pc := 4) dL_pick_4 rfl ?_
  refine y_gd (fun h1 => ?_)
  refine y_gd (fun h2 => ?_)
  refine y_gd (fun h3 => ?_)
  refine y_irem (pc := 5) dL_pick_5 h1 h2 h3 ?_
  exact y_iret (pc := 6) dL_pick_6
theorem c_L_pick (n : Nat) (M : Mem) (a0 : Int) (a1 : Int) : ∀ res : Int × Mem, m_L_pick n M a0 a1 = some res → CTi none yL_pick cL_pick 2 (some .int) 0 [iv a0, iv a1] M res := CTi_of (by decide +kernel) rfl (Nat.le_of_ble_eq_true rfl) rfl (y_L_pick n M a0 a1)
