def m_X6_goesPerson_68 (n : Nat) : Nat → Mem → Int → Int → Int → Rs
  | 0, _, _, _, _ => none
  | t + 1, M, a1, a3, a4 => if I32 a4 then (if (rd M 137 7) ≤ a4 then (some (0, M)) else (if I32 a3 then (if a3 ≤ 0 then (some (0, M)) else (if 0 ≤ a4 ∧ a4 < 8 then (if 0 ≤ a1 ∧ a1 < 5 then (if (rd M 142 (Int.toNat a4)) = (rd M 147 (Int.toNat a1)) then (bd (m_X6_mayTake n M a1 a4) (fun r9 M8 => if I32 r9 then (if r9 = 0 then ((m_X6_goesPerson_68 n t) M8 a1 a3 (a4 + 1)) else (wr M8 143 (Int.toNat a4) a1 (fun M12 => (m_X6_goesPerson_68 n t) M12 a1 (a3 + (-1)) (a4 + 1)))) else none)) else ((m_X6_goesPerson_68 n t) M a1 a3 (a4 + 1))) else none) else none)) else none)) else none
theorem t_X6_goesPerson_68 (n : Nat) : ∀ (t : Nat) (M : Mem) (a1 : Int) (a3 : Int) (a4 : Int), Y RX6 cX6_goesPerson 5 5 3 none 68 [some (rv 137), some (iv a1), none, some (iv a3), some (iv a4)] [] M (m_X6_goesPerson_68 n t M a1 a3 a4) := by
  intro t
  induction t with
  | zero => intro M a1 a3 a4; exact y_none
  | succ t ih =>
    intro M a1 a3 a4
    rewrite [m_X6_goesPerson_68]
    refine y_iload (pc := 68) dX6_goesPerson_68 rfl ?_
    refine y_aload_n (pc := 70) dX6_goesPerson_70 rfl ?_
    refine y_getint (pc := 71) g_X6_86 dX6_goesPerson_71 ?_
    refine y_gd (fun h1 => ?_)
    refine y_icmp_ge (off := 53) (tgt := 127) (pc := 74) dX6_goesPerson_74 (by decide) h1 (rd_rng _ _ _) (fun h2 => ?_) (fun h2 => ?_)
    · exact y_vret (pc := 127) dX6_goesPerson_127
    · refine y_iload_n (pc := 77) dX6_goesPerson_77 rfl ?_
      refine y_gd (fun h3 => ?_)
      refine y_if_le (off := 49) (tgt := 127) (pc := 78) dX6_goesPerson_78 (by decide) h3 (fun h4 => ?_) (fun h4 => ?_)
      · exact y_vret (pc := 127) dX6_goesPerson_127
      · refine y_aload_n (pc := 81) dX6_goesPerson_81 rfl ?_
        refine y_getref (pc := 82) (x := 142) g_X6_25 dX6_goesPerson_82 ?_
        refine y_iload (pc := 85) dX6_goesPerson_85 rfl ?_
        refine y_gd (fun h5 => ?_)
        refine y_iald (pc := 87) dX6_goesPerson_87 ar_142 h5 ?_
        refine y_aload_n (pc := 88) dX6_goesPerson_88 rfl ?_
        refine y_getref (pc := 89) (x := 147) g_X6_40 dX6_goesPerson_89 ?_
        refine y_iload_n (pc := 92) dX6_goesPerson_92 rfl ?_
        refine y_gd (fun h6 => ?_)
        refine y_iald (pc := 93) dX6_goesPerson_93 ar_147 h6 ?_
        refine y_icmp_ne (off := 27) (tgt := 121) (pc := 94) dX6_goesPerson_94 (by decide) (rd_rng _ _ _) (rd_rng _ _ _) (fun h7 => ?_) (fun h7 => ?_)
        · refine y_iinc (L' := [some (rv 137), some (iv a1), none, some (iv a3), some (iv (a4 + 1))]) (pc := 121) dX6_goesPerson_121 rfl (by decide) rfl rfl ?_
          refine y_goto (tgt := 68) (pc := 124) dX6_goesPerson_124 (by decide) ?_
          exact y_sub (ls_s (ls_s (ls_n (ls_s (ls_s ls_0))))) (ih M a1 a3 (a4 + 1))
        · refine y_aload_n (pc := 97) dX6_goesPerson_97 rfl ?_
          refine y_iload_n (pc := 98) dX6_goesPerson_98 rfl ?_
          refine y_iload (pc := 99) dX6_goesPerson_99 rfl ?_
          refine y_callVi (pc := 101) v_X6_mayTake l_X6_154 dX6_goesPerson_101 (c_X6_mayTake n _ _ _) rfl rc_X6 rfl (by decide) (by decide) (Nat.le_of_ble_eq_true rfl) (fun r9 M8 _ => ?_)
          refine y_gd (fun h10 => ?_)
          refine y_if_ne (off := 6) (tgt := 110) (pc := 104) dX6_goesPerson_104 (by decide) h10 (fun h11 => ?_) (fun h11 => ?_)
          · refine y_aload_n (pc := 110) dX6_goesPerson_110 rfl ?_
            refine y_getref (pc := 111) (x := 143) g_X6_28 dX6_goesPerson_111 ?_
            refine y_iload (pc := 114) dX6_goesPerson_114 rfl ?_
            refine y_iload_n (pc := 116) dX6_goesPerson_116 rfl ?_
            refine y_iastw (pc := 117) dX6_goesPerson_117 ar_143 h5 (fun M12 => ?_)
            refine y_iinc (L' := [some (rv 137), some (iv a1), none, some (iv (a3 + (-1))), some (iv a4)]) (pc := 118) dX6_goesPerson_118 rfl (by decide) rfl rfl ?_
            refine y_iinc (L' := [some (rv 137), some (iv a1), none, some (iv (a3 + (-1))), some (iv (a4 + 1))]) (pc := 121) dX6_goesPerson_121 rfl (by decide) rfl rfl ?_
            refine y_goto (tgt := 68) (pc := 124) dX6_goesPerson_124 (by decide) ?_
            exact y_sub (ls_s (ls_s (ls_n (ls_s (ls_s ls_0))))) (ih M12 a1 (a3 + (-1)) (a4 + 1))
          · refine y_goto (tgt := 121) (pc := 107) dX6_goesPerson_107 (by decide) ?_
            refine y_iinc (L' := [some (rv 137), some (iv a1), none, some (iv a3), some (iv (a4 + 1))]) (pc := 121) dX6_goesPerson_121 rfl (by decide) rfl rfl ?_
            refine y_goto (tgt := 68) (pc := 124) dX6_goesPerson_124 (by decide) ?_
            exact y_sub (ls_s (ls_s (ls_n (ls_s (ls_s ls_0))))) (ih M8 a1 a3 (a4 + 1))
def m_X6_goesPerson_64 (n : Nat) (M : Mem) (a1 : Int) (s0 : Int) : Rs := m_X6_goesPerson_68 n n M a1 s0 0
theorem t_X6_goesPerson_64 (n : Nat) (M : Mem) (a1 : Int) (s0 : Int) : Y RX6 cX6_goesPerson 5 5 3 none 64 [some (rv 137), some (iv a1), none, none, none] [iv s0] M (m_X6_goesPerson_64 n M a1 s0) := by
  unfold m_X6_goesPerson_64
  refine y_istore_n (L' := [some (rv 137), some (iv a1), none, some (iv s0), none]) (pc := 64) dX6_goesPerson_64 (by decide) rfl rfl ?_
  refine y_iconst (pc := 65) dX6_goesPerson_65 ?_
  refine y_istore (L' := [some (rv 137), some (iv a1), none, some (iv s0), some (iv 0)]) (pc := 66) dX6_goesPerson_66 (by decide) rfl rfl ?_
  exact y_sub (ls_s (ls_s (ls_n (ls_s (ls_s ls_0))))) (t_X6_goesPerson_68 n n M a1 s0 0)
def m_X6_goesPerson_16 (n : Nat) : Nat → Mem → Int → Int → Int → Rs
  | 0, _, _, _, _ => none
  | t + 1, M, a1, a2, a3 => if I32 a3 then (if a3 ≤ 0 then (if 0 ≤ a1 ∧ a1 < 5 then (bd (m_X6_isFoggy n M (rd M 147 (Int.toNat a1))) (fun r17 M16 => if I32 r17 then (if r17 = 0 then (m_X6_goesPerson_64 n M16 a1 0) else (bd (m_X6_grabs n M16 a1) (fun r21 M20 => m_X6_goesPerson_64 n M20 a1 r21))) else none)) else none) else (if 0 ≤ a1 ∧ a1 < 5 then (bd (m_X6_nearer n M (rd M 147 (Int.toNat a1)) a2) (fun r24 M23 => wr M23 147 (Int.toNat a1) r24 (fun M25 => (m_X6_goesPerson_16 n t) M25 a1 a2 (a3 + (-1))))) else none)) else none
theorem t_X6_goesPerson_16 (n : Nat) : ∀ (t : Nat) (M : Mem) (a1 : Int) (a2 : Int) (a3 : Int), Y RX6 cX6_goesPerson 5 5 3 none 16 [some (rv 137), some (iv a1), some (iv a2), some (iv a3), none] [] M (m_X6_goesPerson_16 n t M a1 a2 a3) := by
  intro t
  induction t with
  | zero => intro M a1 a2 a3; exact y_none
  | succ t ih =>
    intro M a1 a2 a3
    rewrite [m_X6_goesPerson_16]
    refine y_iload_n (pc := 16) dX6_goesPerson_16 rfl ?_
    refine y_gd (fun h13 => ?_)
    refine y_if_le (off := 25) (tgt := 42) (pc := 17) dX6_goesPerson_17 (by decide) h13 (fun h14 => ?_) (fun h14 => ?_)
    · refine y_aload_n (pc := 42) dX6_goesPerson_42 rfl ?_
      refine y_aload_n (pc := 43) dX6_goesPerson_43 rfl ?_
      refine y_getref (pc := 44) (x := 147) g_X6_40 dX6_goesPerson_44 ?_
      refine y_iload_n (pc := 47) dX6_goesPerson_47 rfl ?_
      refine y_gd (fun h15 => ?_)
      refine y_iald (pc := 48) dX6_goesPerson_48 ar_147 h15 ?_
      refine y_callVi (pc := 49) v_X6_isFoggy l_X6_127 dX6_goesPerson_49 (c_X6_isFoggy n _ _) rfl rc_X6 rfl (by decide) (by decide) (Nat.le_of_ble_eq_true rfl) (fun r17 M16 _ => ?_)
      refine y_gd (fun h18 => ?_)
      refine y_if_eq (off := 11) (tgt := 63) (pc := 52) dX6_goesPerson_52 (by decide) h18 (fun h19 => ?_) (fun h19 => ?_)
      · refine y_iconst (pc := 63) dX6_goesPerson_63 ?_
        exact y_sub (ls_s (ls_s (ls_n (ls_n (ls_n ls_0))))) (t_X6_goesPerson_64 n M16 a1 0)
      · refine y_aload_n (pc := 55) dX6_goesPerson_55 rfl ?_
        refine y_iload_n (pc := 56) dX6_goesPerson_56 rfl ?_
        refine y_callVi (pc := 57) v_X6_grabs l_X6_151 dX6_goesPerson_57 (c_X6_grabs n _ _) rfl rc_X6 rfl (by decide) (by decide) (Nat.le_of_ble_eq_true rfl) (fun r21 M20 _ => ?_)
        refine y_goto (tgt := 64) (pc := 60) dX6_goesPerson_60 (by decide) ?_
        exact y_sub (ls_s (ls_s (ls_n (ls_n (ls_n ls_0))))) (t_X6_goesPerson_64 n M20 a1 r21)
    · refine y_aload_n (pc := 20) dX6_goesPerson_20 rfl ?_
      refine y_getref (pc := 21) (x := 147) g_X6_40 dX6_goesPerson_21 ?_
      refine y_iload_n (pc := 24) dX6_goesPerson_24 rfl ?_
      refine y_aload_n (pc := 25) dX6_goesPerson_25 rfl ?_
      refine y_getref (pc := 26) (x := 147) g_X6_40 dX6_goesPerson_26 ?_
      refine y_iload_n (pc := 29) dX6_goesPerson_29 rfl ?_
      refine y_gd (fun h22 => ?_)
      refine y_iald (pc := 30) dX6_goesPerson_30 ar_147 h22 ?_
      refine y_iload_n (pc := 31) dX6_goesPerson_31 rfl ?_
      refine y_callSi (pc := 32) s_X6_nearer l_X6_148 dX6_goesPerson_32 (c_X6_nearer n _ _ _) rfl rfl (by decide) (by decide) (Nat.le_of_ble_eq_true rfl) (fun r24 M23 _ => ?_)
      refine y_iastw (pc := 35) dX6_goesPerson_35 ar_147 h22 (fun M25 => ?_)
      refine y_iinc (L' := [some (rv 137), some (iv a1), some (iv a2), some (iv (a3 + (-1))), none]) (pc := 36) dX6_goesPerson_36 rfl (by decide) rfl rfl ?_
      refine y_goto (tgt := 16) (pc := 39) dX6_goesPerson_39 (by decide) ?_
      exact y_sub (ls_s (ls_s (ls_s (ls_s (ls_n ls_0))))) (ih M25 a1 a2 (a3 + (-1)))
def m_X6_goesPerson (n : Nat) (M : Mem) (a1 : Int) : Rs := bd (m_X6_goal n M a1 (rd M 137 13)) (fun r27 M26 => bd (m_X6_pace n M26 a1) (fun r29 M28 => m_X6_goesPerson_16 n n M28 a1 r27 r29))
theorem y_X6_goesPerson (n : Nat) (M : Mem) (a1 : Int) : Y RX6 cX6_goesPerson 5 5 3 none 0 [some (rv 137), some (iv a1), none, none, none] [] M (m_X6_goesPerson n M a1) := by
  unfold m_X6_goesPerson
  refine y_aload_n (pc := 0) dX6_goesPerson_0 rfl ?_
  refine y_iload_n (pc := 1) dX6_goesPerson_1 rfl ?_
  refine y_aload_n (pc := 2) dX6_goesPerson_2 rfl ?_
  refine y_getint (pc := 3) g_X6_114 dX6_goesPerson_3 ?_
  refine y_callVi (pc := 6) v_X6_goal l_X6_142 dX6_goesPerson_6 (c_X6_goal n _ _ _) rfl rc_X6 rfl (by decide) (by decide) (Nat.le_of_ble_eq_true rfl) (fun r27 M26 _ => ?_)
  refine y_istore_n (L' := [some (rv 137), some (iv a1), some (iv r27), none, none]) (pc := 9) dX6_goesPerson_9 (by decide) rfl rfl ?_
  refine y_aload_n (pc := 10) dX6_goesPerson_10 rfl ?_
  refine y_iload_n (pc := 11) dX6_goesPerson_11 rfl ?_
  refine y_callVi (pc := 12) v_X6_pace l_X6_145 dX6_goesPerson_12 (c_X6_pace n _ _) rfl rc_X6 rfl (by decide) (by decide) (Nat.le_of_ble_eq_true rfl) (fun r29 M28 _ => ?_)
  refine y_istore_n (L' := [some (rv 137), some (iv a1), some (iv r27), some (iv r29), none]) (pc := 15) dX6_goesPerson_15 (by decide) rfl rfl ?_
  exact y_sub (ls_s (ls_s (ls_s (ls_s (ls_n ls_0))))) (t_X6_goesPerson_16 n n M28 a1 r27 r29)
theorem c_X6_goesPerson (n : Nat) (M : Mem) (a1 : Int) : ∀ res : Int × Mem, m_X6_goesPerson n M a1 = some res → CTv yX6_goesPerson cX6_goesPerson 5 5 [rv 137, iv a1] M res := CTv_of (by decide +kernel) rfl (Nat.le_of_ble_eq_true rfl) rfl (y_X6_goesPerson n M a1)
def m_X6_goesHour_58 (n : Nat) : Nat → Mem → Int → Rs
  | 0, _, _ => none
  | t + 1, M, a1 => if I32 a1 then (if (rd M 137 12) ≤ a1 then (some (0, M)) else (bd (m_X6_goesPerson n M a1) (fun _ M3 => (m_X6_goesHour_58 n t) M3 (a1 + 1)))) else none
theorem t_X6_goesHour_58 (n : Nat) : ∀ (t : Nat) (M : Mem) (a1 : Int), Y RX6 cX6_goesHour 2 6 3 none 58 [some (rv 137), some (iv a1)] [] M (m_X6_goesHour_58 n t M a1) := by
  intro t
  induction t with
  | zero => intro M a1; exact y_none
  | succ t ih =>
    intro M a1
    rewrite [m_X6_goesHour_58]
    refine y_iload_n (pc := 58) dX6_goesHour_58 rfl ?_
    refine y_aload_n (pc := 59) dX6_goesHour_59 rfl ?_
    refine y_getint (pc := 60) g_X6_89 dX6_goesHour_60 ?_
    refine y_gd (fun h1 => ?_)
    refine y_icmp_ge (off := 14) (tgt := 77) (pc := 63) dX6_goesHour_63 (by decide) h1 (rd_rng _ _ _) (fun h2 => ?_) (fun h2 => ?_)
    · exact y_vret (pc := 77) dX6_goesHour_77
    · refine y_aload_n (pc := 66) dX6_goesHour_66 rfl ?_
      refine y_iload_n (pc := 67) dX6_goesHour_67 rfl ?_
      refine y_callVv (pc := 68) v_X6_goesPerson l_X6_158 dX6_goesHour_68 (c_X6_goesPerson n _ _) rfl rc_X6 rfl (by decide) (by decide) (Nat.le_of_ble_eq_true rfl) (fun _ M3 _ => ?_)
      refine y_iinc (L' := [some (rv 137), some (iv (a1 + 1))]) (pc := 71) dX6_goesHour_71 rfl (by decide) rfl rfl ?_
      refine y_goto (tgt := 58) (pc := 74) dX6_goesHour_74 (by decide) ?_
      exact y_sub (ls_s (ls_s ls_0)) (ih M3 (a1 + 1))
def m_X6_goesHour_49 (n : Nat) (k12 : Mem → Int → Rs) (M : Mem) (a1 : Int) (s0 : Int) (s1 : Int) : Rs := if 0 ≤ s1 ∧ s1 < 8 then (wr M 143 (Int.toNat s1) s0 (fun M5 => k12 M5 (a1 + 1))) else none
theorem t_X6_goesHour_49 (n : Nat) (k12 : Mem → Int → Rs) (hk12 : ∀ (M : Mem) (a1 : Int), Y RX6 cX6_goesHour 2 6 3 none 12 [some (rv 137), some (iv a1)] [] M (k12 M a1)) (M : Mem) (a1 : Int) (s0 : Int) (s1 : Int) : Y RX6 cX6_goesHour 2 6 3 none 49 [some (rv 137), some (iv a1)] [iv s0, iv s1, rv 143] M (m_X6_goesHour_49 n k12 M a1 s0 s1) := by
  unfold m_X6_goesHour_49
  refine y_gd (fun h4 => ?_)
  refine y_iastw (pc := 49) dX6_goesHour_49 ar_143 h4 (fun M5 => ?_)
  refine y_iinc (L' := [some (rv 137), some (iv (a1 + 1))]) (pc := 50) dX6_goesHour_50 rfl (by decide) rfl rfl ?_
  refine y_goto (tgt := 12) (pc := 53) dX6_goesHour_53 (by decide) ?_
  exact y_sub (ls_s (ls_s ls_0)) (hk12 M5 (a1 + 1))
def m_X6_goesHour_12 (n : Nat) : Nat → Mem → Int → Rs
  | 0, _, _ => none
  | t + 1, M, a1 => if I32 a1 then (if (rd M 137 7) ≤ a1 then (m_X6_goesHour_58 n n M 0) else (if 0 ≤ a1 ∧ a1 < 8 then (bd (m_X6_isFoggy n M (rd M 142 (Int.toNat a1))) (fun r10 M9 => if I32 r10 then (if r10 = 0 then (m_X6_goesHour_49 n (m_X6_goesHour_12 n t) M9 a1 (-9) a1) else (m_X6_goesHour_49 n (m_X6_goesHour_12 n t) M9 a1 (rd M9 143 (Int.toNat a1)) a1)) else none)) else none)) else none
theorem t_X6_goesHour_12 (n : Nat) : ∀ (t : Nat) (M : Mem) (a1 : Int), Y RX6 cX6_goesHour 2 6 3 none 12 [some (rv 137), some (iv a1)] [] M (m_X6_goesHour_12 n t M a1) := by
  intro t
  induction t with
  | zero => intro M a1; exact y_none
  | succ t ih =>
    intro M a1
    rewrite [m_X6_goesHour_12]
    refine y_iload_n (pc := 12) dX6_goesHour_12 rfl ?_
    refine y_aload_n (pc := 13) dX6_goesHour_13 rfl ?_
    refine y_getint (pc := 14) g_X6_86 dX6_goesHour_14 ?_
    refine y_gd (fun h6 => ?_)
    refine y_icmp_ge (off := 39) (tgt := 56) (pc := 17) dX6_goesHour_17 (by decide) h6 (rd_rng _ _ _) (fun h7 => ?_) (fun h7 => ?_)
    · refine y_iconst (pc := 56) dX6_goesHour_56 ?_
      refine y_istore_n (L' := [some (rv 137), some (iv 0)]) (pc := 57) dX6_goesHour_57 (by decide) rfl rfl ?_
      exact y_sub (ls_s (ls_s ls_0)) (t_X6_goesHour_58 n n M 0)
    · refine y_aload_n (pc := 20) dX6_goesHour_20 rfl ?_
      refine y_getref (pc := 21) (x := 143) g_X6_28 dX6_goesHour_21 ?_
      refine y_iload_n (pc := 24) dX6_goesHour_24 rfl ?_
      refine y_aload_n (pc := 25) dX6_goesHour_25 rfl ?_
      refine y_aload_n (pc := 26) dX6_goesHour_26 rfl ?_
      refine y_getref (pc := 27) (x := 142) g_X6_25 dX6_goesHour_27 ?_
      refine y_iload_n (pc := 30) dX6_goesHour_30 rfl ?_
      refine y_gd (fun h8 => ?_)
      refine y_iald (pc := 31) dX6_goesHour_31 ar_142 h8 ?_
      refine y_callVi (pc := 32) v_X6_isFoggy l_X6_127 dX6_goesHour_32 (c_X6_isFoggy n _ _) rfl rc_X6 rfl (by decide) (by decide) (Nat.le_of_ble_eq_true rfl) (fun r10 M9 _ => ?_)
      refine y_gd (fun h11 => ?_)
      refine y_if_eq (off := 12) (tgt := 47) (pc := 35) dX6_goesHour_35 (by decide) h11 (fun h12 => ?_) (fun h12 => ?_)
      · refine y_bipush (pc := 47) dX6_goesHour_47 (by decide) ?_
        exact y_sub (ls_s (ls_s ls_0)) (t_X6_goesHour_49 n (m_X6_goesHour_12 n t) ih M9 a1 (-9) a1)
      · refine y_aload_n (pc := 38) dX6_goesHour_38 rfl ?_
        refine y_getref (pc := 39) (x := 143) g_X6_28 dX6_goesHour_39 ?_
        refine y_iload_n (pc := 42) dX6_goesHour_42 rfl ?_
        refine y_iald (pc := 43) dX6_goesHour_43 ar_143 h8 ?_
        refine y_goto (tgt := 49) (pc := 44) dX6_goesHour_44 (by decide) ?_
        exact y_sub (ls_s (ls_s ls_0)) (t_X6_goesHour_49 n (m_X6_goesHour_12 n t) ih M9 a1 (rd M9 143 (Int.toNat a1)) a1)
def m_X6_goesHour (n : Nat) (M : Mem) : Rs := wr M 137 13 ((rd M 137 13) + 1) (fun M13 => m_X6_goesHour_12 n n M13 0)
theorem y_X6_goesHour (n : Nat) (M : Mem) : Y RX6 cX6_goesHour 2 6 3 none 0 [some (rv 137), none] [] M (m_X6_goesHour n M) := by
  unfold m_X6_goesHour
  refine y_aload_n (pc := 0) dX6_goesHour_0 rfl ?_
  refine y_dup (pc := 1) dX6_goesHour_1 rfl ?_
  refine y_getint (pc := 2) g_X6_114 dX6_goesHour_2 ?_
  refine y_iconst (pc := 5) dX6_goesHour_5 ?_
  refine y_iadd (pc := 6) dX6_goesHour_6 ?_
  refine y_putintw (pc := 7) pf_X6_114 dX6_goesHour_7 (fun M13 => ?_)
  refine y_iconst (pc := 10) dX6_goesHour_10 ?_
  refine y_istore_n (L' := [some (rv 137), some (iv 0)]) (pc := 11) dX6_goesHour_11 (by decide) rfl rfl ?_
  exact y_sub (ls_s (ls_s ls_0)) (t_X6_goesHour_12 n n M13 0)
theorem c_X6_goesHour (n : Nat) (M : Mem) : ∀ res : Int × Mem, m_X6_goesHour n M = some res → CTv yX6_goesHour cX6_goesHour 2 6 [rv 137] M res := CTv_of (by decide +kernel) rfl (Nat.le_of_ble_eq_true rfl) rfl (y_X6_goesHour n M)
def m_X6_goes_2 (n : Nat) : Nat → Mem → Int → Int → Rs
  | 0, _, _, _ => none
  | t + 1, M, a1, a2 => if I32 a2 then (if I32 a1 then (if a1 ≤ a2 then (some (0, M)) else (bd (m_X6_goesHour n M) (fun _ M4 => (m_X6_goes_2 n t) M4 a1 (a2 + 1)))) else none) else none
theorem t_X6_goes_2 (n : Nat) : ∀ (t : Nat) (M : Mem) (a1 : Int) (a2 : Int), Y RX6 cX6_goes 3 7 3 none 2 [some (rv 137), some (iv a1), some (iv a2)] [] M (m_X6_goes_2 n t M a1 a2) := by
  intro t
  induction t with
  | zero => intro M a1 a2; exact y_none
  | succ t ih =>
    intro M a1 a2
    rewrite [m_X6_goes_2]
    refine y_iload_n (pc := 2) dX6_goes_2 rfl ?_
    refine y_iload_n (pc := 3) dX6_goes_3 rfl ?_
    refine y_gd (fun h1 => ?_)
    refine y_gd (fun h2 => ?_)
    refine y_icmp_ge (off := 13) (tgt := 17) (pc := 4) dX6_goes_4 (by decide) h1 h2 (fun h3 => ?_) (fun h3 => ?_)
    · exact y_vret (pc := 17) dX6_goes_17
    · refine y_aload_n (pc := 7) dX6_goes_7 rfl ?_
      refine y_callVv (pc := 8) v_X6_goesHour l_X6_162 dX6_goes_8 (c_X6_goesHour n _) rfl rc_X6 rfl (by decide) (by decide) (Nat.le_of_ble_eq_true rfl) (fun _ M4 _ => ?_)
      refine y_iinc (L' := [some (rv 137), some (iv a1), some (iv (a2 + 1))]) (pc := 11) dX6_goes_11 rfl (by decide) rfl rfl ?_
      refine y_goto (tgt := 2) (pc := 14) dX6_goes_14 (by decide) ?_
      exact y_sub (ls_s (ls_s (ls_s ls_0))) (ih M4 a1 (a2 + 1))
def m_X6_goes (n : Nat) (M : Mem) (a1 : Int) : Rs := m_X6_goes_2 n n M a1 0
theorem y_X6_goes (n : Nat) (M : Mem) (a1 : Int) : Y RX6 cX6_goes 3 7 3 none 0 [some (rv 137), some (iv a1), none] [] M (m_X6_goes n M a1) := by
  unfold m_X6_goes
  refine y_iconst (pc := 0) dX6_goes_0 ?_
  refine y_istore_n (L' := [some (rv 137), some (iv a1), some (iv 0)]) (pc := 1) dX6_goes_1 (by decide) rfl rfl ?_
  exact y_sub (ls_s (ls_s (ls_s ls_0))) (t_X6_goes_2 n n M a1 0)
theorem c_X6_goes (n : Nat) (M : Mem) (a1 : Int) : ∀ res : Int × Mem, m_X6_goes n M a1 = some res → CTv yX6_goes cX6_goes 3 7 [rv 137, iv a1] M res := CTv_of (by decide +kernel) rfl (Nat.le_of_ble_eq_true rfl) rfl (y_X6_goes n M a1)
def m_X6_manyOwned_27 (n : Nat) (k4 : Mem → Int → Int → Rs) (M : Mem) (a2 : Int) (s0 : Int) (s1 : Int) : Rs := k4 M (s1 + s0) (a2 + 1)
theorem t_X6_manyOwned_27 (n : Nat) (k4 : Mem → Int → Int → Rs) (hk4 : ∀ (M : Mem) (a1 : Int) (a2 : Int), Y RX6 cX6_manyOwned 3 0 0 none 4 [some (rv 137), some (iv a1), some (iv a2)] [] M (k4 M a1 a2)) (M : Mem) (a2 : Int) (s0 : Int) (s1 : Int) : Y RX6 cX6_manyOwned 3 0 0 none 27 [some (rv 137), none, some (iv a2)] [iv s0, iv s1] M (m_X6_manyOwned_27 n k4 M a2 s0 s1) := by
  unfold m_X6_manyOwned_27
  refine y_iadd (pc := 27) dX6_manyOwned_27 ?_
  refine y_istore_n (L' := [some (rv 137), some (iv (s1 + s0)), some (iv a2)]) (pc := 28) dX6_manyOwned_28 (by decide) rfl rfl ?_
  refine y_iinc (L' := [some (rv 137), some (iv (s1 + s0)), some (iv (a2 + 1))]) (pc := 29) dX6_manyOwned_29 rfl (by decide) rfl rfl ?_
  refine y_goto (tgt := 4) (pc := 32) dX6_manyOwned_32 (by decide) ?_
  exact y_sub (ls_s (ls_s (ls_s ls_0))) (hk4 M (s1 + s0) (a2 + 1))
def m_X6_manyOwned_4 (n : Nat) : Nat → Mem → Int → Int → Rs
  | 0, _, _, _ => none
  | t + 1, M, a1, a2 => if I32 a2 then (if (rd M 137 7) ≤ a2 then (some (a1, M)) else (if 0 ≤ a2 ∧ a2 < 8 then (if (rd M 143 (Int.toNat a2)) < 0 then (m_X6_manyOwned_27 n (m_X6_manyOwned_4 n t) M a2 0 a1) else (m_X6_manyOwned_27 n (m_X6_manyOwned_4 n t) M a2 1 a1)) else none)) else none
theorem t_X6_manyOwned_4 (n : Nat) : ∀ (t : Nat) (M : Mem) (a1 : Int) (a2 : Int), Y RX6 cX6_manyOwned 3 0 0 none 4 [some (rv 137), some (iv a1), some (iv a2)] [] M (m_X6_manyOwned_4 n t M a1 a2) := by
  intro t
  induction t with
  | zero => intro M a1 a2; exact y_none
  | succ t ih =>
    intro M a1 a2
    rewrite [m_X6_manyOwned_4]
    refine y_iload_n (pc := 4) dX6_manyOwned_4 rfl ?_
    refine y_aload_n (pc := 5) dX6_manyOwned_5 rfl ?_
    refine y_getint (pc := 6) g_X6_86 dX6_manyOwned_6 ?_
    refine y_gd (fun h1 => ?_)
    refine y_icmp_ge (off := 26) (tgt := 35) (pc := 9) dX6_manyOwned_9 (by decide) h1 (rd_rng _ _ _) (fun h2 => ?_) (fun h2 => ?_)
    · refine y_iload_n (pc := 35) dX6_manyOwned_35 rfl ?_
      exact y_iret (pc := 36) dX6_manyOwned_36
    · refine y_iload_n (pc := 12) dX6_manyOwned_12 rfl ?_
      refine y_aload_n (pc := 13) dX6_manyOwned_13 rfl ?_
      refine y_getref (pc := 14) (x := 143) g_X6_28 dX6_manyOwned_14 ?_
      refine y_iload_n (pc := 17) dX6_manyOwned_17 rfl ?_
      refine y_gd (fun h3 => ?_)
      refine y_iald (pc := 18) dX6_manyOwned_18 ar_143 h3 ?_
      refine y_if_lt (off := 7) (tgt := 26) (pc := 19) dX6_manyOwned_19 (by decide) (rd_rng _ _ _) (fun h4 => ?_) (fun h4 => ?_)
      · refine y_iconst (pc := 26) dX6_manyOwned_26 ?_
        exact y_sub (ls_s (ls_n (ls_s ls_0))) (t_X6_manyOwned_27 n (m_X6_manyOwned_4 n t) ih M a2 0 a1)
      · refine y_iconst (pc := 22) dX6_manyOwned_22 ?_
        refine y_goto (tgt := 27) (pc := 23) dX6_manyOwned_23 (by decide) ?_
        exact y_sub (ls_s (ls_n (ls_s ls_0))) (t_X6_manyOwned_27 n (m_X6_manyOwned_4 n t) ih M a2 1 a1)
def m_X6_manyOwned (n : Nat) (M : Mem) : Rs := m_X6_manyOwned_4 n n M 0 0
theorem y_X6_manyOwned (n : Nat) (M : Mem) : Y RX6 cX6_manyOwned 3 0 0 none 0 [some (rv 137), none, none] [] M (m_X6_manyOwned n M) := by
  unfold m_X6_manyOwned
  refine y_iconst (pc := 0) dX6_manyOwned_0 ?_
  refine y_istore_n (L' := [some (rv 137), some (iv 0), none]) (pc := 1) dX6_manyOwned_1 (by decide) rfl rfl ?_
  refine y_iconst (pc := 2) dX6_manyOwned_2 ?_
  refine y_istore_n (L' := [some (rv 137), some (iv 0), some (iv 0)]) (pc := 3) dX6_manyOwned_3 (by decide) rfl rfl ?_
  exact y_sub (ls_s (ls_s (ls_s ls_0))) (t_X6_manyOwned_4 n n M 0 0)
theorem c_X6_manyOwned (n : Nat) (M : Mem) : ∀ res : Int × Mem, m_X6_manyOwned n M = some res → CTi yX6_manyOwned cX6_manyOwned 3 (some .int) 0 [rv 137] M res := CTi_of (by decide +kernel) rfl (Nat.le_of_ble_eq_true rfl) rfl (y_X6_manyOwned n M)
def m_X6_worthsOf_33 (n : Nat) (k4 : Mem → Int → Int → Int → Rs) (M : Mem) (a1 : Int) (a3 : Int) (s0 : Int) (s1 : Int) : Rs := k4 M a1 (s1 + s0) (a3 + 1)
theorem t_X6_worthsOf_33 (n : Nat) (k4 : Mem → Int → Int → Int → Rs) (hk4 : ∀ (M : Mem) (a1 : Int) (a2 : Int) (a3 : Int), Y RX6 cX6_worthsOf 4 0 0 none 4 [some (rv 137), some (iv a1), some (iv a2), some (iv a3)] [] M (k4 M a1 a2 a3)) (M : Mem) (a1 : Int) (a3 : Int) (s0 : Int) (s1 : Int) : Y RX6 cX6_worthsOf 4 0 0 none 33 [some (rv 137), some (iv a1), none, some (iv a3)] [iv s0, iv s1] M (m_X6_worthsOf_33 n k4 M a1 a3 s0 s1) := by
  unfold m_X6_worthsOf_33
  refine y_iadd (pc := 33) dX6_worthsOf_33 ?_
  refine y_istore_n (L' := [some (rv 137), some (iv a1), some (iv (s1 + s0)), some (iv a3)]) (pc := 34) dX6_worthsOf_34 (by decide) rfl rfl ?_
  refine y_iinc (L' := [some (rv 137), some (iv a1), some (iv (s1 + s0)), some (iv (a3 + 1))]) (pc := 35) dX6_worthsOf_35 rfl (by decide) rfl rfl ?_
  refine y_goto (tgt := 4) (pc := 38) dX6_worthsOf_38 (by decide) ?_
  exact y_sub (ls_s (ls_s (ls_s (ls_s ls_0)))) (hk4 M a1 (s1 + s0) (a3 + 1))
def m_X6_worthsOf_4 (n : Nat) : Nat → Mem → Int → Int → Int → Rs
  | 0, _, _, _, _ => none
  | t + 1, M, a1, a2, a3 => if I32 a3 then (if (rd M 137 7) ≤ a3 then (some (a2, M)) else (if 0 ≤ a3 ∧ a3 < 8 then (if I32 a1 then (if (rd M 143 (Int.toNat a3)) = a1 then (m_X6_worthsOf_33 n (m_X6_worthsOf_4 n t) M a1 a3 (rd M 141 (Int.toNat a3)) a2) else (m_X6_worthsOf_33 n (m_X6_worthsOf_4 n t) M a1 a3 0 a2)) else none) else none)) else none
theorem t_X6_worthsOf_4 (n : Nat) : ∀ (t : Nat) (M : Mem) (a1 : Int) (a2 : Int) (a3 : Int), Y RX6 cX6_worthsOf 4 0 0 none 4 [some (rv 137), some (iv a1), some (iv a2), some (iv a3)] [] M (m_X6_worthsOf_4 n t M a1 a2 a3) := by
  intro t
  induction t with
  | zero => intro M a1 a2 a3; exact y_none
  | succ t ih =>
    intro M a1 a2 a3
    rewrite [m_X6_worthsOf_4]
    refine y_iload_n (pc := 4) dX6_worthsOf_4 rfl ?_
    refine y_aload_n (pc := 5) dX6_worthsOf_5 rfl ?_
    refine y_getint (pc := 6) g_X6_86 dX6_worthsOf_6 ?_
    refine y_gd (fun h1 => ?_)
    refine y_icmp_ge (off := 32) (tgt := 41) (pc := 9) dX6_worthsOf_9 (by decide) h1 (rd_rng _ _ _) (fun h2 => ?_) (fun h2 => ?_)
    · refine y_iload_n (pc := 41) dX6_worthsOf_41 rfl ?_
      exact y_iret (pc := 42) dX6_worthsOf_42
    · refine y_iload_n (pc := 12) dX6_worthsOf_12 rfl ?_
      refine y_aload_n (pc := 13) dX6_worthsOf_13 rfl ?_
      refine y_getref (pc := 14) (x := 143) g_X6_28 dX6_worthsOf_14 ?_
      refine y_iload_n (pc := 17) dX6_worthsOf_17 rfl ?_
      refine y_gd (fun h3 => ?_)
      refine y_iald (pc := 18) dX6_worthsOf_18 ar_143 h3 ?_
      refine y_iload_n (pc := 19) dX6_worthsOf_19 rfl ?_
      refine y_gd (fun h4 => ?_)
      refine y_icmp_ne (off := 12) (tgt := 32) (pc := 20) dX6_worthsOf_20 (by decide) (rd_rng _ _ _) h4 (fun h5 => ?_) (fun h5 => ?_)
      · refine y_iconst (pc := 32) dX6_worthsOf_32 ?_
        exact y_sub (ls_s (ls_s (ls_n (ls_s ls_0)))) (t_X6_worthsOf_33 n (m_X6_worthsOf_4 n t) ih M a1 a3 0 a2)
      · refine y_aload_n (pc := 23) dX6_worthsOf_23 rfl ?_
        refine y_getref (pc := 24) (x := 141) g_X6_22 dX6_worthsOf_24 ?_
        refine y_iload_n (pc := 27) dX6_worthsOf_27 rfl ?_
        refine y_iald (pc := 28) dX6_worthsOf_28 ar_141 h3 ?_
        refine y_goto (tgt := 33) (pc := 29) dX6_worthsOf_29 (by decide) ?_
        exact y_sub (ls_s (ls_s (ls_n (ls_s ls_0)))) (t_X6_worthsOf_33 n (m_X6_worthsOf_4 n t) ih M a1 a3 (rd M 141 (Int.toNat a3)) a2)
def m_X6_worthsOf (n : Nat) (M : Mem) (a1 : Int) : Rs := m_X6_worthsOf_4 n n M a1 0 0
theorem y_X6_worthsOf (n : Nat) (M : Mem) (a1 : Int) : Y RX6 cX6_worthsOf 4 0 0 none 0 [some (rv 137), some (iv a1), none, none] [] M (m_X6_worthsOf n M a1) := by
  unfold m_X6_worthsOf
  refine y_iconst (pc := 0) dX6_worthsOf_0 ?_
  refine y_istore_n (L' := [some (rv 137), some (iv a1), some (iv 0), none]) (pc := 1) dX6_worthsOf_1 (by decide) rfl rfl ?_
  refine y_iconst (pc := 2) dX6_worthsOf_2 ?_
  refine y_istore_n (L' := [some (rv 137), some (iv a1), some (iv 0), some (iv 0)]) (pc := 3) dX6_worthsOf_3 (by decide) rfl rfl ?_
  exact y_sub (ls_s (ls_s (ls_s (ls_s ls_0)))) (t_X6_worthsOf_4 n n M a1 0 0)
theorem c_X6_worthsOf (n : Nat) (M : Mem) (a1 : Int) : ∀ res : Int × Mem, m_X6_worthsOf n M a1 = some res → CTi yX6_worthsOf cX6_worthsOf 4 (some .int) 0 [rv 137, iv a1] M res := CTi_of (by decide +kernel) rfl (Nat.le_of_ble_eq_true rfl) rfl (y_X6_worthsOf n M a1)
def m_X6_feed_25 (n : Nat) (M : Mem) (a1 : Int) (a2 : Int) : Rs := if I32 a2 then (if a2 = 0 then (if 0 ≤ (rd M 137 22) ∧ (rd M 137 22) < 96 then (wr M 151 (Int.toNat (rd M 137 22)) a1 (fun M4 => wr M4 137 22 ((rd M4 137 22) + 1) (fun M5 => some ((rd M5 137 22), M5)))) else none) else (bd (m_X6_no n M a2) (fun r7 M6 => some (r7, M6)))) else none
theorem t_X6_feed_25 (n : Nat) (M : Mem) (a1 : Int) (a2 : Int) : Y RX6 cX6_feed 3 1 0 none 25 [some (rv 137), some (iv a1), some (iv a2)] [] M (m_X6_feed_25 n M a1 a2) := by
  unfold m_X6_feed_25
  refine y_iload_n (pc := 25) dX6_feed_25 rfl ?_
  refine y_gd (fun h1 => ?_)
  refine y_if_eq (off := 9) (tgt := 35) (pc := 26) dX6_feed_26 (by decide) h1 (fun h2 => ?_) (fun h2 => ?_)
  · refine y_aload_n (pc := 35) dX6_feed_35 rfl ?_
    refine y_getref (pc := 36) (x := 151) g_X6_53 dX6_feed_36 ?_
    refine y_aload_n (pc := 39) dX6_feed_39 rfl ?_
    refine y_getint (pc := 40) g_X6_169 dX6_feed_40 ?_
    refine y_iload_n (pc := 43) dX6_feed_43 rfl ?_
    refine y_gd (fun h3 => ?_)
    refine y_iastw (pc := 44) dX6_feed_44 ar_151 h3 (fun M4 => ?_)
    refine y_aload_n (pc := 45) dX6_feed_45 rfl ?_
    refine y_dup (pc := 46) dX6_feed_46 rfl ?_
    refine y_getint (pc := 47) g_X6_169 dX6_feed_47 ?_
    refine y_iconst (pc := 50) dX6_feed_50 ?_
    refine y_iadd (pc := 51) dX6_feed_51 ?_
    refine y_putintw (pc := 52) pf_X6_169 dX6_feed_52 (fun M5 => ?_)
    refine y_aload_n (pc := 55) dX6_feed_55 rfl ?_
    refine y_getint (pc := 56) g_X6_169 dX6_feed_56 ?_
    exact y_iret (pc := 59) dX6_feed_59
  · refine y_aload_n (pc := 29) dX6_feed_29 rfl ?_
    refine y_iload_n (pc := 30) dX6_feed_30 rfl ?_
    refine y_callVi (pc := 31) v_X6_no l_X6_172 dX6_feed_31 (c_X6_no n _ _) rfl rc_X6 rfl (by decide) (by decide) (Nat.le_of_ble_eq_true rfl) (fun r7 M6 _ => ?_)
    exact y_iret (pc := 34) dX6_feed_34
def m_X6_feed (n : Nat) (M : Mem) (a1 : Int) : Rs := bd (m_X6_bound n M a1 0 255) (fun r9 M8 => if I32 r9 then (if r9 = 0 then (if (rd M8 137 22) = 96 then (m_X6_feed_25 n M8 a1 (-6)) else (m_X6_feed_25 n M8 a1 r9)) else (m_X6_feed_25 n M8 a1 r9)) else none)
theorem y_X6_feed (n : Nat) (M : Mem) (a1 : Int) : Y RX6 cX6_feed 3 1 0 none 0 [some (rv 137), some (iv a1), none] [] M (m_X6_feed n M a1) := by
  unfold m_X6_feed
  refine y_iload_n (pc := 0) dX6_feed_0 rfl ?_
  refine y_iconst (pc := 1) dX6_feed_1 ?_
  refine y_sipush (pc := 2) dX6_feed_2 (by decide) ?_
  refine y_callSi (pc := 5) s_X6_bound l_X6_165 dX6_feed_5 (c_X6_bound n _ _ _ _) rfl rfl (by decide) (by decide) (Nat.le_of_ble_eq_true rfl) (fun r9 M8 _ => ?_)
  refine y_istore_n (L' := [some (rv 137), some (iv a1), some (iv r9)]) (pc := 8) dX6_feed_8 (by decide) rfl rfl ?_
  refine y_iload_n (pc := 9) dX6_feed_9 rfl ?_
  refine y_gd (fun h10 => ?_)
  refine y_if_ne (off := 15) (tgt := 25) (pc := 10) dX6_feed_10 (by decide) h10 (fun h11 => ?_) (fun h11 => ?_)
  · exact y_sub (ls_s (ls_s (ls_s ls_0))) (t_X6_feed_25 n M8 a1 r9)
  · refine y_aload_n (pc := 13) dX6_feed_13 rfl ?_
    refine y_getint (pc := 14) g_X6_169 dX6_feed_14 ?_
    refine y_bipush (pc := 17) dX6_feed_17 (by decide) ?_
    refine y_icmp_ne (off := 6) (tgt := 25) (pc := 19) dX6_feed_19 (by decide) (rd_rng _ _ _) (by decide) (fun h12 => ?_) (fun h12 => ?_)
    · exact y_sub (ls_s (ls_s (ls_s ls_0))) (t_X6_feed_25 n M8 a1 r9)
    · refine y_bipush (pc := 22) dX6_feed_22 (by decide) ?_
      refine y_istore_n (L' := [some (rv 137), some (iv a1), some (iv (-6))]) (pc := 24) dX6_feed_24 (by decide) rfl rfl ?_
      exact y_sub (ls_s (ls_s (ls_s ls_0))) (t_X6_feed_25 n M8 a1 (-6))
theorem c_X6_feed (n : Nat) (M : Mem) (a1 : Int) : ∀ res : Int × Mem, m_X6_feed n M a1 = some res → CTi yX6_feed cX6_feed 3 (some .int) 1 [rv 137, iv a1] M res := CTi_of (by decide +kernel) rfl (Nat.le_of_ble_eq_true rfl) rfl (y_X6_feed n M a1)
def m_X6_sign (n : Nat) (M : Mem) : Rs := if (rd M 137 22) ≤ (rd M 137 23) then (some ((-1), M)) else (if 0 ≤ (rd M 137 23) ∧ (rd M 137 23) < 96 then (some ((rd M 151 (Int.toNat (rd M 137 23))), M)) else none)
theorem y_X6_sign (n : Nat) (M : Mem) : Y RX6 cX6_sign 1 0 0 none 0 [some (rv 137)] [] M (m_X6_sign n M) := by
  unfold m_X6_sign
  refine y_aload_n (pc := 0) dX6_sign_0 rfl ?_
  refine y_getint (pc := 1) g_X6_175 dX6_sign_1 ?_
  refine y_aload_n (pc := 4) dX6_sign_4 rfl ?_
  refine y_getint (pc := 5) g_X6_169 dX6_sign_5 ?_
  refine y_icmp_ge (off := 15) (tgt := 23) (pc := 8) dX6_sign_8 (by decide) (rd_rng _ _ _) (rd_rng _ _ _) (fun h1 => ?_) (fun h1 => ?_)
  · refine y_iconst (pc := 23) dX6_sign_23 ?_
    exact y_iret (pc := 24) dX6_sign_24
  · refine y_aload_n (pc := 11) dX6_sign_11 rfl ?_
    refine y_getref (pc := 12) (x := 151) g_X6_53 dX6_sign_12 ?_
    refine y_aload_n (pc := 15) dX6_sign_15 rfl ?_
    refine y_getint (pc := 16) g_X6_175 dX6_sign_16 ?_
    refine y_gd (fun h2 => ?_)
    refine y_iald (pc := 19) dX6_sign_19 ar_151 h2 ?_
    refine y_goto (tgt := 24) (pc := 20) dX6_sign_20 (by decide) ?_
    exact y_iret (pc := 24) dX6_sign_24
theorem c_X6_sign (n : Nat) (M : Mem) : ∀ res : Int × Mem, m_X6_sign n M = some res → CTi yX6_sign cX6_sign 1 (some .int) 0 [rv 137] M res := CTi_of (by decide +kernel) rfl (Nat.le_of_ble_eq_true rfl) rfl (y_X6_sign n M)
def m_X6_readsDigits_4 (n : Nat) : Nat → Mem → Int → Int → Int → Rs
  | 0, _, _, _, _ => none
  | t + 1, M, a1, a2, a3 => if I32 a3 then (if I32 a1 then (if a1 ≤ a3 then (if 0 ≤ (rd M 137 25) ∧ (rd M 137 25) < 99 then (wr M 154 (Int.toNat (rd M 137 25)) a2 (fun M5 => wr M5 137 25 ((rd M5 137 25) + 1) (fun M6 => some (1, M6)))) else none) else (bd (m_X6_sign n M) (fun r8 M7 => bd (m_X6_isIn n M7 r8 48 57) (fun r10 M9 => if I32 r10 then (if r10 = 0 then (some (0, M9)) else (bd (m_X6_sign n M9) (fun r14 M13 => lt (((10 * a2) + r14) - 48) (fun x15 => wr M13 137 23 ((rd M13 137 23) + 1) (fun M16 => (m_X6_readsDigits_4 n t) M16 a1 x15 (a3 + 1)))))) else none)))) else none) else none
theorem t_X6_readsDigits_4 (n : Nat) : ∀ (t : Nat) (M : Mem) (a1 : Int) (a2 : Int) (a3 : Int), Y RX6 cX6_readsDigits 4 1 1 none 4 [some (rv 137), some (iv a1), some (iv a2), some (iv a3)] [] M (m_X6_readsDigits_4 n t M a1 a2 a3) := by
  intro t
  induction t with
  | zero => intro M a1 a2 a3; exact y_none
  | succ t ih =>
    intro M a1 a2 a3
    rewrite [m_X6_readsDigits_4]
    refine y_iload_n (pc := 4) dX6_readsDigits_4 rfl ?_
    refine y_iload_n (pc := 5) dX6_readsDigits_5 rfl ?_
    refine y_gd (fun h1 => ?_)
    refine y_gd (fun h2 => ?_)
    refine y_icmp_ge (off := 48) (tgt := 54) (pc := 6) dX6_readsDigits_6 (by decide) h1 h2 (fun h3 => ?_) (fun h3 => ?_)
    · refine y_aload_n (pc := 54) dX6_readsDigits_54 rfl ?_
      refine y_getref (pc := 55) (x := 154) g_X6_62 dX6_readsDigits_55 ?_
      refine y_aload_n (pc := 58) dX6_readsDigits_58 rfl ?_
      refine y_getint (pc := 59) g_X6_182 dX6_readsDigits_59 ?_
      refine y_iload_n (pc := 62) dX6_readsDigits_62 rfl ?_
      refine y_gd (fun h4 => ?_)
      refine y_iastw (pc := 63) dX6_readsDigits_63 ar_154 h4 (fun M5 => ?_)
      refine y_aload_n (pc := 64) dX6_readsDigits_64 rfl ?_
      refine y_dup (pc := 65) dX6_readsDigits_65 rfl ?_
      refine y_getint (pc := 66) g_X6_182 dX6_readsDigits_66 ?_
      refine y_iconst (pc := 69) dX6_readsDigits_69 ?_
      refine y_iadd (pc := 70) dX6_readsDigits_70 ?_
      refine y_putintw (pc := 71) pf_X6_182 dX6_readsDigits_71 (fun M6 => ?_)
      refine y_iconst (pc := 74) dX6_readsDigits_74 ?_
      exact y_zret (pc := 75) dX6_readsDigits_75 (by decide)
    · refine y_aload_n (pc := 9) dX6_readsDigits_9 rfl ?_
      refine y_callVi (pc := 10) v_X6_sign l_X6_178 dX6_readsDigits_10 (c_X6_sign n _) rfl rc_X6 rfl (by decide) (by decide) (Nat.le_of_ble_eq_true rfl) (fun r8 M7 _ => ?_)
      refine y_bipush (pc := 13) dX6_readsDigits_13 (by decide) ?_
      refine y_bipush (pc := 15) dX6_readsDigits_15 (by decide) ?_
      refine y_callSi (pc := 17) s_X6_isIn l_X6_82 dX6_readsDigits_17 (c_X6_isIn n _ _ _ _) rfl rfl (by decide) (by decide) (Nat.le_of_ble_eq_true rfl) (fun r10 M9 _ => ?_)
      refine y_gd (fun h11 => ?_)
      refine y_if_ne (off := 5) (tgt := 25) (pc := 20) dX6_readsDigits_20 (by decide) h11 (fun h12 => ?_) (fun h12 => ?_)
      · refine y_bipush (pc := 25) dX6_readsDigits_25 (by decide) ?_
        refine y_iload_n (pc := 27) dX6_readsDigits_27 rfl ?_
        refine y_imul (pc := 28) dX6_readsDigits_28 ?_
        refine y_aload_n (pc := 29) dX6_readsDigits_29 rfl ?_
        refine y_callVi (pc := 30) v_X6_sign l_X6_178 dX6_readsDigits_30 (c_X6_sign n _) rfl rc_X6 rfl (by decide) (by decide) (Nat.le_of_ble_eq_true rfl) (fun r14 M13 _ => ?_)
        refine y_iadd (pc := 33) dX6_readsDigits_33 ?_
        refine y_bipush (pc := 34) dX6_readsDigits_34 (by decide) ?_
        refine y_isub (pc := 36) dX6_readsDigits_36 ?_
        refine y_leti (fun x15 => ?_)
        refine y_istore_n (L' := [some (rv 137), some (iv a1), some (iv x15), some (iv a3)]) (pc := 37) dX6_readsDigits_37 (by decide) rfl rfl ?_
        refine y_aload_n (pc := 38) dX6_readsDigits_38 rfl ?_
        refine y_dup (pc := 39) dX6_readsDigits_39 rfl ?_
        refine y_getint (pc := 40) g_X6_175 dX6_readsDigits_40 ?_
        refine y_iconst (pc := 43) dX6_readsDigits_43 ?_
        refine y_iadd (pc := 44) dX6_readsDigits_44 ?_
        refine y_putintw (pc := 45) pf_X6_175 dX6_readsDigits_45 (fun M16 => ?_)
        refine y_iinc (L' := [some (rv 137), some (iv a1), some (iv x15), some (iv (a3 + 1))]) (pc := 48) dX6_readsDigits_48 rfl (by decide) rfl rfl ?_
        refine y_goto (tgt := 4) (pc := 51) dX6_readsDigits_51 (by decide) ?_
        exact y_sub (ls_s (ls_s (ls_s (ls_s ls_0)))) (ih M16 a1 x15 (a3 + 1))
      · refine y_iconst (pc := 23) dX6_readsDigits_23 ?_
        exact y_zret (pc := 24) dX6_readsDigits_24 (by decide)
def m_X6_readsDigits (n : Nat) (M : Mem) (a1 : Int) : Rs := m_X6_readsDigits_4 n n M a1 0 0
theorem y_X6_readsDigits (n : Nat) (M : Mem) (a1 : Int) : Y RX6 cX6_readsDigits 4 1 1 none 0 [some (rv 137), some (iv a1), none, none] [] M (m_X6_readsDigits n M a1) := by
  unfold m_X6_readsDigits
  refine y_iconst (pc := 0) dX6_readsDigits_0 ?_
  refine y_istore_n (L' := [some (rv 137), some (iv a1), some (iv 0), none]) (pc := 1) dX6_readsDigits_1 (by decide) rfl rfl ?_
  refine y_iconst (pc := 2) dX6_readsDigits_2 ?_
  refine y_istore_n (L' := [some (rv 137), some (iv a1), some (iv 0), some (iv 0)]) (pc := 3) dX6_readsDigits_3 (by decide) rfl rfl ?_
  exact y_sub (ls_s (ls_s (ls_s (ls_s ls_0)))) (t_X6_readsDigits_4 n n M a1 0 0)
theorem c_X6_readsDigits (n : Nat) (M : Mem) (a1 : Int) : ∀ res : Int × Mem, m_X6_readsDigits n M a1 = some res → CTi yX6_readsDigits cX6_readsDigits 4 (some .boolean) 1 [rv 137, iv a1] M res := CTz_of (by decide +kernel) rfl (Nat.le_of_ble_eq_true rfl) rfl (y_X6_readsDigits n M a1)
def m_X6_readsAll_186 (n : Nat) (M : Mem) : Rs := bd (m_X6_readsDigits n M 2) (fun r2 M1 => if r2 = 0 ∨ r2 = 1 then (some (r2, M1)) else none)
theorem t_X6_readsAll_186 (n : Nat) (M : Mem) : Y RX6 cX6_readsAll 2 2 1 none 186 [some (rv 137), none] [] M (m_X6_readsAll_186 n M) := by
  unfold m_X6_readsAll_186
  refine y_aload_n (pc := 186) dX6_readsAll_186 rfl ?_
  refine y_iconst (pc := 187) dX6_readsAll_187 ?_
  refine y_callVi (pc := 188) v_X6_readsDigits l_X6_185 dX6_readsAll_188 (c_X6_readsDigits n _ _) rfl rc_X6 rfl (by decide) (by decide) (Nat.le_of_ble_eq_true rfl) (fun r2 M1 _ => ?_)
  refine y_gd (fun h3 => ?_)
  exact y_zret (pc := 191) dX6_readsAll_191 h3
def m_X6_readsAll_136 (n : Nat) (M : Mem) : Rs := bd (m_X6_readsDigits n M 1) (fun r5 M4 => if I32 r5 then (if r5 = 0 then (some (0, M4)) else (bd (m_X6_readsDigits n M4 2) (fun r9 M8 => if I32 r9 then (if r9 = 0 then (some (0, M8)) else (some (1, M8))) else none))) else none)
theorem t_X6_readsAll_136 (n : Nat) (M : Mem) : Y RX6 cX6_readsAll 2 2 1 none 136 [some (rv 137), none] [] M (m_X6_readsAll_136 n M) := by
  unfold m_X6_readsAll_136
  refine y_aload_n (pc := 136) dX6_readsAll_136 rfl ?_
  refine y_iconst (pc := 137) dX6_readsAll_137 ?_
  refine y_callVi (pc := 138) v_X6_readsDigits l_X6_185 dX6_readsAll_138 (c_X6_readsDigits n _ _) rfl rc_X6 rfl (by decide) (by decide) (Nat.le_of_ble_eq_true rfl) (fun r5 M4 _ => ?_)
  refine y_gd (fun h6 => ?_)
  refine y_if_eq (off := 15) (tgt := 156) (pc := 141) dX6_readsAll_141 (by decide) h6 (fun h7 => ?_) (fun h7 => ?_)
  · refine y_iconst (pc := 156) dX6_readsAll_156 ?_
    exact y_zret (pc := 157) dX6_readsAll_157 (by decide)
  · refine y_aload_n (pc := 144) dX6_readsAll_144 rfl ?_
    refine y_iconst (pc := 145) dX6_readsAll_145 ?_
    refine y_callVi (pc := 146) v_X6_readsDigits l_X6_185 dX6_readsAll_146 (c_X6_readsDigits n _ _) rfl rc_X6 rfl (by decide) (by decide) (Nat.le_of_ble_eq_true rfl) (fun r9 M8 _ => ?_)
    refine y_gd (fun h10 => ?_)
    refine y_if_eq (off := 7) (tgt := 156) (pc := 149) dX6_readsAll_149 (by decide) h10 (fun h11 => ?_) (fun h11 => ?_)
    · refine y_iconst (pc := 156) dX6_readsAll_156 ?_
      exact y_zret (pc := 157) dX6_readsAll_157 (by decide)
    · refine y_iconst (pc := 152) dX6_readsAll_152 ?_
      refine y_goto (tgt := 157) (pc := 153) dX6_readsAll_153 (by decide) ?_
      exact y_zret (pc := 157) dX6_readsAll_157 (by decide)
def m_X6_readsAll (n : Nat) (M : Mem) (a1 : Int) : Rs := if I32 a1 then (if a1 = 102 then (bd (m_X6_readsDigits n M 1) (fun r15 M14 => if I32 r15 then (if r15 = 0 then (some (0, M14)) else (bd (m_X6_readsDigits n M14 1) (fun r19 M18 => if I32 r19 then (if r19 = 0 then (some (0, M18)) else (bd (m_X6_readsDigits n M18 1) (fun r23 M22 => if I32 r23 then (if r23 = 0 then (some (0, M22)) else (some (1, M22))) else none))) else none))) else none)) else (if a1 = 103 then (m_X6_readsAll_186 n M) else (if a1 = 104 then (m_X6_readsAll_186 n M) else (if a1 = 105 then (m_X6_readsAll_186 n M) else (if a1 = 106 then (m_X6_readsAll_186 n M) else (if a1 = 107 then (bd (m_X6_readsDigits n M 1) (fun r32 M31 => if r32 = 0 ∨ r32 = 1 then (some (r32, M31)) else none)) else (if a1 = 108 then (m_X6_readsAll_186 n M) else (if a1 = 109 then (m_X6_readsAll_136 n M) else (if a1 = 110 then (m_X6_readsAll_186 n M) else (if a1 = 111 then (bd (m_X6_readsDigits n M 1) (fun r39 M38 => if I32 r39 then (if r39 = 0 then (some (0, M38)) else (bd (m_X6_readsDigits n M38 1) (fun r43 M42 => if I32 r43 then (if r43 = 0 then (some (0, M42)) else (some (1, M42))) else none))) else none)) else (if a1 = 112 then (bd (m_X6_readsDigits n M 1) (fun r48 M47 => if I32 r48 then (if r48 = 0 then (some (0, M47)) else (bd (m_X6_readsDigits n M47 1) (fun r52 M51 => if I32 r52 then (if r52 = 0 then (some (0, M51)) else (bd (m_X6_readsDigits n M51 2) (fun r56 M55 => if I32 r56 then (if r56 = 0 then (some (0, M55)) else (some (1, M55))) else none))) else none))) else none)) else (if a1 = 113 then (m_X6_readsAll_186 n M) else (if a1 = 114 then (m_X6_readsAll_186 n M) else (if a1 = 115 then (m_X6_readsAll_186 n M) else (if a1 = 116 then (m_X6_readsAll_136 n M) else (m_X6_readsAll_186 n M)))))))))))))))) else none
theorem y_X6_readsAll (n : Nat) (M : Mem) (a1 : Int) : Y RX6 cX6_readsAll 2 2 1 none 0 [some (rv 137), some (iv a1)] [] M (m_X6_readsAll n M a1) := by
  unfold m_X6_readsAll
  refine y_iload_n (pc := 0) dX6_readsAll_0 rfl ?_
  refine y_gd (fun h12 => ?_)
  refine y_br (fun h13 => ?_) (fun h13 => ?_)
  · refine y_tableIn (off := 75) (tgt := 76) (pc := 1) dX6_readsAll_1 h13 (by decide) (by decide) (by decide) rfl (by decide) ?_
    refine y_aload_n (pc := 76) dX6_readsAll_76 rfl ?_
    refine y_iconst (pc := 77) dX6_readsAll_77 ?_
    refine y_callVi (pc := 78) v_X6_readsDigits l_X6_185 dX6_readsAll_78 (c_X6_readsDigits n _ _) rfl rc_X6 rfl (by decide) (by decide) (Nat.le_of_ble_eq_true rfl) (fun r15 M14 _ => ?_)
    refine y_gd (fun h16 => ?_)
    refine y_if_eq (off := 23) (tgt := 104) (pc := 81) dX6_readsAll_81 (by decide) h16 (fun h17 => ?_) (fun h17 => ?_)
    · refine y_iconst (pc := 104) dX6_readsAll_104 ?_
      exact y_zret (pc := 105) dX6_readsAll_105 (by decide)
    · refine y_aload_n (pc := 84) dX6_readsAll_84 rfl ?_
      refine y_iconst (pc := 85) dX6_readsAll_85 ?_
      refine y_callVi (pc := 86) v_X6_readsDigits l_X6_185 dX6_readsAll_86 (c_X6_readsDigits n _ _) rfl rc_X6 rfl (by decide) (by decide) (Nat.le_of_ble_eq_true rfl) (fun r19 M18 _ => ?_)
      refine y_gd (fun h20 => ?_)
      refine y_if_eq (off := 15) (tgt := 104) (pc := 89) dX6_readsAll_89 (by decide) h20 (fun h21 => ?_) (fun h21 => ?_)
      · refine y_iconst (pc := 104) dX6_readsAll_104 ?_
        exact y_zret (pc := 105) dX6_readsAll_105 (by decide)
      · refine y_aload_n (pc := 92) dX6_readsAll_92 rfl ?_
        refine y_iconst (pc := 93) dX6_readsAll_93 ?_
        refine y_callVi (pc := 94) v_X6_readsDigits l_X6_185 dX6_readsAll_94 (c_X6_readsDigits n _ _) rfl rc_X6 rfl (by decide) (by decide) (Nat.le_of_ble_eq_true rfl) (fun r23 M22 _ => ?_)
        refine y_gd (fun h24 => ?_)
        refine y_if_eq (off := 7) (tgt := 104) (pc := 97) dX6_readsAll_97 (by decide) h24 (fun h25 => ?_) (fun h25 => ?_)
        · refine y_iconst (pc := 104) dX6_readsAll_104 ?_
          exact y_zret (pc := 105) dX6_readsAll_105 (by decide)
        · refine y_iconst (pc := 100) dX6_readsAll_100 ?_
          refine y_goto (tgt := 105) (pc := 101) dX6_readsAll_101 (by decide) ?_
          exact y_zret (pc := 105) dX6_readsAll_105 (by decide)
  · refine y_br (fun h26 => ?_) (fun h26 => ?_)
    · refine y_tableIn (off := 185) (tgt := 186) (pc := 1) dX6_readsAll_1 h26 (by decide) (by decide) (by decide) rfl (by decide) ?_
      exact y_sub (ls_s (ls_n ls_0)) (t_X6_readsAll_186 n M)
    · refine y_br (fun h27 => ?_) (fun h27 => ?_)
      · refine y_tableIn (off := 185) (tgt := 186) (pc := 1) dX6_readsAll_1 h27 (by decide) (by decide) (by decide) rfl (by decide) ?_
        exact y_sub (ls_s (ls_n ls_0)) (t_X6_readsAll_186 n M)
      · refine y_br (fun h28 => ?_) (fun h28 => ?_)
        · refine y_tableIn (off := 185) (tgt := 186) (pc := 1) dX6_readsAll_1 h28 (by decide) (by decide) (by decide) rfl (by decide) ?_
          exact y_sub (ls_s (ls_n ls_0)) (t_X6_readsAll_186 n M)
        · refine y_br (fun h29 => ?_) (fun h29 => ?_)
          · refine y_tableIn (off := 185) (tgt := 186) (pc := 1) dX6_readsAll_1 h29 (by decide) (by decide) (by decide) rfl (by decide) ?_
            exact y_sub (ls_s (ls_n ls_0)) (t_X6_readsAll_186 n M)
          · refine y_br (fun h30 => ?_) (fun h30 => ?_)
            · refine y_tableIn (off := 157) (tgt := 158) (pc := 1) dX6_readsAll_1 h30 (by decide) (by decide) (by decide) rfl (by decide) ?_
              refine y_aload_n (pc := 158) dX6_readsAll_158 rfl ?_
              refine y_iconst (pc := 159) dX6_readsAll_159 ?_
              refine y_callVi (pc := 160) v_X6_readsDigits l_X6_185 dX6_readsAll_160 (c_X6_readsDigits n _ _) rfl rc_X6 rfl (by decide) (by decide) (Nat.le_of_ble_eq_true rfl) (fun r32 M31 _ => ?_)
              refine y_gd (fun h33 => ?_)
              exact y_zret (pc := 163) dX6_readsAll_163 h33
            · refine y_br (fun h34 => ?_) (fun h34 => ?_)
              · refine y_tableIn (off := 185) (tgt := 186) (pc := 1) dX6_readsAll_1 h34 (by decide) (by decide) (by decide) rfl (by decide) ?_
                exact y_sub (ls_s (ls_n ls_0)) (t_X6_readsAll_186 n M)
              · refine y_br (fun h35 => ?_) (fun h35 => ?_)
                · refine y_tableIn (off := 135) (tgt := 136) (pc := 1) dX6_readsAll_1 h35 (by decide) (by decide) (by decide) rfl (by decide) ?_
                  exact y_sub (ls_s (ls_n ls_0)) (t_X6_readsAll_136 n M)
                · refine y_br (fun h36 => ?_) (fun h36 => ?_)
                  · refine y_tableIn (off := 185) (tgt := 186) (pc := 1) dX6_readsAll_1 h36 (by decide) (by decide) (by decide) rfl (by decide) ?_
                    exact y_sub (ls_s (ls_n ls_0)) (t_X6_readsAll_186 n M)
                  · refine y_br (fun h37 => ?_) (fun h37 => ?_)
                    · refine y_tableIn (off := 163) (tgt := 164) (pc := 1) dX6_readsAll_1 h37 (by decide) (by decide) (by decide) rfl (by decide) ?_
                      refine y_aload_n (pc := 164) dX6_readsAll_164 rfl ?_
                      refine y_iconst (pc := 165) dX6_readsAll_165 ?_
                      refine y_callVi (pc := 166) v_X6_readsDigits l_X6_185 dX6_readsAll_166 (c_X6_readsDigits n _ _) rfl rc_X6 rfl (by decide) (by decide) (Nat.le_of_ble_eq_true rfl) (fun r39 M38 _ => ?_)
                      refine y_gd (fun h40 => ?_)
                      refine y_if_eq (off := 15) (tgt := 184) (pc := 169) dX6_readsAll_169 (by decide) h40 (fun h41 => ?_) (fun h41 => ?_)
                      · refine y_iconst (pc := 184) dX6_readsAll_184 ?_
                        exact y_zret (pc := 185) dX6_readsAll_185 (by decide)
                      · refine y_aload_n (pc := 172) dX6_readsAll_172 rfl ?_
                        refine y_iconst (pc := 173) dX6_readsAll_173 ?_
                        refine y_callVi (pc := 174) v_X6_readsDigits l_X6_185 dX6_readsAll_174 (c_X6_readsDigits n _ _) rfl rc_X6 rfl (by decide) (by decide) (Nat.le_of_ble_eq_true rfl) (fun r43 M42 _ => ?_)
                        refine y_gd (fun h44 => ?_)
                        refine y_if_eq (off := 7) (tgt := 184) (pc := 177) dX6_readsAll_177 (by decide) h44 (fun h45 => ?_) (fun h45 => ?_)
                        · refine y_iconst (pc := 184) dX6_readsAll_184 ?_
                          exact y_zret (pc := 185) dX6_readsAll_185 (by decide)
                        · refine y_iconst (pc := 180) dX6_readsAll_180 ?_
                          refine y_goto (tgt := 185) (pc := 181) dX6_readsAll_181 (by decide) ?_
                          exact y_zret (pc := 185) dX6_readsAll_185 (by decide)
                    · refine y_br (fun h46 => ?_) (fun h46 => ?_)
                      · refine y_tableIn (off := 105) (tgt := 106) (pc := 1) dX6_readsAll_1 h46 (by decide) (by decide) (by decide) rfl (by decide) ?_
                        refine y_aload_n (pc := 106) dX6_readsAll_106 rfl ?_
                        refine y_iconst (pc := 107) dX6_readsAll_107 ?_
                        refine y_callVi (pc := 108) v_X6_readsDigits l_X6_185 dX6_readsAll_108 (c_X6_readsDigits n _ _) rfl rc_X6 rfl (by decide) (by decide) (Nat.le_of_ble_eq_true rfl) (fun r48 M47 _ => ?_)
                        refine y_gd (fun h49 => ?_)
                        refine y_if_eq (off := 23) (tgt := 134) (pc := 111) dX6_readsAll_111 (by decide) h49 (fun h50 => ?_) (fun h50 => ?_)
                        · refine y_iconst (pc := 134) dX6_readsAll_134 ?_
                          exact y_zret (pc := 135) dX6_readsAll_135 (by decide)
                        · refine y_aload_n (pc := 114) dX6_readsAll_114 rfl ?_
                          refine y_iconst (pc := 115) dX6_readsAll_115 ?_
                          refine y_callVi (pc := 116) v_X6_readsDigits l_X6_185 dX6_readsAll_116 (c_X6_readsDigits n _ _) rfl rc_X6 rfl (by decide) (by decide) (Nat.le_of_ble_eq_true rfl) (fun r52 M51 _ => ?_)
                          refine y_gd (fun h53 => ?_)
                          refine y_if_eq (off := 15) (tgt := 134) (pc := 119) dX6_readsAll_119 (by decide) h53 (fun h54 => ?_) (fun h54 => ?_)
                          · refine y_iconst (pc := 134) dX6_readsAll_134 ?_
                            exact y_zret (pc := 135) dX6_readsAll_135 (by decide)
                          · refine y_aload_n (pc := 122) dX6_readsAll_122 rfl ?_
                            refine y_iconst (pc := 123) dX6_readsAll_123 ?_
                            refine y_callVi (pc := 124) v_X6_readsDigits l_X6_185 dX6_readsAll_124 (c_X6_readsDigits n _ _) rfl rc_X6 rfl (by decide) (by decide) (Nat.le_of_ble_eq_true rfl) (fun r56 M55 _ => ?_)
                            refine y_gd (fun h57 => ?_)
                            refine y_if_eq (off := 7) (tgt := 134) (pc := 127) dX6_readsAll_127 (by decide) h57 (fun h58 => ?_) (fun h58 => ?_)
                            · refine y_iconst (pc := 134) dX6_readsAll_134 ?_
                              exact y_zret (pc := 135) dX6_readsAll_135 (by decide)
                            · refine y_iconst (pc := 130) dX6_readsAll_130 ?_
                              refine y_goto (tgt := 135) (pc := 131) dX6_readsAll_131 (by decide) ?_
                              exact y_zret (pc := 135) dX6_readsAll_135 (by decide)
                      · refine y_br (fun h59 => ?_) (fun h59 => ?_)
                        · refine y_tableIn (off := 185) (tgt := 186) (pc := 1) dX6_readsAll_1 h59 (by decide) (by decide) (by decide) rfl (by decide) ?_
                          exact y_sub (ls_s (ls_n ls_0)) (t_X6_readsAll_186 n M)
                        · refine y_br (fun h60 => ?_) (fun h60 => ?_)
                          · refine y_tableIn (off := 185) (tgt := 186) (pc := 1) dX6_readsAll_1 h60 (by decide) (by decide) (by decide) rfl (by decide) ?_
                            exact y_sub (ls_s (ls_n ls_0)) (t_X6_readsAll_186 n M)
                          · refine y_br (fun h61 => ?_) (fun h61 => ?_)
                            · refine y_tableIn (off := 185) (tgt := 186) (pc := 1) dX6_readsAll_1 h61 (by decide) (by decide) (by decide) rfl (by decide) ?_
                              exact y_sub (ls_s (ls_n ls_0)) (t_X6_readsAll_186 n M)
                            · refine y_br (fun h62 => ?_) (fun h62 => ?_)
                              · refine y_tableIn (off := 135) (tgt := 136) (pc := 1) dX6_readsAll_1 h62 (by decide) (by decide) (by decide) rfl (by decide) ?_
                                exact y_sub (ls_s (ls_n ls_0)) (t_X6_readsAll_136 n M)
                              · refine y_tableOut (tgt := 186) (pc := 1) dX6_readsAll_1 h12 (by omega) (by decide) ?_
                                exact y_sub (ls_s (ls_n ls_0)) (t_X6_readsAll_186 n M)
theorem c_X6_readsAll (n : Nat) (M : Mem) (a1 : Int) : ∀ res : Int × Mem, m_X6_readsAll n M a1 = some res → CTi yX6_readsAll cX6_readsAll 2 (some .boolean) 2 [rv 137, iv a1] M res := CTz_of (by decide +kernel) rfl (Nat.le_of_ble_eq_true rfl) rfl (y_X6_readsAll n M a1)
