def m_X6_blows_55 (n : Nat) (M : Mem) (a1 : Int) (a2 : Int) (a3 : Int) (s0 : Int) : Rs := if I32 s0 then (if s0 = 0 then (bd (m_X6_isFrontMore n M a1 a2 a3) (fun _ M3 => wr M3 137 30 0 (fun M4 => some (((rd M4 137 3) - 1), M4)))) else (bd (m_X6_no n M s0) (fun r6 M5 => some (r6, M5)))) else none
theorem t_X6_blows_55 (n : Nat) (M : Mem) (a1 : Int) (a2 : Int) (a3 : Int) (s0 : Int) : Y RX6 cX6_blows 5 1 0 none 55 [some (rv 137), some (iv a1), some (iv a2), some (iv a3), none] [iv s0] M (m_X6_blows_55 n M a1 a2 a3 s0) := by
  unfold m_X6_blows_55
  refine y_istore (L' := [some (rv 137), some (iv a1), some (iv a2), some (iv a3), some (iv s0)]) (pc := 55) dX6_blows_55 (by decide) rfl rfl ?_
  refine y_iload (pc := 57) dX6_blows_57 rfl ?_
  refine y_gd (fun h1 => ?_)
  refine y_if_eq (off := 10) (tgt := 69) (pc := 59) dX6_blows_59 (by decide) h1 (fun h2 => ?_) (fun h2 => ?_)
  · refine y_aload_n (pc := 69) dX6_blows_69 rfl ?_
    refine y_iload_n (pc := 70) dX6_blows_70 rfl ?_
    refine y_iload_n (pc := 71) dX6_blows_71 rfl ?_
    refine y_iload_n (pc := 72) dX6_blows_72 rfl ?_
    refine y_callVv (pc := 73) v_X6_isFrontMore l_X6_194 dX6_blows_73 (c_X6_isFrontMore n _ _ _ _) rfl rc_X6 rfl (by decide) (by decide) (Nat.le_of_ble_eq_true rfl) (fun _ M3 _ => ?_)
    refine y_aload_n (pc := 76) dX6_blows_76 rfl ?_
    refine y_iconst (pc := 77) dX6_blows_77 ?_
    refine y_putintw (pc := 78) pf_X6_242 dX6_blows_78 (fun M4 => ?_)
    refine y_aload_n (pc := 81) dX6_blows_81 rfl ?_
    refine y_getint (pc := 82) g_X6_79 dX6_blows_82 ?_
    refine y_iconst (pc := 85) dX6_blows_85 ?_
    refine y_isub (pc := 86) dX6_blows_86 ?_
    exact y_iret (pc := 87) dX6_blows_87
  · refine y_aload_n (pc := 62) dX6_blows_62 rfl ?_
    refine y_iload (pc := 63) dX6_blows_63 rfl ?_
    refine y_callVi (pc := 65) v_X6_no l_X6_172 dX6_blows_65 (c_X6_no n _ _) rfl rc_X6 rfl (by decide) (by decide) (Nat.le_of_ble_eq_true rfl) (fun r6 M5 _ => ?_)
    exact y_iret (pc := 68) dX6_blows_68
def m_X6_blows_49 (n : Nat) (M : Mem) (a1 : Int) (a2 : Int) (a3 : Int) : Rs := m_X6_blows_55 n M a1 a2 a3 (-6)
theorem t_X6_blows_49 (n : Nat) (M : Mem) (a1 : Int) (a2 : Int) (a3 : Int) : Y RX6 cX6_blows 5 1 0 none 49 [some (rv 137), some (iv a1), some (iv a2), some (iv a3), none] [] M (m_X6_blows_49 n M a1 a2 a3) := by
  unfold m_X6_blows_49
  refine y_bipush (pc := 49) dX6_blows_49 (by decide) ?_
  refine y_goto (tgt := 55) (pc := 51) dX6_blows_51 (by decide) ?_
  exact y_sub (ls_s (ls_s (ls_s (ls_s (ls_n ls_0))))) (t_X6_blows_55 n M a1 a2 a3 (-6))
def m_X6_blows_23 (n : Nat) (M : Mem) (a1 : Int) (a2 : Int) (a3 : Int) : Rs := m_X6_blows_55 n M a1 a2 a3 (-4)
theorem t_X6_blows_23 (n : Nat) (M : Mem) (a1 : Int) (a2 : Int) (a3 : Int) : Y RX6 cX6_blows 5 1 0 none 23 [some (rv 137), some (iv a1), some (iv a2), some (iv a3), none] [] M (m_X6_blows_23 n M a1 a2 a3) := by
  unfold m_X6_blows_23
  refine y_bipush (pc := 23) dX6_blows_23 (by decide) ?_
  refine y_goto (tgt := 55) (pc := 25) dX6_blows_25 (by decide) ?_
  exact y_sub (ls_s (ls_s (ls_s (ls_s (ls_n ls_0))))) (t_X6_blows_55 n M a1 a2 a3 (-4))
def m_X6_blows (n : Nat) (M : Mem) (a1 : Int) (a2 : Int) (a3 : Int) : Rs := bd (m_X6_isIn n M a1 0 6) (fun r8 M7 => if I32 r8 then (if r8 = 0 then (m_X6_blows_55 n M7 a1 a2 a3 (-2)) else (if I32 a2 then (if a2 < 0 then (m_X6_blows_23 n M7 a1 a2 a3) else (if I32 a3 then (if 0 ≤ a3 then (if 9 < a2 then (m_X6_blows_49 n M7 a1 a2 a3) else (if 9 < a3 then (m_X6_blows_49 n M7 a1 a2 a3) else (if (rd M7 137 3) = 6 then (m_X6_blows_49 n M7 a1 a2 a3) else (m_X6_blows_55 n M7 a1 a2 a3 0)))) else (m_X6_blows_23 n M7 a1 a2 a3)) else none)) else none)) else none)
theorem y_X6_blows (n : Nat) (M : Mem) (a1 : Int) (a2 : Int) (a3 : Int) : Y RX6 cX6_blows 5 1 0 none 0 [some (rv 137), some (iv a1), some (iv a2), some (iv a3), none] [] M (m_X6_blows n M a1 a2 a3) := by
  unfold m_X6_blows
  refine y_iload_n (pc := 0) dX6_blows_0 rfl ?_
  refine y_iconst (pc := 1) dX6_blows_1 ?_
  refine y_bipush (pc := 2) dX6_blows_2 (by decide) ?_
  refine y_callSi (pc := 4) s_X6_isIn l_X6_82 dX6_blows_4 (c_X6_isIn n _ _ _ _) rfl rfl (by decide) (by decide) (Nat.le_of_ble_eq_true rfl) (fun r8 M7 _ => ?_)
  refine y_gd (fun h9 => ?_)
  refine y_if_ne (off := 8) (tgt := 15) (pc := 7) dX6_blows_7 (by decide) h9 (fun h10 => ?_) (fun h10 => ?_)
  · refine y_iload_n (pc := 15) dX6_blows_15 rfl ?_
    refine y_gd (fun h11 => ?_)
    refine y_if_lt (off := 7) (tgt := 23) (pc := 16) dX6_blows_16 (by decide) h11 (fun h12 => ?_) (fun h12 => ?_)
    · exact y_sub (ls_s (ls_s (ls_s (ls_s (ls_n ls_0))))) (t_X6_blows_23 n M7 a1 a2 a3)
    · refine y_iload_n (pc := 19) dX6_blows_19 rfl ?_
      refine y_gd (fun h13 => ?_)
      refine y_if_ge (off := 8) (tgt := 28) (pc := 20) dX6_blows_20 (by decide) h13 (fun h14 => ?_) (fun h14 => ?_)
      · refine y_iload_n (pc := 28) dX6_blows_28 rfl ?_
        refine y_bipush (pc := 29) dX6_blows_29 (by decide) ?_
        refine y_icmp_gt (off := 18) (tgt := 49) (pc := 31) dX6_blows_31 (by decide) h11 (by decide) (fun h15 => ?_) (fun h15 => ?_)
        · exact y_sub (ls_s (ls_s (ls_s (ls_s (ls_n ls_0))))) (t_X6_blows_49 n M7 a1 a2 a3)
        · refine y_iload_n (pc := 34) dX6_blows_34 rfl ?_
          refine y_bipush (pc := 35) dX6_blows_35 (by decide) ?_
          refine y_icmp_gt (off := 12) (tgt := 49) (pc := 37) dX6_blows_37 (by decide) h13 (by decide) (fun h16 => ?_) (fun h16 => ?_)
          · exact y_sub (ls_s (ls_s (ls_s (ls_s (ls_n ls_0))))) (t_X6_blows_49 n M7 a1 a2 a3)
          · refine y_aload_n (pc := 40) dX6_blows_40 rfl ?_
            refine y_getint (pc := 41) g_X6_79 dX6_blows_41 ?_
            refine y_bipush (pc := 44) dX6_blows_44 (by decide) ?_
            refine y_icmp_ne (off := 8) (tgt := 54) (pc := 46) dX6_blows_46 (by decide) (rd_rng _ _ _) (by decide) (fun h17 => ?_) (fun h17 => ?_)
            · refine y_iconst (pc := 54) dX6_blows_54 ?_
              exact y_sub (ls_s (ls_s (ls_s (ls_s (ls_n ls_0))))) (t_X6_blows_55 n M7 a1 a2 a3 0)
            · exact y_sub (ls_s (ls_s (ls_s (ls_s (ls_n ls_0))))) (t_X6_blows_49 n M7 a1 a2 a3)
      · exact y_sub (ls_s (ls_s (ls_s (ls_s (ls_n ls_0))))) (t_X6_blows_23 n M7 a1 a2 a3)
  · refine y_bipush (pc := 10) dX6_blows_10 (by decide) ?_
    refine y_goto (tgt := 55) (pc := 12) dX6_blows_12 (by decide) ?_
    exact y_sub (ls_s (ls_s (ls_s (ls_s (ls_n ls_0))))) (t_X6_blows_55 n M7 a1 a2 a3 (-2))
theorem c_X6_blows (n : Nat) (M : Mem) (a1 : Int) (a2 : Int) (a3 : Int) : ∀ res : Int × Mem, m_X6_blows n M a1 a2 a3 = some res → CTi yX6_blows cX6_blows 5 (some .int) 1 [rv 137, iv a1, iv a2, iv a3] M res := CTi_of (by decide +kernel) rfl (Nat.le_of_ble_eq_true rfl) rfl (y_X6_blows n M a1 a2 a3)
def m_X6_comes_56 (n : Nat) (M : Mem) (a1 : Int) (a2 : Int) (a3 : Int) (a4 : Int) : Rs := if I32 a4 then (if a4 = 0 then (bd (m_X6_isPersonMore n M a1 a2 a3) (fun _ M3 => wr M3 137 30 0 (fun M4 => some (((rd M4 137 12) - 1), M4)))) else (bd (m_X6_no n M a4) (fun r6 M5 => some (r6, M5)))) else none
theorem t_X6_comes_56 (n : Nat) (M : Mem) (a1 : Int) (a2 : Int) (a3 : Int) (a4 : Int) : Y RX6 cX6_comes 5 2 0 none 56 [some (rv 137), some (iv a1), some (iv a2), some (iv a3), some (iv a4)] [] M (m_X6_comes_56 n M a1 a2 a3 a4) := by
  unfold m_X6_comes_56
  refine y_iload (pc := 56) dX6_comes_56 rfl ?_
  refine y_gd (fun h1 => ?_)
  refine y_if_eq (off := 10) (tgt := 68) (pc := 58) dX6_comes_58 (by decide) h1 (fun h2 => ?_) (fun h2 => ?_)
  · refine y_aload_n (pc := 68) dX6_comes_68 rfl ?_
    refine y_iload_n (pc := 69) dX6_comes_69 rfl ?_
    refine y_iload_n (pc := 70) dX6_comes_70 rfl ?_
    refine y_iload_n (pc := 71) dX6_comes_71 rfl ?_
    refine y_callVv (pc := 72) v_X6_isPersonMore l_X6_201 dX6_comes_72 (c_X6_isPersonMore n _ _ _ _) rfl rc_X6 rfl (by decide) (by decide) (Nat.le_of_ble_eq_true rfl) (fun _ M3 _ => ?_)
    refine y_aload_n (pc := 75) dX6_comes_75 rfl ?_
    refine y_iconst (pc := 76) dX6_comes_76 ?_
    refine y_putintw (pc := 77) pf_X6_242 dX6_comes_77 (fun M4 => ?_)
    refine y_aload_n (pc := 80) dX6_comes_80 rfl ?_
    refine y_getint (pc := 81) g_X6_89 dX6_comes_81 ?_
    refine y_iconst (pc := 84) dX6_comes_84 ?_
    refine y_isub (pc := 85) dX6_comes_85 ?_
    exact y_iret (pc := 86) dX6_comes_86
  · refine y_aload_n (pc := 61) dX6_comes_61 rfl ?_
    refine y_iload (pc := 62) dX6_comes_62 rfl ?_
    refine y_callVi (pc := 64) v_X6_no l_X6_172 dX6_comes_64 (c_X6_no n _ _) rfl rc_X6 rfl (by decide) (by decide) (Nat.le_of_ble_eq_true rfl) (fun r6 M5 _ => ?_)
    exact y_iret (pc := 67) dX6_comes_67
def m_X6_comes_54 (n : Nat) (M : Mem) (a1 : Int) (a2 : Int) (a3 : Int) (s0 : Int) : Rs := m_X6_comes_56 n M a1 a2 a3 s0
theorem t_X6_comes_54 (n : Nat) (M : Mem) (a1 : Int) (a2 : Int) (a3 : Int) (s0 : Int) : Y RX6 cX6_comes 5 2 0 none 54 [some (rv 137), some (iv a1), some (iv a2), some (iv a3), none] [iv s0] M (m_X6_comes_54 n M a1 a2 a3 s0) := by
  unfold m_X6_comes_54
  refine y_istore (L' := [some (rv 137), some (iv a1), some (iv a2), some (iv a3), some (iv s0)]) (pc := 54) dX6_comes_54 (by decide) rfl rfl ?_
  exact y_sub (ls_s (ls_s (ls_s (ls_s (ls_s ls_0))))) (t_X6_comes_56 n M a1 a2 a3 s0)
def m_X6_comes_22 (n : Nat) (M : Mem) (a1 : Int) (a2 : Int) (a3 : Int) (s0 : Int) : Rs := if I32 s0 then (if s0 = 0 then (if (rd M 137 12) = 5 then (m_X6_comes_54 n M a1 a2 a3 (-6)) else (bd (m_X6_isCell n M a3) (fun r11 M10 => if I32 r11 then (if r11 = 0 then (m_X6_comes_54 n M10 a1 a2 a3 (-1)) else (m_X6_comes_54 n M10 a1 a2 a3 0)) else none))) else (m_X6_comes_56 n M a1 a2 a3 s0)) else none
theorem t_X6_comes_22 (n : Nat) (M : Mem) (a1 : Int) (a2 : Int) (a3 : Int) (s0 : Int) : Y RX6 cX6_comes 5 2 0 none 22 [some (rv 137), some (iv a1), some (iv a2), some (iv a3), none] [iv s0] M (m_X6_comes_22 n M a1 a2 a3 s0) := by
  unfold m_X6_comes_22
  refine y_istore (L' := [some (rv 137), some (iv a1), some (iv a2), some (iv a3), some (iv s0)]) (pc := 22) dX6_comes_22 (by decide) rfl rfl ?_
  refine y_iload (pc := 24) dX6_comes_24 rfl ?_
  refine y_gd (fun h7 => ?_)
  refine y_if_ne (off := 30) (tgt := 56) (pc := 26) dX6_comes_26 (by decide) h7 (fun h8 => ?_) (fun h8 => ?_)
  · exact y_sub (ls_s (ls_s (ls_s (ls_s (ls_s ls_0))))) (t_X6_comes_56 n M a1 a2 a3 s0)
  · refine y_aload_n (pc := 29) dX6_comes_29 rfl ?_
    refine y_getint (pc := 30) g_X6_89 dX6_comes_30 ?_
    refine y_iconst (pc := 33) dX6_comes_33 ?_
    refine y_icmp_ne (off := 8) (tgt := 42) (pc := 34) dX6_comes_34 (by decide) (rd_rng _ _ _) (by decide) (fun h9 => ?_) (fun h9 => ?_)
    · refine y_iload_n (pc := 42) dX6_comes_42 rfl ?_
      refine y_callSi (pc := 43) s_X6_isCell l_X6_198 dX6_comes_43 (c_X6_isCell n _ _) rfl rfl (by decide) (by decide) (Nat.le_of_ble_eq_true rfl) (fun r11 M10 _ => ?_)
      refine y_gd (fun h12 => ?_)
      refine y_if_ne (off := 7) (tgt := 53) (pc := 46) dX6_comes_46 (by decide) h12 (fun h13 => ?_) (fun h13 => ?_)
      · refine y_iconst (pc := 53) dX6_comes_53 ?_
        exact y_sub (ls_s (ls_s (ls_s (ls_s (ls_n ls_0))))) (t_X6_comes_54 n M10 a1 a2 a3 0)
      · refine y_iconst (pc := 49) dX6_comes_49 ?_
        refine y_goto (tgt := 54) (pc := 50) dX6_comes_50 (by decide) ?_
        exact y_sub (ls_s (ls_s (ls_s (ls_s (ls_n ls_0))))) (t_X6_comes_54 n M10 a1 a2 a3 (-1))
    · refine y_bipush (pc := 37) dX6_comes_37 (by decide) ?_
      refine y_goto (tgt := 54) (pc := 39) dX6_comes_39 (by decide) ?_
      exact y_sub (ls_s (ls_s (ls_s (ls_s (ls_n ls_0))))) (t_X6_comes_54 n M a1 a2 a3 (-6))
def m_X6_comes (n : Nat) (M : Mem) (a1 : Int) (a2 : Int) (a3 : Int) : Rs := bd (m_X6_isIn n M a1 0 7) (fun r15 M14 => if I32 r15 then (if r15 = 0 then (m_X6_comes_22 n M14 a1 a2 a3 (-2)) else (bd (m_X6_bound n M14 a2 0 9) (fun r19 M18 => m_X6_comes_22 n M18 a1 a2 a3 r19))) else none)
theorem y_X6_comes (n : Nat) (M : Mem) (a1 : Int) (a2 : Int) (a3 : Int) : Y RX6 cX6_comes 5 2 0 none 0 [some (rv 137), some (iv a1), some (iv a2), some (iv a3), none] [] M (m_X6_comes n M a1 a2 a3) := by
  unfold m_X6_comes
  refine y_iload_n (pc := 0) dX6_comes_0 rfl ?_
  refine y_iconst (pc := 1) dX6_comes_1 ?_
  refine y_bipush (pc := 2) dX6_comes_2 (by decide) ?_
  refine y_callSi (pc := 4) s_X6_isIn l_X6_82 dX6_comes_4 (c_X6_isIn n _ _ _ _) rfl rfl (by decide) (by decide) (Nat.le_of_ble_eq_true rfl) (fun r15 M14 _ => ?_)
  refine y_gd (fun h16 => ?_)
  refine y_if_ne (off := 8) (tgt := 15) (pc := 7) dX6_comes_7 (by decide) h16 (fun h17 => ?_) (fun h17 => ?_)
  · refine y_iload_n (pc := 15) dX6_comes_15 rfl ?_
    refine y_iconst (pc := 16) dX6_comes_16 ?_
    refine y_bipush (pc := 17) dX6_comes_17 (by decide) ?_
    refine y_callSi (pc := 19) s_X6_bound l_X6_165 dX6_comes_19 (c_X6_bound n _ _ _ _) rfl rfl (by decide) (by decide) (Nat.le_of_ble_eq_true rfl) (fun r19 M18 _ => ?_)
    exact y_sub (ls_s (ls_s (ls_s (ls_s (ls_n ls_0))))) (t_X6_comes_22 n M18 a1 a2 a3 r19)
  · refine y_bipush (pc := 10) dX6_comes_10 (by decide) ?_
    refine y_goto (tgt := 22) (pc := 12) dX6_comes_12 (by decide) ?_
    exact y_sub (ls_s (ls_s (ls_s (ls_s (ls_n ls_0))))) (t_X6_comes_22 n M14 a1 a2 a3 (-2))
theorem c_X6_comes (n : Nat) (M : Mem) (a1 : Int) (a2 : Int) (a3 : Int) : ∀ res : Int × Mem, m_X6_comes n M a1 a2 a3 = some res → CTi yX6_comes cX6_comes 5 (some .int) 2 [rv 137, iv a1, iv a2, iv a3] M res := CTi_of (by decide +kernel) rfl (Nat.le_of_ble_eq_true rfl) rfl (y_X6_comes n M a1 a2 a3)
def m_X6_lies_39 (n : Nat) (M : Mem) (a1 : Int) (a2 : Int) (a3 : Int) : Rs := if I32 a3 then (if a3 = 0 then (bd (m_X6_isThingMore n M a1 a2) (fun _ M3 => wr M3 137 30 0 (fun M4 => some (((rd M4 137 7) - 1), M4)))) else (bd (m_X6_no n M a3) (fun r6 M5 => some (r6, M5)))) else none
theorem t_X6_lies_39 (n : Nat) (M : Mem) (a1 : Int) (a2 : Int) (a3 : Int) : Y RX6 cX6_lies 4 2 0 none 39 [some (rv 137), some (iv a1), some (iv a2), some (iv a3)] [] M (m_X6_lies_39 n M a1 a2 a3) := by
  unfold m_X6_lies_39
  refine y_iload_n (pc := 39) dX6_lies_39 rfl ?_
  refine y_gd (fun h1 => ?_)
  refine y_if_eq (off := 9) (tgt := 49) (pc := 40) dX6_lies_40 (by decide) h1 (fun h2 => ?_) (fun h2 => ?_)
  · refine y_aload_n (pc := 49) dX6_lies_49 rfl ?_
    refine y_iload_n (pc := 50) dX6_lies_50 rfl ?_
    refine y_iload_n (pc := 51) dX6_lies_51 rfl ?_
    refine y_callVv (pc := 52) v_X6_isThingMore l_X6_204 dX6_lies_52 (c_X6_isThingMore n _ _ _) rfl rc_X6 rfl (by decide) (by decide) (Nat.le_of_ble_eq_true rfl) (fun _ M3 _ => ?_)
    refine y_aload_n (pc := 55) dX6_lies_55 rfl ?_
    refine y_iconst (pc := 56) dX6_lies_56 ?_
    refine y_putintw (pc := 57) pf_X6_242 dX6_lies_57 (fun M4 => ?_)
    refine y_aload_n (pc := 60) dX6_lies_60 rfl ?_
    refine y_getint (pc := 61) g_X6_86 dX6_lies_61 ?_
    refine y_iconst (pc := 64) dX6_lies_64 ?_
    refine y_isub (pc := 65) dX6_lies_65 ?_
    exact y_iret (pc := 66) dX6_lies_66
  · refine y_aload_n (pc := 43) dX6_lies_43 rfl ?_
    refine y_iload_n (pc := 44) dX6_lies_44 rfl ?_
    refine y_callVi (pc := 45) v_X6_no l_X6_172 dX6_lies_45 (c_X6_no n _ _) rfl rc_X6 rfl (by decide) (by decide) (Nat.le_of_ble_eq_true rfl) (fun r6 M5 _ => ?_)
    exact y_iret (pc := 48) dX6_lies_48
def m_X6_lies_38 (n : Nat) (M : Mem) (a1 : Int) (a2 : Int) (s0 : Int) : Rs := m_X6_lies_39 n M a1 a2 s0
theorem t_X6_lies_38 (n : Nat) (M : Mem) (a1 : Int) (a2 : Int) (s0 : Int) : Y RX6 cX6_lies 4 2 0 none 38 [some (rv 137), some (iv a1), some (iv a2), none] [iv s0] M (m_X6_lies_38 n M a1 a2 s0) := by
  unfold m_X6_lies_38
  refine y_istore_n (L' := [some (rv 137), some (iv a1), some (iv a2), some (iv s0)]) (pc := 38) dX6_lies_38 (by decide) rfl rfl ?_
  exact y_sub (ls_s (ls_s (ls_s (ls_s ls_0)))) (t_X6_lies_39 n M a1 a2 s0)
def m_X6_lies (n : Nat) (M : Mem) (a1 : Int) (a2 : Int) : Rs := bd (m_X6_bound n M a1 0 9) (fun r8 M7 => if I32 r8 then (if r8 = 0 then (if (rd M7 137 7) = 8 then (m_X6_lies_38 n M7 a1 a2 (-6)) else (bd (m_X6_isCell n M7 a2) (fun r13 M12 => if I32 r13 then (if r13 = 0 then (m_X6_lies_38 n M12 a1 a2 (-1)) else (m_X6_lies_38 n M12 a1 a2 0)) else none))) else (m_X6_lies_39 n M7 a1 a2 r8)) else none)
theorem y_X6_lies (n : Nat) (M : Mem) (a1 : Int) (a2 : Int) : Y RX6 cX6_lies 4 2 0 none 0 [some (rv 137), some (iv a1), some (iv a2), none] [] M (m_X6_lies n M a1 a2) := by
  unfold m_X6_lies
  refine y_iload_n (pc := 0) dX6_lies_0 rfl ?_
  refine y_iconst (pc := 1) dX6_lies_1 ?_
  refine y_bipush (pc := 2) dX6_lies_2 (by decide) ?_
  refine y_callSi (pc := 4) s_X6_bound l_X6_165 dX6_lies_4 (c_X6_bound n _ _ _ _) rfl rfl (by decide) (by decide) (Nat.le_of_ble_eq_true rfl) (fun r8 M7 _ => ?_)
  refine y_istore_n (L' := [some (rv 137), some (iv a1), some (iv a2), some (iv r8)]) (pc := 7) dX6_lies_7 (by decide) rfl rfl ?_
  refine y_iload_n (pc := 8) dX6_lies_8 rfl ?_
  refine y_gd (fun h9 => ?_)
  refine y_if_ne (off := 30) (tgt := 39) (pc := 9) dX6_lies_9 (by decide) h9 (fun h10 => ?_) (fun h10 => ?_)
  · exact y_sub (ls_s (ls_s (ls_s (ls_s ls_0)))) (t_X6_lies_39 n M7 a1 a2 r8)
  · refine y_aload_n (pc := 12) dX6_lies_12 rfl ?_
    refine y_getint (pc := 13) g_X6_86 dX6_lies_13 ?_
    refine y_bipush (pc := 16) dX6_lies_16 (by decide) ?_
    refine y_icmp_ne (off := 8) (tgt := 26) (pc := 18) dX6_lies_18 (by decide) (rd_rng _ _ _) (by decide) (fun h11 => ?_) (fun h11 => ?_)
    · refine y_iload_n (pc := 26) dX6_lies_26 rfl ?_
      refine y_callSi (pc := 27) s_X6_isCell l_X6_198 dX6_lies_27 (c_X6_isCell n _ _) rfl rfl (by decide) (by decide) (Nat.le_of_ble_eq_true rfl) (fun r13 M12 _ => ?_)
      refine y_gd (fun h14 => ?_)
      refine y_if_ne (off := 7) (tgt := 37) (pc := 30) dX6_lies_30 (by decide) h14 (fun h15 => ?_) (fun h15 => ?_)
      · refine y_iconst (pc := 37) dX6_lies_37 ?_
        exact y_sub (ls_s (ls_s (ls_s (ls_n ls_0)))) (t_X6_lies_38 n M12 a1 a2 0)
      · refine y_iconst (pc := 33) dX6_lies_33 ?_
        refine y_goto (tgt := 38) (pc := 34) dX6_lies_34 (by decide) ?_
        exact y_sub (ls_s (ls_s (ls_s (ls_n ls_0)))) (t_X6_lies_38 n M12 a1 a2 (-1))
    · refine y_bipush (pc := 21) dX6_lies_21 (by decide) ?_
      refine y_goto (tgt := 38) (pc := 23) dX6_lies_23 (by decide) ?_
      exact y_sub (ls_s (ls_s (ls_s (ls_n ls_0)))) (t_X6_lies_38 n M7 a1 a2 (-6))
theorem c_X6_lies (n : Nat) (M : Mem) (a1 : Int) (a2 : Int) : ∀ res : Int × Mem, m_X6_lies n M a1 a2 = some res → CTi yX6_lies cX6_lies 4 (some .int) 2 [rv 137, iv a1, iv a2] M res := CTi_of (by decide +kernel) rfl (Nat.le_of_ble_eq_true rfl) rfl (y_X6_lies n M a1 a2)
def m_X6_thick (n : Nat) (M : Mem) (a1 : Int) : Rs := bd (m_X6_bound n M a1 1 9) (fun r2 M1 => if I32 r2 then (if r2 = 0 then (bd (m_X6_remembers n M1) (fun _ M5 => wr M5 137 14 a1 (fun M6 => some ((rd M5 137 14), M6)))) else (bd (m_X6_no n M1 r2) (fun r8 M7 => some (r8, M7)))) else none)
theorem y_X6_thick (n : Nat) (M : Mem) (a1 : Int) : Y RX6 cX6_thick 4 3 0 none 0 [some (rv 137), some (iv a1), none, none] [] M (m_X6_thick n M a1) := by
  unfold m_X6_thick
  refine y_iload_n (pc := 0) dX6_thick_0 rfl ?_
  refine y_iconst (pc := 1) dX6_thick_1 ?_
  refine y_bipush (pc := 2) dX6_thick_2 (by decide) ?_
  refine y_callSi (pc := 4) s_X6_bound l_X6_165 dX6_thick_4 (c_X6_bound n _ _ _ _) rfl rfl (by decide) (by decide) (Nat.le_of_ble_eq_true rfl) (fun r2 M1 _ => ?_)
  refine y_istore_n (L' := [some (rv 137), some (iv a1), some (iv r2), none]) (pc := 7) dX6_thick_7 (by decide) rfl rfl ?_
  refine y_iload_n (pc := 8) dX6_thick_8 rfl ?_
  refine y_gd (fun h3 => ?_)
  refine y_if_eq (off := 9) (tgt := 18) (pc := 9) dX6_thick_9 (by decide) h3 (fun h4 => ?_) (fun h4 => ?_)
  · refine y_aload_n (pc := 18) dX6_thick_18 rfl ?_
    refine y_callVv (pc := 19) v_X6_remembers l_X6_274 dX6_thick_19 (c_X6_remembers n _) rfl rc_X6 rfl (by decide) (by decide) (Nat.le_of_ble_eq_true rfl) (fun _ M5 _ => ?_)
    refine y_aload_n (pc := 22) dX6_thick_22 rfl ?_
    refine y_getint (pc := 23) g_X6_74 dX6_thick_23 ?_
    refine y_istore_n (L' := [some (rv 137), some (iv a1), some (iv r2), some (iv (rd M5 137 14))]) (pc := 26) dX6_thick_26 (by decide) rfl rfl ?_
    refine y_aload_n (pc := 27) dX6_thick_27 rfl ?_
    refine y_iload_n (pc := 28) dX6_thick_28 rfl ?_
    refine y_putintw (pc := 29) pf_X6_74 dX6_thick_29 (fun M6 => ?_)
    refine y_iload_n (pc := 32) dX6_thick_32 rfl ?_
    exact y_iret (pc := 33) dX6_thick_33
  · refine y_aload_n (pc := 12) dX6_thick_12 rfl ?_
    refine y_iload_n (pc := 13) dX6_thick_13 rfl ?_
    refine y_callVi (pc := 14) v_X6_no l_X6_172 dX6_thick_14 (c_X6_no n _ _) rfl rc_X6 rfl (by decide) (by decide) (Nat.le_of_ble_eq_true rfl) (fun r8 M7 _ => ?_)
    exact y_iret (pc := 17) dX6_thick_17
theorem c_X6_thick (n : Nat) (M : Mem) (a1 : Int) : ∀ res : Int × Mem, m_X6_thick n M a1 = some res → CTi yX6_thick cX6_thick 4 (some .int) 3 [rv 137, iv a1] M res := CTi_of (by decide +kernel) rfl (Nat.le_of_ble_eq_true rfl) rfl (y_X6_thick n M a1)
def m_X6_owns_54 (n : Nat) (M : Mem) (a3 : Int) (s0 : Int) (s1 : Int) : Rs := if 0 ≤ s1 ∧ s1 < 8 then (wr M 143 (Int.toNat s1) s0 (fun M2 => some (a3, M2))) else none
theorem t_X6_owns_54 (n : Nat) (M : Mem) (a3 : Int) (s0 : Int) (s1 : Int) : Y RX6 cX6_owns 4 3 0 none 54 [none, none, none, some (iv a3)] [iv s0, iv s1, rv 143] M (m_X6_owns_54 n M a3 s0 s1) := by
  unfold m_X6_owns_54
  refine y_gd (fun h1 => ?_)
  refine y_iastw (pc := 54) dX6_owns_54 ar_143 h1 (fun M2 => ?_)
  refine y_iload_n (pc := 55) dX6_owns_55 rfl ?_
  exact y_iret (pc := 56) dX6_owns_56
def m_X6_owns_22 (n : Nat) (M : Mem) : Rs := bd (m_X6_no n M (-1)) (fun r4 M3 => some (r4, M3))
theorem t_X6_owns_22 (n : Nat) (M : Mem) : Y RX6 cX6_owns 4 3 0 none 22 [some (rv 137), none, none, none] [] M (m_X6_owns_22 n M) := by
  unfold m_X6_owns_22
  refine y_aload_n (pc := 22) dX6_owns_22 rfl ?_
  refine y_iconst (pc := 23) dX6_owns_23 ?_
  refine y_callVi (pc := 24) v_X6_no l_X6_172 dX6_owns_24 (c_X6_no n _ _) rfl rc_X6 rfl (by decide) (by decide) (Nat.le_of_ble_eq_true rfl) (fun r4 M3 _ => ?_)
  exact y_iret (pc := 27) dX6_owns_27
def m_X6_owns (n : Nat) (M : Mem) (a1 : Int) (a2 : Int) : Rs := bd (m_X6_isThing n M a1) (fun r6 M5 => if I32 r6 then (if r6 = 0 then (m_X6_owns_22 n M5) else (bd (m_X6_isIn n M5 a2 (-1) ((rd M5 137 12) - 1)) (fun r10 M9 => if I32 r10 then (if r10 = 0 then (m_X6_owns_22 n M9) else (bd (m_X6_remembers n M9) (fun _ M13 => if 0 ≤ a1 ∧ a1 < 8 then (lt (rd M13 143 (Int.toNat a1)) (fun x15 => if I32 a2 then (if 0 ≤ a2 then (m_X6_owns_54 n M13 x15 a2 a1) else (m_X6_owns_54 n M13 x15 (-9) a1)) else none)) else none))) else none))) else none)
theorem y_X6_owns (n : Nat) (M : Mem) (a1 : Int) (a2 : Int) : Y RX6 cX6_owns 4 3 0 none 0 [some (rv 137), some (iv a1), some (iv a2), none] [] M (m_X6_owns n M a1 a2) := by
  unfold m_X6_owns
  refine y_aload_n (pc := 0) dX6_owns_0 rfl ?_
  refine y_iload_n (pc := 1) dX6_owns_1 rfl ?_
  refine y_callVi (pc := 2) v_X6_isThing l_X6_207 dX6_owns_2 (c_X6_isThing n _ _) rfl rc_X6 rfl (by decide) (by decide) (Nat.le_of_ble_eq_true rfl) (fun r6 M5 _ => ?_)
  refine y_gd (fun h7 => ?_)
  refine y_if_eq (off := 17) (tgt := 22) (pc := 5) dX6_owns_5 (by decide) h7 (fun h8 => ?_) (fun h8 => ?_)
  · exact y_sub (ls_s (ls_n (ls_n (ls_n ls_0)))) (t_X6_owns_22 n M5)
  · refine y_iload_n (pc := 8) dX6_owns_8 rfl ?_
    refine y_iconst (pc := 9) dX6_owns_9 ?_
    refine y_aload_n (pc := 10) dX6_owns_10 rfl ?_
    refine y_getint (pc := 11) g_X6_89 dX6_owns_11 ?_
    refine y_iconst (pc := 14) dX6_owns_14 ?_
    refine y_isub (pc := 15) dX6_owns_15 ?_
    refine y_callSi (pc := 16) s_X6_isIn l_X6_82 dX6_owns_16 (c_X6_isIn n _ _ _ _) rfl rfl (by decide) (by decide) (Nat.le_of_ble_eq_true rfl) (fun r10 M9 _ => ?_)
    refine y_gd (fun h11 => ?_)
    refine y_if_ne (off := 9) (tgt := 28) (pc := 19) dX6_owns_19 (by decide) h11 (fun h12 => ?_) (fun h12 => ?_)
    · refine y_aload_n (pc := 28) dX6_owns_28 rfl ?_
      refine y_callVv (pc := 29) v_X6_remembers l_X6_274 dX6_owns_29 (c_X6_remembers n _) rfl rc_X6 rfl (by decide) (by decide) (Nat.le_of_ble_eq_true rfl) (fun _ M13 _ => ?_)
      refine y_aload_n (pc := 32) dX6_owns_32 rfl ?_
      refine y_getref (pc := 33) (x := 143) g_X6_28 dX6_owns_33 ?_
      refine y_iload_n (pc := 36) dX6_owns_36 rfl ?_
      refine y_gd (fun h14 => ?_)
      refine y_iald (pc := 37) dX6_owns_37 ar_143 h14 ?_
      refine y_leti (fun x15 => ?_)
      refine y_istore_n (L' := [some (rv 137), some (iv a1), some (iv a2), some (iv x15)]) (pc := 38) dX6_owns_38 (by decide) rfl rfl ?_
      refine y_aload_n (pc := 39) dX6_owns_39 rfl ?_
      refine y_getref (pc := 40) (x := 143) g_X6_28 dX6_owns_40 ?_
      refine y_iload_n (pc := 43) dX6_owns_43 rfl ?_
      refine y_iload_n (pc := 44) dX6_owns_44 rfl ?_
      refine y_gd (fun h16 => ?_)
      refine y_if_ge (off := 8) (tgt := 53) (pc := 45) dX6_owns_45 (by decide) h16 (fun h17 => ?_) (fun h17 => ?_)
      · refine y_iload_n (pc := 53) dX6_owns_53 rfl ?_
        exact y_sub (ls_n (ls_n (ls_n (ls_s ls_0)))) (t_X6_owns_54 n M13 x15 a2 a1)
      · refine y_bipush (pc := 48) dX6_owns_48 (by decide) ?_
        refine y_goto (tgt := 54) (pc := 50) dX6_owns_50 (by decide) ?_
        exact y_sub (ls_n (ls_n (ls_n (ls_s ls_0)))) (t_X6_owns_54 n M13 x15 (-9) a1)
    · exact y_sub (ls_s (ls_n (ls_n (ls_n ls_0)))) (t_X6_owns_22 n M9)
theorem c_X6_owns (n : Nat) (M : Mem) (a1 : Int) (a2 : Int) : ∀ res : Int × Mem, m_X6_owns n M a1 a2 = some res → CTi yX6_owns cX6_owns 4 (some .int) 3 [rv 137, iv a1, iv a2] M res := CTi_of (by decide +kernel) rfl (Nat.le_of_ble_eq_true rfl) rfl (y_X6_owns n M a1 a2)
def m_X6_stands_15 (n : Nat) (M : Mem) : Rs := bd (m_X6_no n M (-1)) (fun r2 M1 => some (r2, M1))
theorem t_X6_stands_15 (n : Nat) (M : Mem) : Y RX6 cX6_stands 4 3 0 none 15 [some (rv 137), none, none, none] [] M (m_X6_stands_15 n M) := by
  unfold m_X6_stands_15
  refine y_aload_n (pc := 15) dX6_stands_15 rfl ?_
  refine y_iconst (pc := 16) dX6_stands_16 ?_
  refine y_callVi (pc := 17) v_X6_no l_X6_172 dX6_stands_17 (c_X6_no n _ _) rfl rc_X6 rfl (by decide) (by decide) (Nat.le_of_ble_eq_true rfl) (fun r2 M1 _ => ?_)
  exact y_iret (pc := 20) dX6_stands_20
def m_X6_stands (n : Nat) (M : Mem) (a1 : Int) (a2 : Int) : Rs := bd (m_X6_isPerson n M a1) (fun r4 M3 => if I32 r4 then (if r4 = 0 then (m_X6_stands_15 n M3) else (bd (m_X6_isCell n M3 a2) (fun r8 M7 => if I32 r8 then (if r8 = 0 then (m_X6_stands_15 n M7) else (bd (m_X6_remembers n M7) (fun _ M11 => if 0 ≤ a1 ∧ a1 < 5 then (lt (rd M11 147 (Int.toNat a1)) (fun x13 => wr M11 147 (Int.toNat a1) a2 (fun M14 => some (x13, M14)))) else none))) else none))) else none)
theorem y_X6_stands (n : Nat) (M : Mem) (a1 : Int) (a2 : Int) : Y RX6 cX6_stands 4 3 0 none 0 [some (rv 137), some (iv a1), some (iv a2), none] [] M (m_X6_stands n M a1 a2) := by
  unfold m_X6_stands
  refine y_aload_n (pc := 0) dX6_stands_0 rfl ?_
  refine y_iload_n (pc := 1) dX6_stands_1 rfl ?_
  refine y_callVi (pc := 2) v_X6_isPerson l_X6_92 dX6_stands_2 (c_X6_isPerson n _ _) rfl rc_X6 rfl (by decide) (by decide) (Nat.le_of_ble_eq_true rfl) (fun r4 M3 _ => ?_)
  refine y_gd (fun h5 => ?_)
  refine y_if_eq (off := 10) (tgt := 15) (pc := 5) dX6_stands_5 (by decide) h5 (fun h6 => ?_) (fun h6 => ?_)
  · exact y_sub (ls_s (ls_n (ls_n (ls_n ls_0)))) (t_X6_stands_15 n M3)
  · refine y_iload_n (pc := 8) dX6_stands_8 rfl ?_
    refine y_callSi (pc := 9) s_X6_isCell l_X6_198 dX6_stands_9 (c_X6_isCell n _ _) rfl rfl (by decide) (by decide) (Nat.le_of_ble_eq_true rfl) (fun r8 M7 _ => ?_)
    refine y_gd (fun h9 => ?_)
    refine y_if_ne (off := 9) (tgt := 21) (pc := 12) dX6_stands_12 (by decide) h9 (fun h10 => ?_) (fun h10 => ?_)
    · refine y_aload_n (pc := 21) dX6_stands_21 rfl ?_
      refine y_callVv (pc := 22) v_X6_remembers l_X6_274 dX6_stands_22 (c_X6_remembers n _) rfl rc_X6 rfl (by decide) (by decide) (Nat.le_of_ble_eq_true rfl) (fun _ M11 _ => ?_)
      refine y_aload_n (pc := 25) dX6_stands_25 rfl ?_
      refine y_getref (pc := 26) (x := 147) g_X6_40 dX6_stands_26 ?_
      refine y_iload_n (pc := 29) dX6_stands_29 rfl ?_
      refine y_gd (fun h12 => ?_)
      refine y_iald (pc := 30) dX6_stands_30 ar_147 h12 ?_
      refine y_leti (fun x13 => ?_)
      refine y_istore_n (L' := [some (rv 137), some (iv a1), some (iv a2), some (iv x13)]) (pc := 31) dX6_stands_31 (by decide) rfl rfl ?_
      refine y_aload_n (pc := 32) dX6_stands_32 rfl ?_
      refine y_getref (pc := 33) (x := 147) g_X6_40 dX6_stands_33 ?_
      refine y_iload_n (pc := 36) dX6_stands_36 rfl ?_
      refine y_iload_n (pc := 37) dX6_stands_37 rfl ?_
      refine y_iastw (pc := 38) dX6_stands_38 ar_147 h12 (fun M14 => ?_)
      refine y_iload_n (pc := 39) dX6_stands_39 rfl ?_
      exact y_iret (pc := 40) dX6_stands_40
    · exact y_sub (ls_s (ls_n (ls_n (ls_n ls_0)))) (t_X6_stands_15 n M7)
theorem c_X6_stands (n : Nat) (M : Mem) (a1 : Int) (a2 : Int) : ∀ res : Int × Mem, m_X6_stands n M a1 a2 = some res → CTi yX6_stands cX6_stands 4 (some .int) 3 [rv 137, iv a1, iv a2] M res := CTi_of (by decide +kernel) rfl (Nat.le_of_ble_eq_true rfl) rfl (y_X6_stands n M a1 a2)
def m_X6_carries_15 (n : Nat) (M : Mem) : Rs := bd (m_X6_no n M (-1)) (fun r2 M1 => some (r2, M1))
theorem t_X6_carries_15 (n : Nat) (M : Mem) : Y RX6 cX6_carries 4 3 0 none 15 [some (rv 137), none, none, none] [] M (m_X6_carries_15 n M) := by
  unfold m_X6_carries_15
  refine y_aload_n (pc := 15) dX6_carries_15 rfl ?_
  refine y_iconst (pc := 16) dX6_carries_16 ?_
  refine y_callVi (pc := 17) v_X6_no l_X6_172 dX6_carries_17 (c_X6_no n _ _) rfl rc_X6 rfl (by decide) (by decide) (Nat.le_of_ble_eq_true rfl) (fun r2 M1 _ => ?_)
  exact y_iret (pc := 20) dX6_carries_20
def m_X6_carries (n : Nat) (M : Mem) (a1 : Int) (a2 : Int) : Rs := bd (m_X6_isThing n M a1) (fun r4 M3 => if I32 r4 then (if r4 = 0 then (m_X6_carries_15 n M3) else (bd (m_X6_isCell n M3 a2) (fun r8 M7 => if I32 r8 then (if r8 = 0 then (m_X6_carries_15 n M7) else (bd (m_X6_remembers n M7) (fun _ M11 => if 0 ≤ a1 ∧ a1 < 8 then (lt (rd M11 142 (Int.toNat a1)) (fun x13 => wr M11 142 (Int.toNat a1) a2 (fun M14 => some (x13, M14)))) else none))) else none))) else none)
theorem y_X6_carries (n : Nat) (M : Mem) (a1 : Int) (a2 : Int) : Y RX6 cX6_carries 4 3 0 none 0 [some (rv 137), some (iv a1), some (iv a2), none] [] M (m_X6_carries n M a1 a2) := by
  unfold m_X6_carries
  refine y_aload_n (pc := 0) dX6_carries_0 rfl ?_
  refine y_iload_n (pc := 1) dX6_carries_1 rfl ?_
  refine y_callVi (pc := 2) v_X6_isThing l_X6_207 dX6_carries_2 (c_X6_isThing n _ _) rfl rc_X6 rfl (by decide) (by decide) (Nat.le_of_ble_eq_true rfl) (fun r4 M3 _ => ?_)
  refine y_gd (fun h5 => ?_)
  refine y_if_eq (off := 10) (tgt := 15) (pc := 5) dX6_carries_5 (by decide) h5 (fun h6 => ?_) (fun h6 => ?_)
  · exact y_sub (ls_s (ls_n (ls_n (ls_n ls_0)))) (t_X6_carries_15 n M3)
  · refine y_iload_n (pc := 8) dX6_carries_8 rfl ?_
    refine y_callSi (pc := 9) s_X6_isCell l_X6_198 dX6_carries_9 (c_X6_isCell n _ _) rfl rfl (by decide) (by decide) (Nat.le_of_ble_eq_true rfl) (fun r8 M7 _ => ?_)
    refine y_gd (fun h9 => ?_)
    refine y_if_ne (off := 9) (tgt := 21) (pc := 12) dX6_carries_12 (by decide) h9 (fun h10 => ?_) (fun h10 => ?_)
    · refine y_aload_n (pc := 21) dX6_carries_21 rfl ?_
      refine y_callVv (pc := 22) v_X6_remembers l_X6_274 dX6_carries_22 (c_X6_remembers n _) rfl rc_X6 rfl (by decide) (by decide) (Nat.le_of_ble_eq_true rfl) (fun _ M11 _ => ?_)
      refine y_aload_n (pc := 25) dX6_carries_25 rfl ?_
      refine y_getref (pc := 26) (x := 142) g_X6_25 dX6_carries_26 ?_
      refine y_iload_n (pc := 29) dX6_carries_29 rfl ?_
      refine y_gd (fun h12 => ?_)
      refine y_iald (pc := 30) dX6_carries_30 ar_142 h12 ?_
      refine y_leti (fun x13 => ?_)
      refine y_istore_n (L' := [some (rv 137), some (iv a1), some (iv a2), some (iv x13)]) (pc := 31) dX6_carries_31 (by decide) rfl rfl ?_
      refine y_aload_n (pc := 32) dX6_carries_32 rfl ?_
      refine y_getref (pc := 33) (x := 142) g_X6_25 dX6_carries_33 ?_
      refine y_iload_n (pc := 36) dX6_carries_36 rfl ?_
      refine y_iload_n (pc := 37) dX6_carries_37 rfl ?_
      refine y_iastw (pc := 38) dX6_carries_38 ar_142 h12 (fun M14 => ?_)
      refine y_iload_n (pc := 39) dX6_carries_39 rfl ?_
      exact y_iret (pc := 40) dX6_carries_40
    · exact y_sub (ls_s (ls_n (ls_n (ls_n ls_0)))) (t_X6_carries_15 n M7)
theorem c_X6_carries (n : Nat) (M : Mem) (a1 : Int) (a2 : Int) : ∀ res : Int × Mem, m_X6_carries n M a1 a2 = some res → CTi yX6_carries cX6_carries 4 (some .int) 3 [rv 137, iv a1, iv a2] M res := CTi_of (by decide +kernel) rfl (Nat.le_of_ble_eq_true rfl) rfl (y_X6_carries n M a1 a2)
def m_X6_hours_27 (n : Nat) (M : Mem) (a1 : Int) (a2 : Int) : Rs := if I32 a2 then (if a2 = 0 then (bd (m_X6_remembers n M) (fun _ M3 => bd (m_X6_goes n M3 a1) (fun _ M4 => bd (m_X6_manyOwned n M4) (fun r6 M5 => some (r6, M5))))) else (bd (m_X6_no n M a2) (fun r8 M7 => some (r8, M7)))) else none
theorem t_X6_hours_27 (n : Nat) (M : Mem) (a1 : Int) (a2 : Int) : Y RX6 cX6_hours 3 8 0 none 27 [some (rv 137), some (iv a1), some (iv a2)] [] M (m_X6_hours_27 n M a1 a2) := by
  unfold m_X6_hours_27
  refine y_iload_n (pc := 27) dX6_hours_27 rfl ?_
  refine y_gd (fun h1 => ?_)
  refine y_if_eq (off := 9) (tgt := 37) (pc := 28) dX6_hours_28 (by decide) h1 (fun h2 => ?_) (fun h2 => ?_)
  · refine y_aload_n (pc := 37) dX6_hours_37 rfl ?_
    refine y_callVv (pc := 38) v_X6_remembers l_X6_274 dX6_hours_38 (c_X6_remembers n _) rfl rc_X6 rfl (by decide) (by decide) (Nat.le_of_ble_eq_true rfl) (fun _ M3 _ => ?_)
    refine y_aload_n (pc := 41) dX6_hours_41 rfl ?_
    refine y_iload_n (pc := 42) dX6_hours_42 rfl ?_
    refine y_callVv (pc := 43) v_X6_goes l_X6_210 dX6_hours_43 (c_X6_goes n _ _) rfl rc_X6 rfl (by decide) (by decide) (Nat.le_of_ble_eq_true rfl) (fun _ M4 _ => ?_)
    refine y_aload_n (pc := 46) dX6_hours_46 rfl ?_
    refine y_callVi (pc := 47) v_X6_manyOwned l_X6_277 dX6_hours_47 (c_X6_manyOwned n _) rfl rc_X6 rfl (by decide) (by decide) (Nat.le_of_ble_eq_true rfl) (fun r6 M5 _ => ?_)
    exact y_iret (pc := 50) dX6_hours_50
  · refine y_aload_n (pc := 31) dX6_hours_31 rfl ?_
    refine y_iload_n (pc := 32) dX6_hours_32 rfl ?_
    refine y_callVi (pc := 33) v_X6_no l_X6_172 dX6_hours_33 (c_X6_no n _ _) rfl rc_X6 rfl (by decide) (by decide) (Nat.le_of_ble_eq_true rfl) (fun r8 M7 _ => ?_)
    exact y_iret (pc := 36) dX6_hours_36
def m_X6_hours (n : Nat) (M : Mem) (a1 : Int) : Rs := bd (m_X6_bound n M a1 1 60) (fun r10 M9 => if I32 r10 then (if r10 = 0 then (if I32 ((rd M9 137 13) + a1) then (if ((rd M9 137 13) + a1) ≤ 999 then (m_X6_hours_27 n M9 a1 r10) else (m_X6_hours_27 n M9 a1 (-6))) else none) else (m_X6_hours_27 n M9 a1 r10)) else none)
theorem y_X6_hours (n : Nat) (M : Mem) (a1 : Int) : Y RX6 cX6_hours 3 8 0 none 0 [some (rv 137), some (iv a1), none] [] M (m_X6_hours n M a1) := by
  unfold m_X6_hours
  refine y_iload_n (pc := 0) dX6_hours_0 rfl ?_
  refine y_iconst (pc := 1) dX6_hours_1 ?_
  refine y_bipush (pc := 2) dX6_hours_2 (by decide) ?_
  refine y_callSi (pc := 4) s_X6_bound l_X6_165 dX6_hours_4 (c_X6_bound n _ _ _ _) rfl rfl (by decide) (by decide) (Nat.le_of_ble_eq_true rfl) (fun r10 M9 _ => ?_)
  refine y_istore_n (L' := [some (rv 137), some (iv a1), some (iv r10)]) (pc := 7) dX6_hours_7 (by decide) rfl rfl ?_
  refine y_iload_n (pc := 8) dX6_hours_8 rfl ?_
  refine y_gd (fun h11 => ?_)
  refine y_if_ne (off := 18) (tgt := 27) (pc := 9) dX6_hours_9 (by decide) h11 (fun h12 => ?_) (fun h12 => ?_)
  · exact y_sub (ls_s (ls_s (ls_s ls_0))) (t_X6_hours_27 n M9 a1 r10)
  · refine y_aload_n (pc := 12) dX6_hours_12 rfl ?_
    refine y_getint (pc := 13) g_X6_114 dX6_hours_13 ?_
    refine y_iload_n (pc := 16) dX6_hours_16 rfl ?_
    refine y_iadd (pc := 17) dX6_hours_17 ?_
    refine y_sipush (pc := 18) dX6_hours_18 (by decide) ?_
    refine y_gd (fun h13 => ?_)
    refine y_icmp_le (off := 6) (tgt := 27) (pc := 21) dX6_hours_21 (by decide) h13 (by decide) (fun h14 => ?_) (fun h14 => ?_)
    · exact y_sub (ls_s (ls_s (ls_s ls_0))) (t_X6_hours_27 n M9 a1 r10)
    · refine y_bipush (pc := 24) dX6_hours_24 (by decide) ?_
      refine y_istore_n (L' := [some (rv 137), some (iv a1), some (iv (-6))]) (pc := 26) dX6_hours_26 (by decide) rfl rfl ?_
      exact y_sub (ls_s (ls_s (ls_s ls_0))) (t_X6_hours_27 n M9 a1 (-6))
theorem c_X6_hours (n : Nat) (M : Mem) (a1 : Int) : ∀ res : Int × Mem, m_X6_hours n M a1 = some res → CTi yX6_hours cX6_hours 3 (some .int) 8 [rv 137, iv a1] M res := CTi_of (by decide +kernel) rfl (Nat.le_of_ble_eq_true rfl) rfl (y_X6_hours n M a1)
def m_X6_fogThen_18 (n : Nat) (M : Mem) (a1 : Int) (a2 : Int) (s0 : Int) : Rs := if I32 s0 then (if s0 = 0 then (bd (m_X6_minds n M) (fun _ M3 => bd (m_X6_goes n M3 a2) (fun _ M4 => bd (m_X6_fogOf n M4 a1) (fun r6 M5 => bd (m_X6_forgets n M5) (fun _ M7 => some (r6, M7)))))) else (bd (m_X6_no n M s0) (fun r9 M8 => some (r9, M8)))) else none
theorem t_X6_fogThen_18 (n : Nat) (M : Mem) (a1 : Int) (a2 : Int) (s0 : Int) : Y RX6 cX6_fogThen 5 8 0 none 18 [some (rv 137), some (iv a1), some (iv a2), none, none] [iv s0] M (m_X6_fogThen_18 n M a1 a2 s0) := by
  unfold m_X6_fogThen_18
  refine y_istore_n (L' := [some (rv 137), some (iv a1), some (iv a2), some (iv s0), none]) (pc := 18) dX6_fogThen_18 (by decide) rfl rfl ?_
  refine y_iload_n (pc := 19) dX6_fogThen_19 rfl ?_
  refine y_gd (fun h1 => ?_)
  refine y_if_eq (off := 9) (tgt := 29) (pc := 20) dX6_fogThen_20 (by decide) h1 (fun h2 => ?_) (fun h2 => ?_)
  · refine y_aload_n (pc := 29) dX6_fogThen_29 rfl ?_
    refine y_callVv (pc := 30) v_X6_minds l_X6_280 dX6_fogThen_30 (c_X6_minds n _) rfl rc_X6 rfl (by decide) (by decide) (Nat.le_of_ble_eq_true rfl) (fun _ M3 _ => ?_)
    refine y_aload_n (pc := 33) dX6_fogThen_33 rfl ?_
    refine y_iload_n (pc := 34) dX6_fogThen_34 rfl ?_
    refine y_callVv (pc := 35) v_X6_goes l_X6_210 dX6_fogThen_35 (c_X6_goes n _ _) rfl rc_X6 rfl (by decide) (by decide) (Nat.le_of_ble_eq_true rfl) (fun _ M4 _ => ?_)
    refine y_aload_n (pc := 38) dX6_fogThen_38 rfl ?_
    refine y_iload_n (pc := 39) dX6_fogThen_39 rfl ?_
    refine y_callVi (pc := 40) v_X6_fogOf l_X6_124 dX6_fogThen_40 (c_X6_fogOf n _ _) rfl rc_X6 rfl (by decide) (by decide) (Nat.le_of_ble_eq_true rfl) (fun r6 M5 _ => ?_)
    refine y_istore (L' := [some (rv 137), some (iv a1), some (iv a2), some (iv s0), some (iv r6)]) (pc := 43) dX6_fogThen_43 (by decide) rfl rfl ?_
    refine y_aload_n (pc := 45) dX6_fogThen_45 rfl ?_
    refine y_callVv (pc := 46) v_X6_forgets l_X6_283 dX6_fogThen_46 (c_X6_forgets n _) rfl rc_X6 rfl (by decide) (by decide) (Nat.le_of_ble_eq_true rfl) (fun _ M7 _ => ?_)
    refine y_iload (pc := 49) dX6_fogThen_49 rfl ?_
    exact y_iret (pc := 51) dX6_fogThen_51
  · refine y_aload_n (pc := 23) dX6_fogThen_23 rfl ?_
    refine y_iload_n (pc := 24) dX6_fogThen_24 rfl ?_
    refine y_callVi (pc := 25) v_X6_no l_X6_172 dX6_fogThen_25 (c_X6_no n _ _) rfl rc_X6 rfl (by decide) (by decide) (Nat.le_of_ble_eq_true rfl) (fun r9 M8 _ => ?_)
    exact y_iret (pc := 28) dX6_fogThen_28
def m_X6_fogThen (n : Nat) (M : Mem) (a1 : Int) (a2 : Int) : Rs := bd (m_X6_isCell n M a1) (fun r11 M10 => if I32 r11 then (if r11 = 0 then (m_X6_fogThen_18 n M10 a1 a2 (-1)) else (bd (m_X6_bound n M10 a2 0 60) (fun r15 M14 => m_X6_fogThen_18 n M14 a1 a2 r15))) else none)
theorem y_X6_fogThen (n : Nat) (M : Mem) (a1 : Int) (a2 : Int) : Y RX6 cX6_fogThen 5 8 0 none 0 [some (rv 137), some (iv a1), some (iv a2), none, none] [] M (m_X6_fogThen n M a1 a2) := by
  unfold m_X6_fogThen
  refine y_iload_n (pc := 0) dX6_fogThen_0 rfl ?_
  refine y_callSi (pc := 1) s_X6_isCell l_X6_198 dX6_fogThen_1 (c_X6_isCell n _ _) rfl rfl (by decide) (by decide) (Nat.le_of_ble_eq_true rfl) (fun r11 M10 _ => ?_)
  refine y_gd (fun h12 => ?_)
  refine y_if_ne (off := 7) (tgt := 11) (pc := 4) dX6_fogThen_4 (by decide) h12 (fun h13 => ?_) (fun h13 => ?_)
  · refine y_iload_n (pc := 11) dX6_fogThen_11 rfl ?_
    refine y_iconst (pc := 12) dX6_fogThen_12 ?_
    refine y_bipush (pc := 13) dX6_fogThen_13 (by decide) ?_
    refine y_callSi (pc := 15) s_X6_bound l_X6_165 dX6_fogThen_15 (c_X6_bound n _ _ _ _) rfl rfl (by decide) (by decide) (Nat.le_of_ble_eq_true rfl) (fun r15 M14 _ => ?_)
    exact y_sub (ls_s (ls_s (ls_s (ls_n (ls_n ls_0))))) (t_X6_fogThen_18 n M14 a1 a2 r15)
  · refine y_iconst (pc := 7) dX6_fogThen_7 ?_
    refine y_goto (tgt := 18) (pc := 8) dX6_fogThen_8 (by decide) ?_
    exact y_sub (ls_s (ls_s (ls_s (ls_n (ls_n ls_0))))) (t_X6_fogThen_18 n M10 a1 a2 (-1))
theorem c_X6_fogThen (n : Nat) (M : Mem) (a1 : Int) (a2 : Int) : ∀ res : Int × Mem, m_X6_fogThen n M a1 a2 = some res → CTi yX6_fogThen cX6_fogThen 5 (some .int) 8 [rv 137, iv a1, iv a2] M res := CTi_of (by decide +kernel) rfl (Nat.le_of_ble_eq_true rfl) rfl (y_X6_fogThen n M a1 a2)
def m_X6_dropped_29 (n : Nat) (k4 : Mem → Int → Int → Rs) (M : Mem) (a2 : Int) (s0 : Int) (s1 : Int) : Rs := k4 M (bOr s1 s0) (a2 + 1)
theorem t_X6_dropped_29 (n : Nat) (k4 : Mem → Int → Int → Rs) (hk4 : ∀ (M : Mem) (a1 : Int) (a2 : Int), Y RX6 cX6_dropped 3 0 0 none 4 [some (rv 137), some (iv a1), some (iv a2)] [] M (k4 M a1 a2)) (M : Mem) (a2 : Int) (s0 : Int) (s1 : Int) : Y RX6 cX6_dropped 3 0 0 none 29 [some (rv 137), none, some (iv a2)] [iv s0, iv s1] M (m_X6_dropped_29 n k4 M a2 s0 s1) := by
  unfold m_X6_dropped_29
  refine y_ior (pc := 29) dX6_dropped_29 ?_
  refine y_istore_n (L' := [some (rv 137), some (iv (bOr s1 s0)), some (iv a2)]) (pc := 30) dX6_dropped_30 (by decide) rfl rfl ?_
  refine y_iinc (L' := [some (rv 137), some (iv (bOr s1 s0)), some (iv (a2 + 1))]) (pc := 31) dX6_dropped_31 rfl (by decide) rfl rfl ?_
  refine y_goto (tgt := 4) (pc := 34) dX6_dropped_34 (by decide) ?_
  exact y_sub (ls_s (ls_s (ls_s ls_0))) (hk4 M (bOr s1 s0) (a2 + 1))
def m_X6_dropped_4 (n : Nat) : Nat → Mem → Int → Int → Rs
  | 0, _, _, _ => none
  | t + 1, M, a1, a2 => if I32 a2 then (if (rd M 137 7) ≤ a2 then (some (a1, M)) else (if 0 ≤ a2 ∧ a2 < 8 then (if 0 ≤ (rd M 143 (Int.toNat a2)) then (m_X6_dropped_29 n (m_X6_dropped_4 n t) M a2 0 a1) else (m_X6_dropped_29 n (m_X6_dropped_4 n t) M a2 (bShl 1 a2) a1)) else none)) else none
theorem t_X6_dropped_4 (n : Nat) : ∀ (t : Nat) (M : Mem) (a1 : Int) (a2 : Int), Y RX6 cX6_dropped 3 0 0 none 4 [some (rv 137), some (iv a1), some (iv a2)] [] M (m_X6_dropped_4 n t M a1 a2) := by
  intro t
  induction t with
  | zero => intro M a1 a2; exact y_none
  | succ t ih =>
    intro M a1 a2
    rewrite [m_X6_dropped_4]
    refine y_iload_n (pc := 4) dX6_dropped_4 rfl ?_
    refine y_aload_n (pc := 5) dX6_dropped_5 rfl ?_
    refine y_getint (pc := 6) g_X6_86 dX6_dropped_6 ?_
    refine y_gd (fun h1 => ?_)
    refine y_icmp_ge (off := 28) (tgt := 37) (pc := 9) dX6_dropped_9 (by decide) h1 (rd_rng _ _ _) (fun h2 => ?_) (fun h2 => ?_)
    · refine y_iload_n (pc := 37) dX6_dropped_37 rfl ?_
      exact y_iret (pc := 38) dX6_dropped_38
    · refine y_iload_n (pc := 12) dX6_dropped_12 rfl ?_
      refine y_aload_n (pc := 13) dX6_dropped_13 rfl ?_
      refine y_getref (pc := 14) (x := 143) g_X6_28 dX6_dropped_14 ?_
      refine y_iload_n (pc := 17) dX6_dropped_17 rfl ?_
      refine y_gd (fun h3 => ?_)
      refine y_iald (pc := 18) dX6_dropped_18 ar_143 h3 ?_
      refine y_if_ge (off := 9) (tgt := 28) (pc := 19) dX6_dropped_19 (by decide) (rd_rng _ _ _) (fun h4 => ?_) (fun h4 => ?_)
      · refine y_iconst (pc := 28) dX6_dropped_28 ?_
        exact y_sub (ls_s (ls_n (ls_s ls_0))) (t_X6_dropped_29 n (m_X6_dropped_4 n t) ih M a2 0 a1)
      · refine y_iconst (pc := 22) dX6_dropped_22 ?_
        refine y_iload_n (pc := 23) dX6_dropped_23 rfl ?_
        refine y_ishl (pc := 24) dX6_dropped_24 ?_
        refine y_goto (tgt := 29) (pc := 25) dX6_dropped_25 (by decide) ?_
        exact y_sub (ls_s (ls_n (ls_s ls_0))) (t_X6_dropped_29 n (m_X6_dropped_4 n t) ih M a2 (bShl 1 a2) a1)
def m_X6_dropped (n : Nat) (M : Mem) : Rs := m_X6_dropped_4 n n M 0 0
theorem y_X6_dropped (n : Nat) (M : Mem) : Y RX6 cX6_dropped 3 0 0 none 0 [some (rv 137), none, none] [] M (m_X6_dropped n M) := by
  unfold m_X6_dropped
  refine y_iconst (pc := 0) dX6_dropped_0 ?_
  refine y_istore_n (L' := [some (rv 137), some (iv 0), none]) (pc := 1) dX6_dropped_1 (by decide) rfl rfl ?_
  refine y_iconst (pc := 2) dX6_dropped_2 ?_
  refine y_istore_n (L' := [some (rv 137), some (iv 0), some (iv 0)]) (pc := 3) dX6_dropped_3 (by decide) rfl rfl ?_
  exact y_sub (ls_s (ls_s (ls_s ls_0))) (t_X6_dropped_4 n n M 0 0)
theorem c_X6_dropped (n : Nat) (M : Mem) : ∀ res : Int × Mem, m_X6_dropped n M = some res → CTi yX6_dropped cX6_dropped 3 (some .int) 0 [rv 137] M res := CTi_of (by decide +kernel) rfl (Nat.le_of_ble_eq_true rfl) rfl (y_X6_dropped n M)
def m_X6_then_70 (n : Nat) (M : Mem) (s0 : Int) : Rs := bd (m_X6_forgets n M) (fun _ M1 => some (s0, M1))
theorem t_X6_then_70 (n : Nat) (M : Mem) (s0 : Int) : Y RX6 cX6_then 5 8 0 none 70 [some (rv 137), none, none, none, none] [iv s0] M (m_X6_then_70 n M s0) := by
  unfold m_X6_then_70
  refine y_istore (L' := [some (rv 137), none, none, none, some (iv s0)]) (pc := 70) dX6_then_70 (by decide) rfl rfl ?_
  refine y_aload_n (pc := 72) dX6_then_72 rfl ?_
  refine y_callVv (pc := 73) v_X6_forgets l_X6_283 dX6_then_73 (c_X6_forgets n _) rfl rc_X6 rfl (by decide) (by decide) (Nat.le_of_ble_eq_true rfl) (fun _ M1 _ => ?_)
  refine y_iload (pc := 76) dX6_then_76 rfl ?_
  exact y_iret (pc := 78) dX6_then_78
def m_X6_then_24 (n : Nat) (M : Mem) (a1 : Int) (a2 : Int) (a3 : Int) : Rs := if I32 a3 then (if a3 = 0 then (bd (m_X6_minds n M) (fun _ M4 => bd (m_X6_goes n M4 a1) (fun _ M5 => if I32 a2 then (if a2 = 0 then (bd (m_X6_foggyCells n M5) (fun r14 M13 => m_X6_then_70 n M13 r14)) else (if a2 = 1 then (bd (m_X6_manyOwned n M5) (fun r12 M11 => m_X6_then_70 n M11 r12)) else (bd (m_X6_dropped n M5) (fun r10 M9 => m_X6_then_70 n M9 r10)))) else none))) else (bd (m_X6_no n M a3) (fun r16 M15 => some (r16, M15)))) else none
theorem t_X6_then_24 (n : Nat) (M : Mem) (a1 : Int) (a2 : Int) (a3 : Int) : Y RX6 cX6_then 5 8 0 none 24 [some (rv 137), some (iv a1), some (iv a2), some (iv a3), none] [] M (m_X6_then_24 n M a1 a2 a3) := by
  unfold m_X6_then_24
  refine y_iload_n (pc := 24) dX6_then_24 rfl ?_
  refine y_gd (fun h2 => ?_)
  refine y_if_eq (off := 9) (tgt := 34) (pc := 25) dX6_then_25 (by decide) h2 (fun h3 => ?_) (fun h3 => ?_)
  · refine y_aload_n (pc := 34) dX6_then_34 rfl ?_
    refine y_callVv (pc := 35) v_X6_minds l_X6_280 dX6_then_35 (c_X6_minds n _) rfl rc_X6 rfl (by decide) (by decide) (Nat.le_of_ble_eq_true rfl) (fun _ M4 _ => ?_)
    refine y_aload_n (pc := 38) dX6_then_38 rfl ?_
    refine y_iload_n (pc := 39) dX6_then_39 rfl ?_
    refine y_callVv (pc := 40) v_X6_goes l_X6_210 dX6_then_40 (c_X6_goes n _ _) rfl rc_X6 rfl (by decide) (by decide) (Nat.le_of_ble_eq_true rfl) (fun _ M5 _ => ?_)
    refine y_iload_n (pc := 43) dX6_then_43 rfl ?_
    refine y_gd (fun h6 => ?_)
    refine y_if_ne (off := 10) (tgt := 54) (pc := 44) dX6_then_44 (by decide) h6 (fun h7 => ?_) (fun h7 => ?_)
    · refine y_iload_n (pc := 54) dX6_then_54 rfl ?_
      refine y_iconst (pc := 55) dX6_then_55 ?_
      refine y_icmp_ne (off := 10) (tgt := 66) (pc := 56) dX6_then_56 (by decide) h6 (by decide) (fun h8 => ?_) (fun h8 => ?_)
      · refine y_aload_n (pc := 66) dX6_then_66 rfl ?_
        refine y_callVi (pc := 67) v_X6_dropped l_X6_289 dX6_then_67 (c_X6_dropped n _) rfl rc_X6 rfl (by decide) (by decide) (Nat.le_of_ble_eq_true rfl) (fun r10 M9 _ => ?_)
        exact y_sub (ls_s (ls_n (ls_n (ls_n (ls_n ls_0))))) (t_X6_then_70 n M9 r10)
      · refine y_aload_n (pc := 59) dX6_then_59 rfl ?_
        refine y_callVi (pc := 60) v_X6_manyOwned l_X6_277 dX6_then_60 (c_X6_manyOwned n _) rfl rc_X6 rfl (by decide) (by decide) (Nat.le_of_ble_eq_true rfl) (fun r12 M11 _ => ?_)
        refine y_goto (tgt := 70) (pc := 63) dX6_then_63 (by decide) ?_
        exact y_sub (ls_s (ls_n (ls_n (ls_n (ls_n ls_0))))) (t_X6_then_70 n M11 r12)
    · refine y_aload_n (pc := 47) dX6_then_47 rfl ?_
      refine y_callVi (pc := 48) v_X6_foggyCells l_X6_286 dX6_then_48 (c_X6_foggyCells n _) rfl rc_X6 rfl (by decide) (by decide) (Nat.le_of_ble_eq_true rfl) (fun r14 M13 _ => ?_)
      refine y_goto (tgt := 70) (pc := 51) dX6_then_51 (by decide) ?_
      exact y_sub (ls_s (ls_n (ls_n (ls_n (ls_n ls_0))))) (t_X6_then_70 n M13 r14)
  · refine y_aload_n (pc := 28) dX6_then_28 rfl ?_
    refine y_iload_n (pc := 29) dX6_then_29 rfl ?_
    refine y_callVi (pc := 30) v_X6_no l_X6_172 dX6_then_30 (c_X6_no n _ _) rfl rc_X6 rfl (by decide) (by decide) (Nat.le_of_ble_eq_true rfl) (fun r16 M15 _ => ?_)
    exact y_iret (pc := 33) dX6_then_33
def m_X6_then (n : Nat) (M : Mem) (a1 : Int) (a2 : Int) : Rs := bd (m_X6_bound n M a1 0 60) (fun r18 M17 => if I32 r18 then (if r18 = 0 then (bd (m_X6_isIn n M17 a2 0 2) (fun r22 M21 => if I32 r22 then (if r22 = 0 then (m_X6_then_24 n M21 a1 a2 (-2)) else (m_X6_then_24 n M21 a1 a2 r18)) else none)) else (m_X6_then_24 n M17 a1 a2 r18)) else none)
theorem y_X6_then (n : Nat) (M : Mem) (a1 : Int) (a2 : Int) : Y RX6 cX6_then 5 8 0 none 0 [some (rv 137), some (iv a1), some (iv a2), none, none] [] M (m_X6_then n M a1 a2) := by
  unfold m_X6_then
  refine y_iload_n (pc := 0) dX6_then_0 rfl ?_
  refine y_iconst (pc := 1) dX6_then_1 ?_
  refine y_bipush (pc := 2) dX6_then_2 (by decide) ?_
  refine y_callSi (pc := 4) s_X6_bound l_X6_165 dX6_then_4 (c_X6_bound n _ _ _ _) rfl rfl (by decide) (by decide) (Nat.le_of_ble_eq_true rfl) (fun r18 M17 _ => ?_)
  refine y_istore_n (L' := [some (rv 137), some (iv a1), some (iv a2), some (iv r18), none]) (pc := 7) dX6_then_7 (by decide) rfl rfl ?_
  refine y_iload_n (pc := 8) dX6_then_8 rfl ?_
  refine y_gd (fun h19 => ?_)
  refine y_if_ne (off := 15) (tgt := 24) (pc := 9) dX6_then_9 (by decide) h19 (fun h20 => ?_) (fun h20 => ?_)
  · exact y_sub (ls_s (ls_s (ls_s (ls_s (ls_n ls_0))))) (t_X6_then_24 n M17 a1 a2 r18)
  · refine y_iload_n (pc := 12) dX6_then_12 rfl ?_
    refine y_iconst (pc := 13) dX6_then_13 ?_
    refine y_iconst (pc := 14) dX6_then_14 ?_
    refine y_callSi (pc := 15) s_X6_isIn l_X6_82 dX6_then_15 (c_X6_isIn n _ _ _ _) rfl rfl (by decide) (by decide) (Nat.le_of_ble_eq_true rfl) (fun r22 M21 _ => ?_)
    refine y_gd (fun h23 => ?_)
    refine y_if_ne (off := 6) (tgt := 24) (pc := 18) dX6_then_18 (by decide) h23 (fun h24 => ?_) (fun h24 => ?_)
    · exact y_sub (ls_s (ls_s (ls_s (ls_s (ls_n ls_0))))) (t_X6_then_24 n M21 a1 a2 r18)
    · refine y_bipush (pc := 21) dX6_then_21 (by decide) ?_
      refine y_istore_n (L' := [some (rv 137), some (iv a1), some (iv a2), some (iv (-2)), none]) (pc := 23) dX6_then_23 (by decide) rfl rfl ?_
      exact y_sub (ls_s (ls_s (ls_s (ls_s (ls_n ls_0))))) (t_X6_then_24 n M21 a1 a2 (-2))
theorem c_X6_then (n : Nat) (M : Mem) (a1 : Int) (a2 : Int) : ∀ res : Int × Mem, m_X6_then n M a1 a2 = some res → CTi yX6_then cX6_then 5 (some .int) 8 [rv 137, iv a1, iv a2] M res := CTi_of (by decide +kernel) rfl (Nat.le_of_ble_eq_true rfl) rfl (y_X6_then n M a1 a2)
def m_X6_ownerThen_19 (n : Nat) (M : Mem) (a1 : Int) (a2 : Int) (s0 : Int) : Rs := if I32 s0 then (if s0 = 0 then (bd (m_X6_minds n M) (fun _ M3 => bd (m_X6_goes n M3 a2) (fun _ M4 => if 0 ≤ a1 ∧ a1 < 8 then (lt (rd M4 143 (Int.toNat a1)) (fun x6 => bd (m_X6_forgets n M4) (fun _ M7 => some (x6, M7)))) else none))) else (bd (m_X6_no n M s0) (fun r9 M8 => some (r9, M8)))) else none
theorem t_X6_ownerThen_19 (n : Nat) (M : Mem) (a1 : Int) (a2 : Int) (s0 : Int) : Y RX6 cX6_ownerThen 5 8 0 none 19 [some (rv 137), some (iv a1), some (iv a2), none, none] [iv s0] M (m_X6_ownerThen_19 n M a1 a2 s0) := by
  unfold m_X6_ownerThen_19
  refine y_istore_n (L' := [some (rv 137), some (iv a1), some (iv a2), some (iv s0), none]) (pc := 19) dX6_ownerThen_19 (by decide) rfl rfl ?_
  refine y_iload_n (pc := 20) dX6_ownerThen_20 rfl ?_
  refine y_gd (fun h1 => ?_)
  refine y_if_eq (off := 9) (tgt := 30) (pc := 21) dX6_ownerThen_21 (by decide) h1 (fun h2 => ?_) (fun h2 => ?_)
  · refine y_aload_n (pc := 30) dX6_ownerThen_30 rfl ?_
    refine y_callVv (pc := 31) v_X6_minds l_X6_280 dX6_ownerThen_31 (c_X6_minds n _) rfl rc_X6 rfl (by decide) (by decide) (Nat.le_of_ble_eq_true rfl) (fun _ M3 _ => ?_)
    refine y_aload_n (pc := 34) dX6_ownerThen_34 rfl ?_
    refine y_iload_n (pc := 35) dX6_ownerThen_35 rfl ?_
    refine y_callVv (pc := 36) v_X6_goes l_X6_210 dX6_ownerThen_36 (c_X6_goes n _ _) rfl rc_X6 rfl (by decide) (by decide) (Nat.le_of_ble_eq_true rfl) (fun _ M4 _ => ?_)
    refine y_aload_n (pc := 39) dX6_ownerThen_39 rfl ?_
    refine y_getref (pc := 40) (x := 143) g_X6_28 dX6_ownerThen_40 ?_
    refine y_iload_n (pc := 43) dX6_ownerThen_43 rfl ?_
    refine y_gd (fun h5 => ?_)
    refine y_iald (pc := 44) dX6_ownerThen_44 ar_143 h5 ?_
    refine y_leti (fun x6 => ?_)
    refine y_istore (L' := [some (rv 137), some (iv a1), some (iv a2), some (iv s0), some (iv x6)]) (pc := 45) dX6_ownerThen_45 (by decide) rfl rfl ?_
    refine y_aload_n (pc := 47) dX6_ownerThen_47 rfl ?_
    refine y_callVv (pc := 48) v_X6_forgets l_X6_283 dX6_ownerThen_48 (c_X6_forgets n _) rfl rc_X6 rfl (by decide) (by decide) (Nat.le_of_ble_eq_true rfl) (fun _ M7 _ => ?_)
    refine y_iload (pc := 51) dX6_ownerThen_51 rfl ?_
    exact y_iret (pc := 53) dX6_ownerThen_53
  · refine y_aload_n (pc := 24) dX6_ownerThen_24 rfl ?_
    refine y_iload_n (pc := 25) dX6_ownerThen_25 rfl ?_
    refine y_callVi (pc := 26) v_X6_no l_X6_172 dX6_ownerThen_26 (c_X6_no n _ _) rfl rc_X6 rfl (by decide) (by decide) (Nat.le_of_ble_eq_true rfl) (fun r9 M8 _ => ?_)
    exact y_iret (pc := 29) dX6_ownerThen_29
def m_X6_ownerThen (n : Nat) (M : Mem) (a1 : Int) (a2 : Int) : Rs := bd (m_X6_isThing n M a1) (fun r11 M10 => if I32 r11 then (if r11 = 0 then (m_X6_ownerThen_19 n M10 a1 a2 (-1)) else (bd (m_X6_bound n M10 a2 0 60) (fun r15 M14 => m_X6_ownerThen_19 n M14 a1 a2 r15))) else none)
theorem y_X6_ownerThen (n : Nat) (M : Mem) (a1 : Int) (a2 : Int) : Y RX6 cX6_ownerThen 5 8 0 none 0 [some (rv 137), some (iv a1), some (iv a2), none, none] [] M (m_X6_ownerThen n M a1 a2) := by
  unfold m_X6_ownerThen
  refine y_aload_n (pc := 0) dX6_ownerThen_0 rfl ?_
  refine y_iload_n (pc := 1) dX6_ownerThen_1 rfl ?_
  refine y_callVi (pc := 2) v_X6_isThing l_X6_207 dX6_ownerThen_2 (c_X6_isThing n _ _) rfl rc_X6 rfl (by decide) (by decide) (Nat.le_of_ble_eq_true rfl) (fun r11 M10 _ => ?_)
  refine y_gd (fun h12 => ?_)
  refine y_if_ne (off := 7) (tgt := 12) (pc := 5) dX6_ownerThen_5 (by decide) h12 (fun h13 => ?_) (fun h13 => ?_)
  · refine y_iload_n (pc := 12) dX6_ownerThen_12 rfl ?_
    refine y_iconst (pc := 13) dX6_ownerThen_13 ?_
    refine y_bipush (pc := 14) dX6_ownerThen_14 (by decide) ?_
    refine y_callSi (pc := 16) s_X6_bound l_X6_165 dX6_ownerThen_16 (c_X6_bound n _ _ _ _) rfl rfl (by decide) (by decide) (Nat.le_of_ble_eq_true rfl) (fun r15 M14 _ => ?_)
    exact y_sub (ls_s (ls_s (ls_s (ls_n (ls_n ls_0))))) (t_X6_ownerThen_19 n M14 a1 a2 r15)
  · refine y_iconst (pc := 8) dX6_ownerThen_8 ?_
    refine y_goto (tgt := 19) (pc := 9) dX6_ownerThen_9 (by decide) ?_
    exact y_sub (ls_s (ls_s (ls_s (ls_n (ls_n ls_0))))) (t_X6_ownerThen_19 n M10 a1 a2 (-1))
theorem c_X6_ownerThen (n : Nat) (M : Mem) (a1 : Int) (a2 : Int) : ∀ res : Int × Mem, m_X6_ownerThen n M a1 a2 = some res → CTi yX6_ownerThen cX6_ownerThen 5 (some .int) 8 [rv 137, iv a1, iv a2] M res := CTi_of (by decide +kernel) rfl (Nat.le_of_ble_eq_true rfl) rfl (y_X6_ownerThen n M a1 a2)
