def m_X6_steam (n : Nat) (M : Mem) (a1 : Int) : Rs := if 0 ≤ a1 ∧ a1 < 5 then (if (rd M 144 (Int.toNat a1)) = 3 then (some (5, M)) else (if (rd M 144 (Int.toNat a1)) = 4 then (some (((Int.tdiv (rd M 145 (Int.toNat a1)) 2) + 5), M)) else (if (rd M 144 (Int.toNat a1)) = 5 then (some (0, M)) else (if (rd M 144 (Int.toNat a1)) = 6 then (some (3, M)) else (some (0, M)))))) else none
theorem y_X6_steam (n : Nat) (M : Mem) (a1 : Int) : Y RX6 cX6_steam 2 0 0 none 0 [some (rv 137), some (iv a1)] [] M (m_X6_steam n M a1) := by
  unfold m_X6_steam
  refine y_aload_n (pc := 0) dX6_steam_0 rfl ?_
  refine y_getref (pc := 1) (x := 144) g_X6_31 dX6_steam_1 ?_
  refine y_iload_n (pc := 4) dX6_steam_4 rfl ?_
  refine y_gd (fun h1 => ?_)
  refine y_iald (pc := 5) dX6_steam_5 ar_144 h1 ?_
  refine y_br (fun h2 => ?_) (fun h2 => ?_)
  · refine y_tableIn (off := 30) (tgt := 36) (pc := 6) dX6_steam_6 h2 (by decide) (by decide) (by decide) rfl (by decide) ?_
    refine y_iconst (pc := 36) dX6_steam_36 ?_
    exact y_iret (pc := 37) dX6_steam_37
  · refine y_br (fun h3 => ?_) (fun h3 => ?_)
    · refine y_tableIn (off := 32) (tgt := 38) (pc := 6) dX6_steam_6 h3 (by decide) (by decide) (by decide) rfl (by decide) ?_
      refine y_aload_n (pc := 38) dX6_steam_38 rfl ?_
      refine y_getref (pc := 39) (x := 145) g_X6_34 dX6_steam_39 ?_
      refine y_iload_n (pc := 42) dX6_steam_42 rfl ?_
      refine y_iald (pc := 43) dX6_steam_43 ar_145 h1 ?_
      refine y_iconst (pc := 44) dX6_steam_44 ?_
      refine y_idiv (pc := 45) dX6_steam_45 (rd_rng _ _ _) (by decide) (by decide) ?_
      refine y_iconst (pc := 46) dX6_steam_46 ?_
      refine y_iadd (pc := 47) dX6_steam_47 ?_
      exact y_iret (pc := 48) dX6_steam_48
    · refine y_br (fun h4 => ?_) (fun h4 => ?_)
      · refine y_tableIn (off := 45) (tgt := 51) (pc := 6) dX6_steam_6 h4 (by decide) (by decide) (by decide) rfl (by decide) ?_
        refine y_iconst (pc := 51) dX6_steam_51 ?_
        exact y_iret (pc := 52) dX6_steam_52
      · refine y_br (fun h5 => ?_) (fun h5 => ?_)
        · refine y_tableIn (off := 43) (tgt := 49) (pc := 6) dX6_steam_6 h5 (by decide) (by decide) (by decide) rfl (by decide) ?_
          refine y_iconst (pc := 49) dX6_steam_49 ?_
          exact y_iret (pc := 50) dX6_steam_50
        · refine y_tableOut (tgt := 51) (pc := 6) dX6_steam_6 (rd_rng _ _ _) (by omega) (by decide) ?_
          refine y_iconst (pc := 51) dX6_steam_51 ?_
          exact y_iret (pc := 52) dX6_steam_52
theorem c_X6_steam (n : Nat) (M : Mem) (a1 : Int) : ∀ res : Int × Mem, m_X6_steam n M a1 = some res → CTi yX6_steam cX6_steam 2 (some .int) 0 [rv 137, iv a1] M res := CTi_of (by decide +kernel) rfl (Nat.le_of_ble_eq_true rfl) rfl (y_X6_steam n M a1)
def m_X6_fogOf_43 (n : Nat) (k12 : Mem → Int → Int → Int → Rs) (M : Mem) (a1 : Int) (a3 : Int) (s0 : Int) : Rs := k12 M a1 s0 (a3 + 1)
theorem t_X6_fogOf_43 (n : Nat) (k12 : Mem → Int → Int → Int → Rs) (hk12 : ∀ (M : Mem) (a1 : Int) (a2 : Int) (a3 : Int), Y RX6 cX6_fogOf 4 3 0 none 12 [some (rv 137), some (iv a1), some (iv a2), some (iv a3)] [] M (k12 M a1 a2 a3)) (M : Mem) (a1 : Int) (a3 : Int) (s0 : Int) : Y RX6 cX6_fogOf 4 3 0 none 43 [some (rv 137), some (iv a1), none, some (iv a3)] [iv s0] M (m_X6_fogOf_43 n k12 M a1 a3 s0) := by
  unfold m_X6_fogOf_43
  refine y_istore_n (L' := [some (rv 137), some (iv a1), some (iv s0), some (iv a3)]) (pc := 43) dX6_fogOf_43 (by decide) rfl rfl ?_
  refine y_iinc (L' := [some (rv 137), some (iv a1), some (iv s0), some (iv (a3 + 1))]) (pc := 44) dX6_fogOf_44 rfl (by decide) rfl rfl ?_
  refine y_goto (tgt := 12) (pc := 47) dX6_fogOf_47 (by decide) ?_
  exact y_sub (ls_s (ls_s (ls_s (ls_s ls_0)))) (hk12 M a1 s0 (a3 + 1))
def m_X6_fogOf_12 (n : Nat) : Nat → Mem → Int → Int → Int → Rs
  | 0, _, _, _, _ => none
  | t + 1, M, a1, a2, a3 => if I32 a3 then (if (rd M 137 12) ≤ a3 then (if I32 a1 then (if (rd M 137 20) = a1 then (bd (m_X6_greater n M a2 9) (fun r6 M5 => some (r6, M5))) else (some (a2, M))) else none) else (if 0 ≤ a3 ∧ a3 < 5 then (if I32 a1 then (if (rd M 147 (Int.toNat a3)) = a1 then (bd (m_X6_steam n M a3) (fun r11 M10 => bd (m_X6_greater n M10 a2 r11) (fun r13 M12 => m_X6_fogOf_43 n (m_X6_fogOf_12 n t) M12 a1 a3 r13))) else (m_X6_fogOf_43 n (m_X6_fogOf_12 n t) M a1 a3 a2)) else none) else none)) else none
theorem t_X6_fogOf_12 (n : Nat) : ∀ (t : Nat) (M : Mem) (a1 : Int) (a2 : Int) (a3 : Int), Y RX6 cX6_fogOf 4 3 0 none 12 [some (rv 137), some (iv a1), some (iv a2), some (iv a3)] [] M (m_X6_fogOf_12 n t M a1 a2 a3) := by
  intro t
  induction t with
  | zero => intro M a1 a2 a3; exact y_none
  | succ t ih =>
    intro M a1 a2 a3
    rewrite [m_X6_fogOf_12]
    refine y_iload_n (pc := 12) dX6_fogOf_12 rfl ?_
    refine y_aload_n (pc := 13) dX6_fogOf_13 rfl ?_
    refine y_getint (pc := 14) g_X6_89 dX6_fogOf_14 ?_
    refine y_gd (fun h1 => ?_)
    refine y_icmp_ge (off := 33) (tgt := 50) (pc := 17) dX6_fogOf_17 (by decide) h1 (rd_rng _ _ _) (fun h2 => ?_) (fun h2 => ?_)
    · refine y_aload_n (pc := 50) dX6_fogOf_50 rfl ?_
      refine y_getint (pc := 51) g_X6_49 dX6_fogOf_51 ?_
      refine y_iload_n (pc := 54) dX6_fogOf_54 rfl ?_
      refine y_gd (fun h3 => ?_)
      refine y_icmp_ne (off := 12) (tgt := 67) (pc := 55) dX6_fogOf_55 (by decide) (rd_rng _ _ _) h3 (fun h4 => ?_) (fun h4 => ?_)
      · refine y_iload_n (pc := 67) dX6_fogOf_67 rfl ?_
        exact y_iret (pc := 68) dX6_fogOf_68
      · refine y_iload_n (pc := 58) dX6_fogOf_58 rfl ?_
        refine y_bipush (pc := 59) dX6_fogOf_59 (by decide) ?_
        refine y_callSi (pc := 61) s_X6_greater l_X6_96 dX6_fogOf_61 (c_X6_greater n _ _ _) rfl rfl (by decide) (by decide) (Nat.le_of_ble_eq_true rfl) (fun r6 M5 _ => ?_)
        refine y_goto (tgt := 68) (pc := 64) dX6_fogOf_64 (by decide) ?_
        exact y_iret (pc := 68) dX6_fogOf_68
    · refine y_aload_n (pc := 20) dX6_fogOf_20 rfl ?_
      refine y_getref (pc := 21) (x := 147) g_X6_40 dX6_fogOf_21 ?_
      refine y_iload_n (pc := 24) dX6_fogOf_24 rfl ?_
      refine y_gd (fun h7 => ?_)
      refine y_iald (pc := 25) dX6_fogOf_25 ar_147 h7 ?_
      refine y_iload_n (pc := 26) dX6_fogOf_26 rfl ?_
      refine y_gd (fun h8 => ?_)
      refine y_icmp_ne (off := 15) (tgt := 42) (pc := 27) dX6_fogOf_27 (by decide) (rd_rng _ _ _) h8 (fun h9 => ?_) (fun h9 => ?_)
      · refine y_iload_n (pc := 42) dX6_fogOf_42 rfl ?_
        exact y_sub (ls_s (ls_s (ls_n (ls_s ls_0)))) (t_X6_fogOf_43 n (m_X6_fogOf_12 n t) ih M a1 a3 a2)
      · refine y_iload_n (pc := 30) dX6_fogOf_30 rfl ?_
        refine y_aload_n (pc := 31) dX6_fogOf_31 rfl ?_
        refine y_iload_n (pc := 32) dX6_fogOf_32 rfl ?_
        refine y_callVi (pc := 33) v_X6_steam l_X6_120 dX6_fogOf_33 (c_X6_steam n _ _) rfl rc_X6 rfl (by decide) (by decide) (Nat.le_of_ble_eq_true rfl) (fun r11 M10 _ => ?_)
        refine y_callSi (pc := 36) s_X6_greater l_X6_96 dX6_fogOf_36 (c_X6_greater n _ _ _) rfl rfl (by decide) (by decide) (Nat.le_of_ble_eq_true rfl) (fun r13 M12 _ => ?_)
        refine y_goto (tgt := 43) (pc := 39) dX6_fogOf_39 (by decide) ?_
        exact y_sub (ls_s (ls_s (ls_n (ls_s ls_0)))) (t_X6_fogOf_43 n (m_X6_fogOf_12 n t) ih M12 a1 a3 r13)
def m_X6_fogOf (n : Nat) (M : Mem) (a1 : Int) : Rs := bd (m_X6_airIn n M a1 (rd M 137 13)) (fun r15 M14 => m_X6_fogOf_12 n n M14 a1 r15 0)
theorem y_X6_fogOf (n : Nat) (M : Mem) (a1 : Int) : Y RX6 cX6_fogOf 4 3 0 none 0 [some (rv 137), some (iv a1), none, none] [] M (m_X6_fogOf n M a1) := by
  unfold m_X6_fogOf
  refine y_aload_n (pc := 0) dX6_fogOf_0 rfl ?_
  refine y_iload_n (pc := 1) dX6_fogOf_1 rfl ?_
  refine y_aload_n (pc := 2) dX6_fogOf_2 rfl ?_
  refine y_getint (pc := 3) g_X6_114 dX6_fogOf_3 ?_
  refine y_callVi (pc := 6) v_X6_airIn l_X6_117 dX6_fogOf_6 (c_X6_airIn n _ _ _) rfl rc_X6 rfl (by decide) (by decide) (Nat.le_of_ble_eq_true rfl) (fun r15 M14 _ => ?_)
  refine y_istore_n (L' := [some (rv 137), some (iv a1), some (iv r15), none]) (pc := 9) dX6_fogOf_9 (by decide) rfl rfl ?_
  refine y_iconst (pc := 10) dX6_fogOf_10 ?_
  refine y_istore_n (L' := [some (rv 137), some (iv a1), some (iv r15), some (iv 0)]) (pc := 11) dX6_fogOf_11 (by decide) rfl rfl ?_
  exact y_sub (ls_s (ls_s (ls_s (ls_s ls_0)))) (t_X6_fogOf_12 n n M14 a1 r15 0)
theorem c_X6_fogOf (n : Nat) (M : Mem) (a1 : Int) : ∀ res : Int × Mem, m_X6_fogOf n M a1 = some res → CTi yX6_fogOf cX6_fogOf 4 (some .int) 3 [rv 137, iv a1] M res := CTi_of (by decide +kernel) rfl (Nat.le_of_ble_eq_true rfl) rfl (y_X6_fogOf n M a1)
def m_X6_isFoggy (n : Nat) (M : Mem) (a1 : Int) : Rs := bd (m_X6_fogOf n M a1) (fun r2 M1 => if I32 r2 then (if r2 < (rd M1 137 14) then (some (0, M1)) else (some (1, M1))) else none)
theorem y_X6_isFoggy (n : Nat) (M : Mem) (a1 : Int) : Y RX6 cX6_isFoggy 2 4 1 none 0 [some (rv 137), some (iv a1)] [] M (m_X6_isFoggy n M a1) := by
  unfold m_X6_isFoggy
  refine y_aload_n (pc := 0) dX6_isFoggy_0 rfl ?_
  refine y_iload_n (pc := 1) dX6_isFoggy_1 rfl ?_
  refine y_callVi (pc := 2) v_X6_fogOf l_X6_124 dX6_isFoggy_2 (c_X6_fogOf n _ _) rfl rc_X6 rfl (by decide) (by decide) (Nat.le_of_ble_eq_true rfl) (fun r2 M1 _ => ?_)
  refine y_aload_n (pc := 5) dX6_isFoggy_5 rfl ?_
  refine y_getint (pc := 6) g_X6_74 dX6_isFoggy_6 ?_
  refine y_gd (fun h3 => ?_)
  refine y_icmp_lt (off := 7) (tgt := 16) (pc := 9) dX6_isFoggy_9 (by decide) h3 (rd_rng _ _ _) (fun h4 => ?_) (fun h4 => ?_)
  · refine y_iconst (pc := 16) dX6_isFoggy_16 ?_
    exact y_zret (pc := 17) dX6_isFoggy_17 (by decide)
  · refine y_iconst (pc := 12) dX6_isFoggy_12 ?_
    refine y_goto (tgt := 17) (pc := 13) dX6_isFoggy_13 (by decide) ?_
    exact y_zret (pc := 17) dX6_isFoggy_17 (by decide)
theorem c_X6_isFoggy (n : Nat) (M : Mem) (a1 : Int) : ∀ res : Int × Mem, m_X6_isFoggy n M a1 = some res → CTi yX6_isFoggy cX6_isFoggy 2 (some .boolean) 4 [rv 137, iv a1] M res := CTz_of (by decide +kernel) rfl (Nat.le_of_ble_eq_true rfl) rfl (y_X6_isFoggy n M a1)
def m_X6_foggyCells_26 (n : Nat) (k4 : Mem → Int → Int → Rs) (M : Mem) (a2 : Int) (s0 : Int) (s1 : Int) : Rs := k4 M (bOr s1 s0) (a2 + 1)
theorem t_X6_foggyCells_26 (n : Nat) (k4 : Mem → Int → Int → Rs) (hk4 : ∀ (M : Mem) (a1 : Int) (a2 : Int), Y RX6 cX6_foggyCells 3 5 0 none 4 [some (rv 137), some (iv a1), some (iv a2)] [] M (k4 M a1 a2)) (M : Mem) (a2 : Int) (s0 : Int) (s1 : Int) : Y RX6 cX6_foggyCells 3 5 0 none 26 [some (rv 137), none, some (iv a2)] [iv s0, iv s1] M (m_X6_foggyCells_26 n k4 M a2 s0 s1) := by
  unfold m_X6_foggyCells_26
  refine y_ior (pc := 26) dX6_foggyCells_26 ?_
  refine y_istore_n (L' := [some (rv 137), some (iv (bOr s1 s0)), some (iv a2)]) (pc := 27) dX6_foggyCells_27 (by decide) rfl rfl ?_
  refine y_iinc (L' := [some (rv 137), some (iv (bOr s1 s0)), some (iv (a2 + 1))]) (pc := 28) dX6_foggyCells_28 rfl (by decide) rfl rfl ?_
  refine y_goto (tgt := 4) (pc := 31) dX6_foggyCells_31 (by decide) ?_
  exact y_sub (ls_s (ls_s (ls_s ls_0))) (hk4 M (bOr s1 s0) (a2 + 1))
def m_X6_foggyCells_4 (n : Nat) : Nat → Mem → Int → Int → Rs
  | 0, _, _, _ => none
  | t + 1, M, a1, a2 => if I32 a2 then (if 24 ≤ a2 then (some (a1, M)) else (bd (m_X6_isFoggy n M a2) (fun r4 M3 => if I32 r4 then (if r4 = 0 then (m_X6_foggyCells_26 n (m_X6_foggyCells_4 n t) M3 a2 0 a1) else (m_X6_foggyCells_26 n (m_X6_foggyCells_4 n t) M3 a2 (bShl 1 a2) a1)) else none))) else none
theorem t_X6_foggyCells_4 (n : Nat) : ∀ (t : Nat) (M : Mem) (a1 : Int) (a2 : Int), Y RX6 cX6_foggyCells 3 5 0 none 4 [some (rv 137), some (iv a1), some (iv a2)] [] M (m_X6_foggyCells_4 n t M a1 a2) := by
  intro t
  induction t with
  | zero => intro M a1 a2; exact y_none
  | succ t ih =>
    intro M a1 a2
    rewrite [m_X6_foggyCells_4]
    refine y_iload_n (pc := 4) dX6_foggyCells_4 rfl ?_
    refine y_bipush (pc := 5) dX6_foggyCells_5 (by decide) ?_
    refine y_gd (fun h1 => ?_)
    refine y_icmp_ge (off := 27) (tgt := 34) (pc := 7) dX6_foggyCells_7 (by decide) h1 (by decide) (fun h2 => ?_) (fun h2 => ?_)
    · refine y_iload_n (pc := 34) dX6_foggyCells_34 rfl ?_
      exact y_iret (pc := 35) dX6_foggyCells_35
    · refine y_iload_n (pc := 10) dX6_foggyCells_10 rfl ?_
      refine y_aload_n (pc := 11) dX6_foggyCells_11 rfl ?_
      refine y_iload_n (pc := 12) dX6_foggyCells_12 rfl ?_
      refine y_callVi (pc := 13) v_X6_isFoggy l_X6_127 dX6_foggyCells_13 (c_X6_isFoggy n _ _) rfl rc_X6 rfl (by decide) (by decide) (Nat.le_of_ble_eq_true rfl) (fun r4 M3 _ => ?_)
      refine y_gd (fun h5 => ?_)
      refine y_if_eq (off := 9) (tgt := 25) (pc := 16) dX6_foggyCells_16 (by decide) h5 (fun h6 => ?_) (fun h6 => ?_)
      · refine y_iconst (pc := 25) dX6_foggyCells_25 ?_
        exact y_sub (ls_s (ls_n (ls_s ls_0))) (t_X6_foggyCells_26 n (m_X6_foggyCells_4 n t) ih M3 a2 0 a1)
      · refine y_iconst (pc := 19) dX6_foggyCells_19 ?_
        refine y_iload_n (pc := 20) dX6_foggyCells_20 rfl ?_
        refine y_ishl (pc := 21) dX6_foggyCells_21 ?_
        refine y_goto (tgt := 26) (pc := 22) dX6_foggyCells_22 (by decide) ?_
        exact y_sub (ls_s (ls_n (ls_s ls_0))) (t_X6_foggyCells_26 n (m_X6_foggyCells_4 n t) ih M3 a2 (bShl 1 a2) a1)
def m_X6_foggyCells (n : Nat) (M : Mem) : Rs := m_X6_foggyCells_4 n n M 0 0
theorem y_X6_foggyCells (n : Nat) (M : Mem) : Y RX6 cX6_foggyCells 3 5 0 none 0 [some (rv 137), none, none] [] M (m_X6_foggyCells n M) := by
  unfold m_X6_foggyCells
  refine y_iconst (pc := 0) dX6_foggyCells_0 ?_
  refine y_istore_n (L' := [some (rv 137), some (iv 0), none]) (pc := 1) dX6_foggyCells_1 (by decide) rfl rfl ?_
  refine y_iconst (pc := 2) dX6_foggyCells_2 ?_
  refine y_istore_n (L' := [some (rv 137), some (iv 0), some (iv 0)]) (pc := 3) dX6_foggyCells_3 (by decide) rfl rfl ?_
  exact y_sub (ls_s (ls_s (ls_s ls_0))) (t_X6_foggyCells_4 n n M 0 0)
theorem c_X6_foggyCells (n : Nat) (M : Mem) : ∀ res : Int × Mem, m_X6_foggyCells n M = some res → CTi yX6_foggyCells cX6_foggyCells 3 (some .int) 5 [rv 137] M res := CTi_of (by decide +kernel) rfl (Nat.le_of_ble_eq_true rfl) rfl (y_X6_foggyCells n M)
def m_X6_pace (n : Nat) (M : Mem) (a1 : Int) : Rs := if 0 ≤ a1 ∧ a1 < 5 then (if (rd M 144 (Int.toNat a1)) = 1 then (some (2, M)) else (if (rd M 144 (Int.toNat a1)) = 2 then (some (2, M)) else (if (rd M 144 (Int.toNat a1)) = 3 then (some (0, M)) else (if (rd M 144 (Int.toNat a1)) = 4 then (some (2, M)) else (if (rd M 144 (Int.toNat a1)) = 5 then (some (((Int.tdiv (rd M 145 (Int.toNat a1)) 3) + 1), M)) else (if (rd M 144 (Int.toNat a1)) = 6 then (some ((Int.tdiv (rd M 145 (Int.toNat a1)) 3), M)) else (if (rd M 144 (Int.toNat a1)) = 7 then (some (3, M)) else (some (1, M))))))))) else none
theorem y_X6_pace (n : Nat) (M : Mem) (a1 : Int) : Y RX6 cX6_pace 2 0 0 none 0 [some (rv 137), some (iv a1)] [] M (m_X6_pace n M a1) := by
  unfold m_X6_pace
  refine y_aload_n (pc := 0) dX6_pace_0 rfl ?_
  refine y_getref (pc := 1) (x := 144) g_X6_31 dX6_pace_1 ?_
  refine y_iload_n (pc := 4) dX6_pace_4 rfl ?_
  refine y_gd (fun h1 => ?_)
  refine y_iald (pc := 5) dX6_pace_5 ar_144 h1 ?_
  refine y_br (fun h2 => ?_) (fun h2 => ?_)
  · refine y_tableIn (off := 42) (tgt := 48) (pc := 6) dX6_pace_6 h2 (by decide) (by decide) (by decide) rfl (by decide) ?_
    refine y_iconst (pc := 48) dX6_pace_48 ?_
    exact y_iret (pc := 49) dX6_pace_49
  · refine y_br (fun h3 => ?_) (fun h3 => ?_)
    · refine y_tableIn (off := 42) (tgt := 48) (pc := 6) dX6_pace_6 h3 (by decide) (by decide) (by decide) rfl (by decide) ?_
      refine y_iconst (pc := 48) dX6_pace_48 ?_
      exact y_iret (pc := 49) dX6_pace_49
    · refine y_br (fun h4 => ?_) (fun h4 => ?_)
      · refine y_tableIn (off := 44) (tgt := 50) (pc := 6) dX6_pace_6 h4 (by decide) (by decide) (by decide) rfl (by decide) ?_
        refine y_iconst (pc := 50) dX6_pace_50 ?_
        exact y_iret (pc := 51) dX6_pace_51
      · refine y_br (fun h5 => ?_) (fun h5 => ?_)
        · refine y_tableIn (off := 42) (tgt := 48) (pc := 6) dX6_pace_6 h5 (by decide) (by decide) (by decide) rfl (by decide) ?_
          refine y_iconst (pc := 48) dX6_pace_48 ?_
          exact y_iret (pc := 49) dX6_pace_49
        · refine y_br (fun h6 => ?_) (fun h6 => ?_)
          · refine y_tableIn (off := 46) (tgt := 52) (pc := 6) dX6_pace_6 h6 (by decide) (by decide) (by decide) rfl (by decide) ?_
            refine y_aload_n (pc := 52) dX6_pace_52 rfl ?_
            refine y_getref (pc := 53) (x := 145) g_X6_34 dX6_pace_53 ?_
            refine y_iload_n (pc := 56) dX6_pace_56 rfl ?_
            refine y_iald (pc := 57) dX6_pace_57 ar_145 h1 ?_
            refine y_iconst (pc := 58) dX6_pace_58 ?_
            refine y_idiv (pc := 59) dX6_pace_59 (rd_rng _ _ _) (by decide) (by decide) ?_
            refine y_iconst (pc := 60) dX6_pace_60 ?_
            refine y_iadd (pc := 61) dX6_pace_61 ?_
            exact y_iret (pc := 62) dX6_pace_62
          · refine y_br (fun h7 => ?_) (fun h7 => ?_)
            · refine y_tableIn (off := 57) (tgt := 63) (pc := 6) dX6_pace_6 h7 (by decide) (by decide) (by decide) rfl (by decide) ?_
              refine y_aload_n (pc := 63) dX6_pace_63 rfl ?_
              refine y_getref (pc := 64) (x := 145) g_X6_34 dX6_pace_64 ?_
              refine y_iload_n (pc := 67) dX6_pace_67 rfl ?_
              refine y_iald (pc := 68) dX6_pace_68 ar_145 h1 ?_
              refine y_iconst (pc := 69) dX6_pace_69 ?_
              refine y_idiv (pc := 70) dX6_pace_70 (rd_rng _ _ _) (by decide) (by decide) ?_
              exact y_iret (pc := 71) dX6_pace_71
            · refine y_br (fun h8 => ?_) (fun h8 => ?_)
              · refine y_tableIn (off := 66) (tgt := 72) (pc := 6) dX6_pace_6 h8 (by decide) (by decide) (by decide) rfl (by decide) ?_
                refine y_iconst (pc := 72) dX6_pace_72 ?_
                exact y_iret (pc := 73) dX6_pace_73
              · refine y_tableOut (tgt := 74) (pc := 6) dX6_pace_6 (rd_rng _ _ _) (by omega) (by decide) ?_
                refine y_iconst (pc := 74) dX6_pace_74 ?_
                exact y_iret (pc := 75) dX6_pace_75
theorem c_X6_pace (n : Nat) (M : Mem) (a1 : Int) : ∀ res : Int × Mem, m_X6_pace n M a1 = some res → CTi yX6_pace cX6_pace 2 (some .int) 0 [rv 137, iv a1] M res := CTi_of (by decide +kernel) rfl (Nat.le_of_ble_eq_true rfl) rfl (y_X6_pace n M a1)
def m_X6_grabs_59 (n : Nat) (M : Mem) (a1 : Int) : Rs := if 0 ≤ a1 ∧ a1 < 5 then (some (((Int.tdiv (rd M 145 (Int.toNat a1)) 2) + 2), M)) else none
theorem t_X6_grabs_59 (n : Nat) (M : Mem) (a1 : Int) : Y RX6 cX6_grabs 2 0 0 none 59 [some (rv 137), some (iv a1)] [] M (m_X6_grabs_59 n M a1) := by
  unfold m_X6_grabs_59
  refine y_aload_n (pc := 59) dX6_grabs_59 rfl ?_
  refine y_getref (pc := 60) (x := 145) g_X6_34 dX6_grabs_60 ?_
  refine y_iload_n (pc := 63) dX6_grabs_63 rfl ?_
  refine y_gd (fun h1 => ?_)
  refine y_iald (pc := 64) dX6_grabs_64 ar_145 h1 ?_
  refine y_iconst (pc := 65) dX6_grabs_65 ?_
  refine y_idiv (pc := 66) dX6_grabs_66 (rd_rng _ _ _) (by decide) (by decide) ?_
  refine y_iconst (pc := 67) dX6_grabs_67 ?_
  refine y_iadd (pc := 68) dX6_grabs_68 ?_
  exact y_iret (pc := 69) dX6_grabs_69
def m_X6_grabs (n : Nat) (M : Mem) (a1 : Int) : Rs := if 0 ≤ a1 ∧ a1 < 5 then (if (rd M 144 (Int.toNat a1)) = 1 then (some (((Int.tdiv (rd M 145 (Int.toNat a1)) 2) + 1), M)) else (if (rd M 144 (Int.toNat a1)) = 2 then (m_X6_grabs_59 n M a1) else (if (rd M 144 (Int.toNat a1)) = 3 then (some (1, M)) else (if (rd M 144 (Int.toNat a1)) = 4 then (some (3, M)) else (if (rd M 144 (Int.toNat a1)) = 5 then (some ((rd M 145 (Int.toNat a1)), M)) else (if (rd M 144 (Int.toNat a1)) = 6 then (some (0, M)) else (if (rd M 144 (Int.toNat a1)) = 7 then (m_X6_grabs_59 n M a1) else (some (1, M))))))))) else none
theorem y_X6_grabs (n : Nat) (M : Mem) (a1 : Int) : Y RX6 cX6_grabs 2 0 0 none 0 [some (rv 137), some (iv a1)] [] M (m_X6_grabs n M a1) := by
  unfold m_X6_grabs
  refine y_aload_n (pc := 0) dX6_grabs_0 rfl ?_
  refine y_getref (pc := 1) (x := 144) g_X6_31 dX6_grabs_1 ?_
  refine y_iload_n (pc := 4) dX6_grabs_4 rfl ?_
  refine y_gd (fun h2 => ?_)
  refine y_iald (pc := 5) dX6_grabs_5 ar_144 h2 ?_
  refine y_br (fun h3 => ?_) (fun h3 => ?_)
  · refine y_tableIn (off := 42) (tgt := 48) (pc := 6) dX6_grabs_6 h3 (by decide) (by decide) (by decide) rfl (by decide) ?_
    refine y_aload_n (pc := 48) dX6_grabs_48 rfl ?_
    refine y_getref (pc := 49) (x := 145) g_X6_34 dX6_grabs_49 ?_
    refine y_iload_n (pc := 52) dX6_grabs_52 rfl ?_
    refine y_iald (pc := 53) dX6_grabs_53 ar_145 h2 ?_
    refine y_iconst (pc := 54) dX6_grabs_54 ?_
    refine y_idiv (pc := 55) dX6_grabs_55 (rd_rng _ _ _) (by decide) (by decide) ?_
    refine y_iconst (pc := 56) dX6_grabs_56 ?_
    refine y_iadd (pc := 57) dX6_grabs_57 ?_
    exact y_iret (pc := 58) dX6_grabs_58
  · refine y_br (fun h4 => ?_) (fun h4 => ?_)
    · refine y_tableIn (off := 53) (tgt := 59) (pc := 6) dX6_grabs_6 h4 (by decide) (by decide) (by decide) rfl (by decide) ?_
      exact y_sub (ls_s (ls_s ls_0)) (t_X6_grabs_59 n M a1)
    · refine y_br (fun h5 => ?_) (fun h5 => ?_)
      · refine y_tableIn (off := 75) (tgt := 81) (pc := 6) dX6_grabs_6 h5 (by decide) (by decide) (by decide) rfl (by decide) ?_
        refine y_iconst (pc := 81) dX6_grabs_81 ?_
        exact y_iret (pc := 82) dX6_grabs_82
      · refine y_br (fun h6 => ?_) (fun h6 => ?_)
        · refine y_tableIn (off := 64) (tgt := 70) (pc := 6) dX6_grabs_6 h6 (by decide) (by decide) (by decide) rfl (by decide) ?_
          refine y_iconst (pc := 70) dX6_grabs_70 ?_
          exact y_iret (pc := 71) dX6_grabs_71
        · refine y_br (fun h7 => ?_) (fun h7 => ?_)
          · refine y_tableIn (off := 66) (tgt := 72) (pc := 6) dX6_grabs_6 h7 (by decide) (by decide) (by decide) rfl (by decide) ?_
            refine y_aload_n (pc := 72) dX6_grabs_72 rfl ?_
            refine y_getref (pc := 73) (x := 145) g_X6_34 dX6_grabs_73 ?_
            refine y_iload_n (pc := 76) dX6_grabs_76 rfl ?_
            refine y_iald (pc := 77) dX6_grabs_77 ar_145 h2 ?_
            exact y_iret (pc := 78) dX6_grabs_78
          · refine y_br (fun h8 => ?_) (fun h8 => ?_)
            · refine y_tableIn (off := 73) (tgt := 79) (pc := 6) dX6_grabs_6 h8 (by decide) (by decide) (by decide) rfl (by decide) ?_
              refine y_iconst (pc := 79) dX6_grabs_79 ?_
              exact y_iret (pc := 80) dX6_grabs_80
            · refine y_br (fun h9 => ?_) (fun h9 => ?_)
              · refine y_tableIn (off := 53) (tgt := 59) (pc := 6) dX6_grabs_6 h9 (by decide) (by decide) (by decide) rfl (by decide) ?_
                exact y_sub (ls_s (ls_s ls_0)) (t_X6_grabs_59 n M a1)
              · refine y_tableOut (tgt := 81) (pc := 6) dX6_grabs_6 (rd_rng _ _ _) (by omega) (by decide) ?_
                refine y_iconst (pc := 81) dX6_grabs_81 ?_
                exact y_iret (pc := 82) dX6_grabs_82
theorem c_X6_grabs (n : Nat) (M : Mem) (a1 : Int) : ∀ res : Int × Mem, m_X6_grabs n M a1 = some res → CTi yX6_grabs cX6_grabs 2 (some .int) 0 [rv 137, iv a1] M res := CTi_of (by decide +kernel) rfl (Nat.le_of_ble_eq_true rfl) rfl (y_X6_grabs n M a1)
def m_X6_far (n : Nat) (M : Mem) (a0 : Int) (a1 : Int) : Rs := if I32 a0 then (if I32 a1 then (bd (m_X6_apart n M (Int.tdiv a0 6) (Int.tdiv a1 6)) (fun r4 M3 => bd (m_X6_apart n M3 (Int.tmod a0 6) (Int.tmod a1 6)) (fun r6 M5 => some ((r4 + r6), M5)))) else none) else none
theorem y_X6_far (n : Nat) (M : Mem) (a0 : Int) (a1 : Int) : Y RX6 cX6_far 2 1 0 none 0 [some (iv a0), some (iv a1)] [] M (m_X6_far n M a0 a1) := by
  unfold m_X6_far
  refine y_iload_n (pc := 0) dX6_far_0 rfl ?_
  refine y_bipush (pc := 1) dX6_far_1 (by decide) ?_
  refine y_gd (fun h1 => ?_)
  refine y_idiv (pc := 3) dX6_far_3 h1 (by decide) (by decide) ?_
  refine y_iload_n (pc := 4) dX6_far_4 rfl ?_
  refine y_bipush (pc := 5) dX6_far_5 (by decide) ?_
  refine y_gd (fun h2 => ?_)
  refine y_idiv (pc := 7) dX6_far_7 h2 (by decide) (by decide) ?_
  refine y_callSi (pc := 8) s_X6_apart l_X6_100 dX6_far_8 (c_X6_apart n _ _ _) rfl rfl (by decide) (by decide) (Nat.le_of_ble_eq_true rfl) (fun r4 M3 _ => ?_)
  refine y_iload_n (pc := 11) dX6_far_11 rfl ?_
  refine y_bipush (pc := 12) dX6_far_12 (by decide) ?_
  refine y_irem (pc := 14) dX6_far_14 h1 (by decide) (by decide) ?_
  refine y_iload_n (pc := 15) dX6_far_15 rfl ?_
  refine y_bipush (pc := 16) dX6_far_16 (by decide) ?_
  refine y_irem (pc := 18) dX6_far_18 h2 (by decide) (by decide) ?_
  refine y_callSi (pc := 19) s_X6_apart l_X6_100 dX6_far_19 (c_X6_apart n _ _ _) rfl rfl (by decide) (by decide) (Nat.le_of_ble_eq_true rfl) (fun r6 M5 _ => ?_)
  refine y_iadd (pc := 22) dX6_far_22 ?_
  exact y_iret (pc := 23) dX6_far_23
theorem c_X6_far (n : Nat) (M : Mem) (a0 : Int) (a1 : Int) : ∀ res : Int × Mem, m_X6_far n M a0 a1 = some res → CTi yX6_far cX6_far 2 (some .int) 1 [iv a0, iv a1] M res := CTi_of (by decide +kernel) rfl (Nat.le_of_ble_eq_true rfl) rfl (y_X6_far n M a0 a1)
def m_X6_goalAsChild_59 (n : Nat) (k5 : Mem → Int → Int → Int → Rs) (M : Mem) (a1 : Int) (a3 : Int) : Rs := k5 M a1 a3 (a3 + 1)
theorem t_X6_goalAsChild_59 (n : Nat) (k5 : Mem → Int → Int → Int → Rs) (hk5 : ∀ (M : Mem) (a1 : Int) (a2 : Int) (a3 : Int), Y RX6 cX6_goalAsChild 4 2 0 none 5 [some (rv 137), some (iv a1), some (iv a2), some (iv a3)] [] M (k5 M a1 a2 a3)) (M : Mem) (a1 : Int) (a3 : Int) : Y RX6 cX6_goalAsChild 4 2 0 none 59 [some (rv 137), some (iv a1), none, some (iv a3)] [] M (m_X6_goalAsChild_59 n k5 M a1 a3) := by
  unfold m_X6_goalAsChild_59
  refine y_iload_n (pc := 59) dX6_goalAsChild_59 rfl ?_
  refine y_istore_n (L' := [some (rv 137), some (iv a1), some (iv a3), some (iv a3)]) (pc := 60) dX6_goalAsChild_60 (by decide) rfl rfl ?_
  refine y_iinc (L' := [some (rv 137), some (iv a1), some (iv a3), some (iv (a3 + 1))]) (pc := 61) dX6_goalAsChild_61 rfl (by decide) rfl rfl ?_
  refine y_goto (tgt := 5) (pc := 64) dX6_goalAsChild_64 (by decide) ?_
  exact y_sub (ls_s (ls_s (ls_s (ls_s ls_0)))) (hk5 M a1 a3 (a3 + 1))
def m_X6_goalAsChild_5 (n : Nat) : Nat → Mem → Int → Int → Int → Rs
  | 0, _, _, _, _ => none
  | t + 1, M, a1, a2, a3 => if I32 a3 then (if (rd M 137 7) ≤ a3 then (if I32 a2 then (if 0 ≤ a2 then (if 0 ≤ a2 ∧ a2 < 8 then (some ((rd M 142 (Int.toNat a2)), M)) else none) else (if 0 ≤ a1 ∧ a1 < 5 then (some ((rd M 146 (Int.toNat a1)), M)) else none)) else none) else (if 0 ≤ a3 ∧ a3 < 8 then (if 0 ≤ (rd M 143 (Int.toNat a3)) then ((m_X6_goalAsChild_5 n t) M a1 a2 (a3 + 1)) else (if I32 a2 then (if a2 < 0 then (m_X6_goalAsChild_59 n (m_X6_goalAsChild_5 n t) M a1 a3) else (if 0 ≤ a1 ∧ a1 < 5 then (bd (m_X6_far n M (rd M 142 (Int.toNat a3)) (rd M 147 (Int.toNat a1))) (fun r13 M12 => if 0 ≤ a2 ∧ a2 < 8 then (bd (m_X6_far n M12 (rd M12 142 (Int.toNat a2)) (rd M12 147 (Int.toNat a1))) (fun r16 M15 => if I32 r13 then (if I32 r16 then (if r16 ≤ r13 then ((m_X6_goalAsChild_5 n t) M15 a1 a2 (a3 + 1)) else (m_X6_goalAsChild_59 n (m_X6_goalAsChild_5 n t) M15 a1 a3)) else none) else none)) else none)) else none)) else none)) else none)) else none
theorem t_X6_goalAsChild_5 (n : Nat) : ∀ (t : Nat) (M : Mem) (a1 : Int) (a2 : Int) (a3 : Int), Y RX6 cX6_goalAsChild 4 2 0 none 5 [some (rv 137), some (iv a1), some (iv a2), some (iv a3)] [] M (m_X6_goalAsChild_5 n t M a1 a2 a3) := by
  intro t
  induction t with
  | zero => intro M a1 a2 a3; exact y_none
  | succ t ih =>
    intro M a1 a2 a3
    rewrite [m_X6_goalAsChild_5]
    refine y_iload_n (pc := 5) dX6_goalAsChild_5 rfl ?_
    refine y_aload_n (pc := 6) dX6_goalAsChild_6 rfl ?_
    refine y_getint (pc := 7) g_X6_86 dX6_goalAsChild_7 ?_
    refine y_gd (fun h1 => ?_)
    refine y_icmp_ge (off := 57) (tgt := 67) (pc := 10) dX6_goalAsChild_10 (by decide) h1 (rd_rng _ _ _) (fun h2 => ?_) (fun h2 => ?_)
    · refine y_iload_n (pc := 67) dX6_goalAsChild_67 rfl ?_
      refine y_gd (fun h3 => ?_)
      refine y_if_ge (off := 12) (tgt := 80) (pc := 68) dX6_goalAsChild_68 (by decide) h3 (fun h4 => ?_) (fun h4 => ?_)
      · refine y_aload_n (pc := 80) dX6_goalAsChild_80 rfl ?_
        refine y_getref (pc := 81) (x := 142) g_X6_25 dX6_goalAsChild_81 ?_
        refine y_iload_n (pc := 84) dX6_goalAsChild_84 rfl ?_
        refine y_gd (fun h5 => ?_)
        refine y_iald (pc := 85) dX6_goalAsChild_85 ar_142 h5 ?_
        exact y_iret (pc := 86) dX6_goalAsChild_86
      · refine y_aload_n (pc := 71) dX6_goalAsChild_71 rfl ?_
        refine y_getref (pc := 72) (x := 146) g_X6_37 dX6_goalAsChild_72 ?_
        refine y_iload_n (pc := 75) dX6_goalAsChild_75 rfl ?_
        refine y_gd (fun h6 => ?_)
        refine y_iald (pc := 76) dX6_goalAsChild_76 ar_146 h6 ?_
        refine y_goto (tgt := 86) (pc := 77) dX6_goalAsChild_77 (by decide) ?_
        exact y_iret (pc := 86) dX6_goalAsChild_86
    · refine y_aload_n (pc := 13) dX6_goalAsChild_13 rfl ?_
      refine y_getref (pc := 14) (x := 143) g_X6_28 dX6_goalAsChild_14 ?_
      refine y_iload_n (pc := 17) dX6_goalAsChild_17 rfl ?_
      refine y_gd (fun h7 => ?_)
      refine y_iald (pc := 18) dX6_goalAsChild_18 ar_143 h7 ?_
      refine y_if_ge (off := 42) (tgt := 61) (pc := 19) dX6_goalAsChild_19 (by decide) (rd_rng _ _ _) (fun h8 => ?_) (fun h8 => ?_)
      · refine y_iinc (L' := [some (rv 137), some (iv a1), some (iv a2), some (iv (a3 + 1))]) (pc := 61) dX6_goalAsChild_61 rfl (by decide) rfl rfl ?_
        refine y_goto (tgt := 5) (pc := 64) dX6_goalAsChild_64 (by decide) ?_
        exact y_sub (ls_s (ls_s (ls_s (ls_s ls_0)))) (ih M a1 a2 (a3 + 1))
      · refine y_iload_n (pc := 22) dX6_goalAsChild_22 rfl ?_
        refine y_gd (fun h9 => ?_)
        refine y_if_lt (off := 36) (tgt := 59) (pc := 23) dX6_goalAsChild_23 (by decide) h9 (fun h10 => ?_) (fun h10 => ?_)
        · exact y_sub (ls_s (ls_s (ls_n (ls_s ls_0)))) (t_X6_goalAsChild_59 n (m_X6_goalAsChild_5 n t) ih M a1 a3)
        · refine y_aload_n (pc := 26) dX6_goalAsChild_26 rfl ?_
          refine y_getref (pc := 27) (x := 142) g_X6_25 dX6_goalAsChild_27 ?_
          refine y_iload_n (pc := 30) dX6_goalAsChild_30 rfl ?_
          refine y_iald (pc := 31) dX6_goalAsChild_31 ar_142 h7 ?_
          refine y_aload_n (pc := 32) dX6_goalAsChild_32 rfl ?_
          refine y_getref (pc := 33) (x := 147) g_X6_40 dX6_goalAsChild_33 ?_
          refine y_iload_n (pc := 36) dX6_goalAsChild_36 rfl ?_
          refine y_gd (fun h11 => ?_)
          refine y_iald (pc := 37) dX6_goalAsChild_37 ar_147 h11 ?_
          refine y_callSi (pc := 38) s_X6_far l_X6_130 dX6_goalAsChild_38 (c_X6_far n _ _ _) rfl rfl (by decide) (by decide) (Nat.le_of_ble_eq_true rfl) (fun r13 M12 _ => ?_)
          refine y_aload_n (pc := 41) dX6_goalAsChild_41 rfl ?_
          refine y_getref (pc := 42) (x := 142) g_X6_25 dX6_goalAsChild_42 ?_
          refine y_iload_n (pc := 45) dX6_goalAsChild_45 rfl ?_
          refine y_gd (fun h14 => ?_)
          refine y_iald (pc := 46) dX6_goalAsChild_46 ar_142 h14 ?_
          refine y_aload_n (pc := 47) dX6_goalAsChild_47 rfl ?_
          refine y_getref (pc := 48) (x := 147) g_X6_40 dX6_goalAsChild_48 ?_
          refine y_iload_n (pc := 51) dX6_goalAsChild_51 rfl ?_
          refine y_iald (pc := 52) dX6_goalAsChild_52 ar_147 h11 ?_
          refine y_callSi (pc := 53) s_X6_far l_X6_130 dX6_goalAsChild_53 (c_X6_far n _ _ _) rfl rfl (by decide) (by decide) (Nat.le_of_ble_eq_true rfl) (fun r16 M15 _ => ?_)
          refine y_gd (fun h17 => ?_)
          refine y_gd (fun h18 => ?_)
          refine y_icmp_ge (off := 5) (tgt := 61) (pc := 56) dX6_goalAsChild_56 (by decide) h17 h18 (fun h19 => ?_) (fun h19 => ?_)
          · refine y_iinc (L' := [some (rv 137), some (iv a1), some (iv a2), some (iv (a3 + 1))]) (pc := 61) dX6_goalAsChild_61 rfl (by decide) rfl rfl ?_
            refine y_goto (tgt := 5) (pc := 64) dX6_goalAsChild_64 (by decide) ?_
            exact y_sub (ls_s (ls_s (ls_s (ls_s ls_0)))) (ih M15 a1 a2 (a3 + 1))
          · exact y_sub (ls_s (ls_s (ls_n (ls_s ls_0)))) (t_X6_goalAsChild_59 n (m_X6_goalAsChild_5 n t) ih M15 a1 a3)
def m_X6_goalAsChild (n : Nat) (M : Mem) (a1 : Int) : Rs := m_X6_goalAsChild_5 n n M a1 (-9) 0
theorem y_X6_goalAsChild (n : Nat) (M : Mem) (a1 : Int) : Y RX6 cX6_goalAsChild 4 2 0 none 0 [some (rv 137), some (iv a1), none, none] [] M (m_X6_goalAsChild n M a1) := by
  unfold m_X6_goalAsChild
  refine y_bipush (pc := 0) dX6_goalAsChild_0 (by decide) ?_
  refine y_istore_n (L' := [some (rv 137), some (iv a1), some (iv (-9)), none]) (pc := 2) dX6_goalAsChild_2 (by decide) rfl rfl ?_
  refine y_iconst (pc := 3) dX6_goalAsChild_3 ?_
  refine y_istore_n (L' := [some (rv 137), some (iv a1), some (iv (-9)), some (iv 0)]) (pc := 4) dX6_goalAsChild_4 (by decide) rfl rfl ?_
  exact y_sub (ls_s (ls_s (ls_s (ls_s ls_0)))) (t_X6_goalAsChild_5 n n M a1 (-9) 0)
theorem c_X6_goalAsChild (n : Nat) (M : Mem) (a1 : Int) : ∀ res : Int × Mem, m_X6_goalAsChild n M a1 = some res → CTi yX6_goalAsChild cX6_goalAsChild 4 (some .int) 2 [rv 137, iv a1] M res := CTi_of (by decide +kernel) rfl (Nat.le_of_ble_eq_true rfl) rfl (y_X6_goalAsChild n M a1)
def m_X6_goalAsThief_42 (n : Nat) (k5 : Mem → Int → Int → Int → Rs) (M : Mem) (a1 : Int) (a3 : Int) : Rs := k5 M a1 a3 (a3 + 1)
theorem t_X6_goalAsThief_42 (n : Nat) (k5 : Mem → Int → Int → Int → Rs) (hk5 : ∀ (M : Mem) (a1 : Int) (a2 : Int) (a3 : Int), Y RX6 cX6_goalAsThief 4 3 0 none 5 [some (rv 137), some (iv a1), some (iv a2), some (iv a3)] [] M (k5 M a1 a2 a3)) (M : Mem) (a1 : Int) (a3 : Int) : Y RX6 cX6_goalAsThief 4 3 0 none 42 [some (rv 137), some (iv a1), none, some (iv a3)] [] M (m_X6_goalAsThief_42 n k5 M a1 a3) := by
  unfold m_X6_goalAsThief_42
  refine y_iload_n (pc := 42) dX6_goalAsThief_42 rfl ?_
  refine y_istore_n (L' := [some (rv 137), some (iv a1), some (iv a3), some (iv a3)]) (pc := 43) dX6_goalAsThief_43 (by decide) rfl rfl ?_
  refine y_iinc (L' := [some (rv 137), some (iv a1), some (iv a3), some (iv (a3 + 1))]) (pc := 44) dX6_goalAsThief_44 rfl (by decide) rfl rfl ?_
  refine y_goto (tgt := 5) (pc := 47) dX6_goalAsThief_47 (by decide) ?_
  exact y_sub (ls_s (ls_s (ls_s (ls_s ls_0)))) (hk5 M a1 a3 (a3 + 1))
def m_X6_goalAsThief_5 (n : Nat) : Nat → Mem → Int → Int → Int → Rs
  | 0, _, _, _, _ => none
  | t + 1, M, a1, a2, a3 => if I32 a3 then (if (rd M 137 7) ≤ a3 then (if I32 a2 then (if 0 ≤ a2 then (if 0 ≤ a2 ∧ a2 < 8 then (some ((rd M 142 (Int.toNat a2)), M)) else none) else (bd (m_X6_goalAsChild n M a1) (fun r7 M6 => some (r7, M6)))) else none) else (if 0 ≤ a3 ∧ a3 < 8 then (if I32 a1 then (if (rd M 143 (Int.toNat a3)) = a1 then ((m_X6_goalAsThief_5 n t) M a1 a2 (a3 + 1)) else (if I32 a2 then (if a2 < 0 then (m_X6_goalAsThief_42 n (m_X6_goalAsThief_5 n t) M a1 a3) else (if 0 ≤ a2 ∧ a2 < 8 then (if (rd M 141 (Int.toNat a3)) ≤ (rd M 141 (Int.toNat a2)) then ((m_X6_goalAsThief_5 n t) M a1 a2 (a3 + 1)) else (m_X6_goalAsThief_42 n (m_X6_goalAsThief_5 n t) M a1 a3)) else none)) else none)) else none) else none)) else none
theorem t_X6_goalAsThief_5 (n : Nat) : ∀ (t : Nat) (M : Mem) (a1 : Int) (a2 : Int) (a3 : Int), Y RX6 cX6_goalAsThief 4 3 0 none 5 [some (rv 137), some (iv a1), some (iv a2), some (iv a3)] [] M (m_X6_goalAsThief_5 n t M a1 a2 a3) := by
  intro t
  induction t with
  | zero => intro M a1 a2 a3; exact y_none
  | succ t ih =>
    intro M a1 a2 a3
    rewrite [m_X6_goalAsThief_5]
    refine y_iload_n (pc := 5) dX6_goalAsThief_5 rfl ?_
    refine y_aload_n (pc := 6) dX6_goalAsThief_6 rfl ?_
    refine y_getint (pc := 7) g_X6_86 dX6_goalAsThief_7 ?_
    refine y_gd (fun h1 => ?_)
    refine y_icmp_ge (off := 40) (tgt := 50) (pc := 10) dX6_goalAsThief_10 (by decide) h1 (rd_rng _ _ _) (fun h2 => ?_) (fun h2 => ?_)
    · refine y_iload_n (pc := 50) dX6_goalAsThief_50 rfl ?_
      refine y_gd (fun h3 => ?_)
      refine y_if_ge (off := 11) (tgt := 62) (pc := 51) dX6_goalAsThief_51 (by decide) h3 (fun h4 => ?_) (fun h4 => ?_)
      · refine y_aload_n (pc := 62) dX6_goalAsThief_62 rfl ?_
        refine y_getref (pc := 63) (x := 142) g_X6_25 dX6_goalAsThief_63 ?_
        refine y_iload_n (pc := 66) dX6_goalAsThief_66 rfl ?_
        refine y_gd (fun h5 => ?_)
        refine y_iald (pc := 67) dX6_goalAsThief_67 ar_142 h5 ?_
        exact y_iret (pc := 68) dX6_goalAsThief_68
      · refine y_aload_n (pc := 54) dX6_goalAsThief_54 rfl ?_
        refine y_iload_n (pc := 55) dX6_goalAsThief_55 rfl ?_
        refine y_callVi (pc := 56) v_X6_goalAsChild l_X6_133 dX6_goalAsThief_56 (c_X6_goalAsChild n _ _) rfl rc_X6 rfl (by decide) (by decide) (Nat.le_of_ble_eq_true rfl) (fun r7 M6 _ => ?_)
        refine y_goto (tgt := 68) (pc := 59) dX6_goalAsThief_59 (by decide) ?_
        exact y_iret (pc := 68) dX6_goalAsThief_68
    · refine y_aload_n (pc := 13) dX6_goalAsThief_13 rfl ?_
      refine y_getref (pc := 14) (x := 143) g_X6_28 dX6_goalAsThief_14 ?_
      refine y_iload_n (pc := 17) dX6_goalAsThief_17 rfl ?_
      refine y_gd (fun h8 => ?_)
      refine y_iald (pc := 18) dX6_goalAsThief_18 ar_143 h8 ?_
      refine y_iload_n (pc := 19) dX6_goalAsThief_19 rfl ?_
      refine y_gd (fun h9 => ?_)
      refine y_icmp_eq (off := 24) (tgt := 44) (pc := 20) dX6_goalAsThief_20 (by decide) (rd_rng _ _ _) h9 (fun h10 => ?_) (fun h10 => ?_)
      · refine y_iinc (L' := [some (rv 137), some (iv a1), some (iv a2), some (iv (a3 + 1))]) (pc := 44) dX6_goalAsThief_44 rfl (by decide) rfl rfl ?_
        refine y_goto (tgt := 5) (pc := 47) dX6_goalAsThief_47 (by decide) ?_
        exact y_sub (ls_s (ls_s (ls_s (ls_s ls_0)))) (ih M a1 a2 (a3 + 1))
      · refine y_iload_n (pc := 23) dX6_goalAsThief_23 rfl ?_
        refine y_gd (fun h11 => ?_)
        refine y_if_lt (off := 18) (tgt := 42) (pc := 24) dX6_goalAsThief_24 (by decide) h11 (fun h12 => ?_) (fun h12 => ?_)
        · exact y_sub (ls_s (ls_s (ls_n (ls_s ls_0)))) (t_X6_goalAsThief_42 n (m_X6_goalAsThief_5 n t) ih M a1 a3)
        · refine y_aload_n (pc := 27) dX6_goalAsThief_27 rfl ?_
          refine y_getref (pc := 28) (x := 141) g_X6_22 dX6_goalAsThief_28 ?_
          refine y_iload_n (pc := 31) dX6_goalAsThief_31 rfl ?_
          refine y_iald (pc := 32) dX6_goalAsThief_32 ar_141 h8 ?_
          refine y_aload_n (pc := 33) dX6_goalAsThief_33 rfl ?_
          refine y_getref (pc := 34) (x := 141) g_X6_22 dX6_goalAsThief_34 ?_
          refine y_iload_n (pc := 37) dX6_goalAsThief_37 rfl ?_
          refine y_gd (fun h13 => ?_)
          refine y_iald (pc := 38) dX6_goalAsThief_38 ar_141 h13 ?_
          refine y_icmp_le (off := 5) (tgt := 44) (pc := 39) dX6_goalAsThief_39 (by decide) (rd_rng _ _ _) (rd_rng _ _ _) (fun h14 => ?_) (fun h14 => ?_)
          · refine y_iinc (L' := [some (rv 137), some (iv a1), some (iv a2), some (iv (a3 + 1))]) (pc := 44) dX6_goalAsThief_44 rfl (by decide) rfl rfl ?_
            refine y_goto (tgt := 5) (pc := 47) dX6_goalAsThief_47 (by decide) ?_
            exact y_sub (ls_s (ls_s (ls_s (ls_s ls_0)))) (ih M a1 a2 (a3 + 1))
          · exact y_sub (ls_s (ls_s (ls_n (ls_s ls_0)))) (t_X6_goalAsThief_42 n (m_X6_goalAsThief_5 n t) ih M a1 a3)
def m_X6_goalAsThief (n : Nat) (M : Mem) (a1 : Int) : Rs := m_X6_goalAsThief_5 n n M a1 (-9) 0
theorem y_X6_goalAsThief (n : Nat) (M : Mem) (a1 : Int) : Y RX6 cX6_goalAsThief 4 3 0 none 0 [some (rv 137), some (iv a1), none, none] [] M (m_X6_goalAsThief n M a1) := by
  unfold m_X6_goalAsThief
  refine y_bipush (pc := 0) dX6_goalAsThief_0 (by decide) ?_
  refine y_istore_n (L' := [some (rv 137), some (iv a1), some (iv (-9)), none]) (pc := 2) dX6_goalAsThief_2 (by decide) rfl rfl ?_
  refine y_iconst (pc := 3) dX6_goalAsThief_3 ?_
  refine y_istore_n (L' := [some (rv 137), some (iv a1), some (iv (-9)), some (iv 0)]) (pc := 4) dX6_goalAsThief_4 (by decide) rfl rfl ?_
  exact y_sub (ls_s (ls_s (ls_s (ls_s ls_0)))) (t_X6_goalAsThief_5 n n M a1 (-9) 0)
theorem c_X6_goalAsThief (n : Nat) (M : Mem) (a1 : Int) : ∀ res : Int × Mem, m_X6_goalAsThief n M a1 = some res → CTi yX6_goalAsThief cX6_goalAsThief 4 (some .int) 3 [rv 137, iv a1] M res := CTi_of (by decide +kernel) rfl (Nat.le_of_ble_eq_true rfl) rfl (y_X6_goalAsThief n M a1)
def m_X6_goalAsLawyer_30 (n : Nat) (k4 : Mem → Int → Int → Int → Rs) (M : Mem) (a1 : Int) (a3 : Int) (s0 : Int) : Rs := k4 M a1 s0 (a3 + 1)
theorem t_X6_goalAsLawyer_30 (n : Nat) (k4 : Mem → Int → Int → Int → Rs) (hk4 : ∀ (M : Mem) (a1 : Int) (a2 : Int) (a3 : Int), Y RX6 cX6_goalAsLawyer 4 3 0 none 4 [some (rv 137), some (iv a1), some (iv a2), some (iv a3)] [] M (k4 M a1 a2 a3)) (M : Mem) (a1 : Int) (a3 : Int) (s0 : Int) : Y RX6 cX6_goalAsLawyer 4 3 0 none 30 [some (rv 137), some (iv a1), none, some (iv a3)] [iv s0] M (m_X6_goalAsLawyer_30 n k4 M a1 a3 s0) := by
  unfold m_X6_goalAsLawyer_30
  refine y_istore_n (L' := [some (rv 137), some (iv a1), some (iv s0), some (iv a3)]) (pc := 30) dX6_goalAsLawyer_30 (by decide) rfl rfl ?_
  refine y_iinc (L' := [some (rv 137), some (iv a1), some (iv s0), some (iv (a3 + 1))]) (pc := 31) dX6_goalAsLawyer_31 rfl (by decide) rfl rfl ?_
  refine y_goto (tgt := 4) (pc := 34) dX6_goalAsLawyer_34 (by decide) ?_
  exact y_sub (ls_s (ls_s (ls_s (ls_s ls_0)))) (hk4 M a1 s0 (a3 + 1))
def m_X6_goalAsLawyer_4 (n : Nat) : Nat → Mem → Int → Int → Int → Rs
  | 0, _, _, _, _ => none
  | t + 1, M, a1, a2, a3 => if I32 a3 then (if 24 ≤ a3 then (some (a2, M)) else (bd (m_X6_airIn n M a3 a1) (fun r4 M3 => bd (m_X6_airIn n M3 a2 a1) (fun r6 M5 => if I32 r4 then (if I32 r6 then (if r4 ≤ r6 then (m_X6_goalAsLawyer_30 n (m_X6_goalAsLawyer_4 n t) M5 a1 a3 a2) else (m_X6_goalAsLawyer_30 n (m_X6_goalAsLawyer_4 n t) M5 a1 a3 a3)) else none) else none)))) else none
theorem t_X6_goalAsLawyer_4 (n : Nat) : ∀ (t : Nat) (M : Mem) (a1 : Int) (a2 : Int) (a3 : Int), Y RX6 cX6_goalAsLawyer 4 3 0 none 4 [some (rv 137), some (iv a1), some (iv a2), some (iv a3)] [] M (m_X6_goalAsLawyer_4 n t M a1 a2 a3) := by
  intro t
  induction t with
  | zero => intro M a1 a2 a3; exact y_none
  | succ t ih =>
    intro M a1 a2 a3
    rewrite [m_X6_goalAsLawyer_4]
    refine y_iload_n (pc := 4) dX6_goalAsLawyer_4 rfl ?_
    refine y_bipush (pc := 5) dX6_goalAsLawyer_5 (by decide) ?_
    refine y_gd (fun h1 => ?_)
    refine y_icmp_ge (off := 30) (tgt := 37) (pc := 7) dX6_goalAsLawyer_7 (by decide) h1 (by decide) (fun h2 => ?_) (fun h2 => ?_)
    · refine y_iload_n (pc := 37) dX6_goalAsLawyer_37 rfl ?_
      exact y_iret (pc := 38) dX6_goalAsLawyer_38
    · refine y_aload_n (pc := 10) dX6_goalAsLawyer_10 rfl ?_
      refine y_iload_n (pc := 11) dX6_goalAsLawyer_11 rfl ?_
      refine y_iload_n (pc := 12) dX6_goalAsLawyer_12 rfl ?_
      refine y_callVi (pc := 13) v_X6_airIn l_X6_117 dX6_goalAsLawyer_13 (c_X6_airIn n _ _ _) rfl rc_X6 rfl (by decide) (by decide) (Nat.le_of_ble_eq_true rfl) (fun r4 M3 _ => ?_)
      refine y_aload_n (pc := 16) dX6_goalAsLawyer_16 rfl ?_
      refine y_iload_n (pc := 17) dX6_goalAsLawyer_17 rfl ?_
      refine y_iload_n (pc := 18) dX6_goalAsLawyer_18 rfl ?_
      refine y_callVi (pc := 19) v_X6_airIn l_X6_117 dX6_goalAsLawyer_19 (c_X6_airIn n _ _ _) rfl rc_X6 rfl (by decide) (by decide) (Nat.le_of_ble_eq_true rfl) (fun r6 M5 _ => ?_)
      refine y_gd (fun h7 => ?_)
      refine y_gd (fun h8 => ?_)
      refine y_icmp_le (off := 7) (tgt := 29) (pc := 22) dX6_goalAsLawyer_22 (by decide) h7 h8 (fun h9 => ?_) (fun h9 => ?_)
      · refine y_iload_n (pc := 29) dX6_goalAsLawyer_29 rfl ?_
        exact y_sub (ls_s (ls_s (ls_n (ls_s ls_0)))) (t_X6_goalAsLawyer_30 n (m_X6_goalAsLawyer_4 n t) ih M5 a1 a3 a2)
      · refine y_iload_n (pc := 25) dX6_goalAsLawyer_25 rfl ?_
        refine y_goto (tgt := 30) (pc := 26) dX6_goalAsLawyer_26 (by decide) ?_
        exact y_sub (ls_s (ls_s (ls_n (ls_s ls_0)))) (t_X6_goalAsLawyer_30 n (m_X6_goalAsLawyer_4 n t) ih M5 a1 a3 a3)
def m_X6_goalAsLawyer (n : Nat) (M : Mem) (a1 : Int) : Rs := m_X6_goalAsLawyer_4 n n M a1 0 1
theorem y_X6_goalAsLawyer (n : Nat) (M : Mem) (a1 : Int) : Y RX6 cX6_goalAsLawyer 4 3 0 none 0 [some (rv 137), some (iv a1), none, none] [] M (m_X6_goalAsLawyer n M a1) := by
  unfold m_X6_goalAsLawyer
  refine y_iconst (pc := 0) dX6_goalAsLawyer_0 ?_
  refine y_istore_n (L' := [some (rv 137), some (iv a1), some (iv 0), none]) (pc := 1) dX6_goalAsLawyer_1 (by decide) rfl rfl ?_
  refine y_iconst (pc := 2) dX6_goalAsLawyer_2 ?_
  refine y_istore_n (L' := [some (rv 137), some (iv a1), some (iv 0), some (iv 1)]) (pc := 3) dX6_goalAsLawyer_3 (by decide) rfl rfl ?_
  exact y_sub (ls_s (ls_s (ls_s (ls_s ls_0)))) (t_X6_goalAsLawyer_4 n n M a1 0 1)
theorem c_X6_goalAsLawyer (n : Nat) (M : Mem) (a1 : Int) : ∀ res : Int × Mem, m_X6_goalAsLawyer n M a1 = some res → CTi yX6_goalAsLawyer cX6_goalAsLawyer 4 (some .int) 3 [rv 137, iv a1] M res := CTi_of (by decide +kernel) rfl (Nat.le_of_ble_eq_true rfl) rfl (y_X6_goalAsLawyer n M a1)
def m_X6_goal_87 (n : Nat) (M : Mem) (a1 : Int) : Rs := if 0 ≤ a1 ∧ a1 < 5 then (some ((rd M 146 (Int.toNat a1)), M)) else none
theorem t_X6_goal_87 (n : Nat) (M : Mem) (a1 : Int) : Y RX6 cX6_goal 3 4 0 none 87 [some (rv 137), some (iv a1), none] [] M (m_X6_goal_87 n M a1) := by
  unfold m_X6_goal_87
  refine y_aload_n (pc := 87) dX6_goal_87 rfl ?_
  refine y_getref (pc := 88) (x := 146) g_X6_37 dX6_goal_88 ?_
  refine y_iload_n (pc := 91) dX6_goal_91 rfl ?_
  refine y_gd (fun h1 => ?_)
  refine y_iald (pc := 92) dX6_goal_92 ar_146 h1 ?_
  exact y_iret (pc := 93) dX6_goal_93
def m_X6_goal_60 (n : Nat) (M : Mem) (a2 : Int) : Rs := bd (m_X6_goalAsLawyer n M a2) (fun r3 M2 => some (r3, M2))
theorem t_X6_goal_60 (n : Nat) (M : Mem) (a2 : Int) : Y RX6 cX6_goal 3 4 0 none 60 [some (rv 137), none, some (iv a2)] [] M (m_X6_goal_60 n M a2) := by
  unfold m_X6_goal_60
  refine y_aload_n (pc := 60) dX6_goal_60 rfl ?_
  refine y_iload_n (pc := 61) dX6_goal_61 rfl ?_
  refine y_callVi (pc := 62) v_X6_goalAsLawyer l_X6_139 dX6_goal_62 (c_X6_goalAsLawyer n _ _) rfl rc_X6 rfl (by decide) (by decide) (Nat.le_of_ble_eq_true rfl) (fun r3 M2 _ => ?_)
  exact y_iret (pc := 65) dX6_goal_65
def m_X6_goal (n : Nat) (M : Mem) (a1 : Int) (a2 : Int) : Rs := if 0 ≤ a1 ∧ a1 < 5 then (if (rd M 144 (Int.toNat a1)) = 1 then (bd (m_X6_goalAsChild n M a1) (fun r7 M6 => some (r7, M6))) else (if (rd M 144 (Int.toNat a1)) = 2 then (bd (m_X6_goalAsThief n M a1) (fun r10 M9 => some (r10, M9))) else (if (rd M 144 (Int.toNat a1)) = 3 then (m_X6_goal_87 n M a1) else (if (rd M 144 (Int.toNat a1)) = 4 then (m_X6_goal_87 n M a1) else (if (rd M 144 (Int.toNat a1)) = 5 then (m_X6_goal_60 n M a2) else (if (rd M 144 (Int.toNat a1)) = 6 then (m_X6_goal_60 n M a2) else (if (rd M 144 (Int.toNat a1)) = 7 then (if I32 a2 then (if I32 (Int.tmod a2 2) then (if (Int.tmod a2 2) = 0 then (bd (m_X6_goalAsThief n M a1) (fun r20 M19 => some (r20, M19))) else (some ((rd M 146 (Int.toNat a1)), M))) else none) else none) else (m_X6_goal_87 n M a1)))))))) else none
theorem y_X6_goal (n : Nat) (M : Mem) (a1 : Int) (a2 : Int) : Y RX6 cX6_goal 3 4 0 none 0 [some (rv 137), some (iv a1), some (iv a2)] [] M (m_X6_goal n M a1 a2) := by
  unfold m_X6_goal
  refine y_aload_n (pc := 0) dX6_goal_0 rfl ?_
  refine y_getref (pc := 1) (x := 144) g_X6_31 dX6_goal_1 ?_
  refine y_iload_n (pc := 4) dX6_goal_4 rfl ?_
  refine y_gd (fun h4 => ?_)
  refine y_iald (pc := 5) dX6_goal_5 ar_144 h4 ?_
  refine y_br (fun h5 => ?_) (fun h5 => ?_)
  · refine y_tableIn (off := 42) (tgt := 48) (pc := 6) dX6_goal_6 h5 (by decide) (by decide) (by decide) rfl (by decide) ?_
    refine y_aload_n (pc := 48) dX6_goal_48 rfl ?_
    refine y_iload_n (pc := 49) dX6_goal_49 rfl ?_
    refine y_callVi (pc := 50) v_X6_goalAsChild l_X6_133 dX6_goal_50 (c_X6_goalAsChild n _ _) rfl rc_X6 rfl (by decide) (by decide) (Nat.le_of_ble_eq_true rfl) (fun r7 M6 _ => ?_)
    exact y_iret (pc := 53) dX6_goal_53
  · refine y_br (fun h8 => ?_) (fun h8 => ?_)
    · refine y_tableIn (off := 48) (tgt := 54) (pc := 6) dX6_goal_6 h8 (by decide) (by decide) (by decide) rfl (by decide) ?_
      refine y_aload_n (pc := 54) dX6_goal_54 rfl ?_
      refine y_iload_n (pc := 55) dX6_goal_55 rfl ?_
      refine y_callVi (pc := 56) v_X6_goalAsThief l_X6_136 dX6_goal_56 (c_X6_goalAsThief n _ _) rfl rc_X6 rfl (by decide) (by decide) (Nat.le_of_ble_eq_true rfl) (fun r10 M9 _ => ?_)
      exact y_iret (pc := 59) dX6_goal_59
    · refine y_br (fun h11 => ?_) (fun h11 => ?_)
      · refine y_tableIn (off := 81) (tgt := 87) (pc := 6) dX6_goal_6 h11 (by decide) (by decide) (by decide) rfl (by decide) ?_
        exact y_sub (ls_s (ls_s (ls_n ls_0))) (t_X6_goal_87 n M a1)
      · refine y_br (fun h12 => ?_) (fun h12 => ?_)
        · refine y_tableIn (off := 81) (tgt := 87) (pc := 6) dX6_goal_6 h12 (by decide) (by decide) (by decide) rfl (by decide) ?_
          exact y_sub (ls_s (ls_s (ls_n ls_0))) (t_X6_goal_87 n M a1)
        · refine y_br (fun h13 => ?_) (fun h13 => ?_)
          · refine y_tableIn (off := 54) (tgt := 60) (pc := 6) dX6_goal_6 h13 (by decide) (by decide) (by decide) rfl (by decide) ?_
            exact y_sub (ls_s (ls_n (ls_s ls_0))) (t_X6_goal_60 n M a2)
          · refine y_br (fun h14 => ?_) (fun h14 => ?_)
            · refine y_tableIn (off := 54) (tgt := 60) (pc := 6) dX6_goal_6 h14 (by decide) (by decide) (by decide) rfl (by decide) ?_
              exact y_sub (ls_s (ls_n (ls_s ls_0))) (t_X6_goal_60 n M a2)
            · refine y_br (fun h15 => ?_) (fun h15 => ?_)
              · refine y_tableIn (off := 60) (tgt := 66) (pc := 6) dX6_goal_6 h15 (by decide) (by decide) (by decide) rfl (by decide) ?_
                refine y_iload_n (pc := 66) dX6_goal_66 rfl ?_
                refine y_iconst (pc := 67) dX6_goal_67 ?_
                refine y_gd (fun h16 => ?_)
                refine y_irem (pc := 68) dX6_goal_68 h16 (by decide) (by decide) ?_
                refine y_gd (fun h17 => ?_)
                refine y_if_ne (off := 11) (tgt := 80) (pc := 69) dX6_goal_69 (by decide) h17 (fun h18 => ?_) (fun h18 => ?_)
                · refine y_aload_n (pc := 80) dX6_goal_80 rfl ?_
                  refine y_getref (pc := 81) (x := 146) g_X6_37 dX6_goal_81 ?_
                  refine y_iload_n (pc := 84) dX6_goal_84 rfl ?_
                  refine y_iald (pc := 85) dX6_goal_85 ar_146 h4 ?_
                  exact y_iret (pc := 86) dX6_goal_86
                · refine y_aload_n (pc := 72) dX6_goal_72 rfl ?_
                  refine y_iload_n (pc := 73) dX6_goal_73 rfl ?_
                  refine y_callVi (pc := 74) v_X6_goalAsThief l_X6_136 dX6_goal_74 (c_X6_goalAsThief n _ _) rfl rc_X6 rfl (by decide) (by decide) (Nat.le_of_ble_eq_true rfl) (fun r20 M19 _ => ?_)
                  refine y_goto (tgt := 86) (pc := 77) dX6_goal_77 (by decide) ?_
                  exact y_iret (pc := 86) dX6_goal_86
              · refine y_tableOut (tgt := 87) (pc := 6) dX6_goal_6 (rd_rng _ _ _) (by omega) (by decide) ?_
                exact y_sub (ls_s (ls_s (ls_n ls_0))) (t_X6_goal_87 n M a1)
theorem c_X6_goal (n : Nat) (M : Mem) (a1 : Int) (a2 : Int) : ∀ res : Int × Mem, m_X6_goal n M a1 a2 = some res → CTi yX6_goal cX6_goal 3 (some .int) 4 [rv 137, iv a1, iv a2] M res := CTi_of (by decide +kernel) rfl (Nat.le_of_ble_eq_true rfl) rfl (y_X6_goal n M a1 a2)
def m_X6_mayTake_48 (n : Nat) (M : Mem) (a1 : Int) (a2 : Int) : Rs := if 0 ≤ a1 ∧ a1 < 5 then (if (rd M 144 (Int.toNat a1)) = 7 then (if 0 ≤ a2 ∧ a2 < 8 then (if (rd M 145 (Int.toNat a1)) < (rd M 141 (Int.toNat a2)) then (some (0, M)) else (some (1, M))) else none) else (some (0, M))) else none
theorem t_X6_mayTake_48 (n : Nat) (M : Mem) (a1 : Int) (a2 : Int) : Y RX6 cX6_mayTake 3 0 1 none 48 [some (rv 137), some (iv a1), some (iv a2)] [] M (m_X6_mayTake_48 n M a1 a2) := by
  unfold m_X6_mayTake_48
  refine y_aload_n (pc := 48) dX6_mayTake_48 rfl ?_
  refine y_getref (pc := 49) (x := 144) g_X6_31 dX6_mayTake_49 ?_
  refine y_iload_n (pc := 52) dX6_mayTake_52 rfl ?_
  refine y_gd (fun h1 => ?_)
  refine y_iald (pc := 53) dX6_mayTake_53 ar_144 h1 ?_
  refine y_bipush (pc := 54) dX6_mayTake_54 (by decide) ?_
  refine y_icmp_ne (off := 22) (tgt := 78) (pc := 56) dX6_mayTake_56 (by decide) (rd_rng _ _ _) (by decide) (fun h2 => ?_) (fun h2 => ?_)
  · refine y_iconst (pc := 78) dX6_mayTake_78 ?_
    exact y_zret (pc := 79) dX6_mayTake_79 (by decide)
  · refine y_aload_n (pc := 59) dX6_mayTake_59 rfl ?_
    refine y_getref (pc := 60) (x := 141) g_X6_22 dX6_mayTake_60 ?_
    refine y_iload_n (pc := 63) dX6_mayTake_63 rfl ?_
    refine y_gd (fun h3 => ?_)
    refine y_iald (pc := 64) dX6_mayTake_64 ar_141 h3 ?_
    refine y_aload_n (pc := 65) dX6_mayTake_65 rfl ?_
    refine y_getref (pc := 66) (x := 145) g_X6_34 dX6_mayTake_66 ?_
    refine y_iload_n (pc := 69) dX6_mayTake_69 rfl ?_
    refine y_iald (pc := 70) dX6_mayTake_70 ar_145 h1 ?_
    refine y_icmp_gt (off := 7) (tgt := 78) (pc := 71) dX6_mayTake_71 (by decide) (rd_rng _ _ _) (rd_rng _ _ _) (fun h4 => ?_) (fun h4 => ?_)
    · refine y_iconst (pc := 78) dX6_mayTake_78 ?_
      exact y_zret (pc := 79) dX6_mayTake_79 (by decide)
    · refine y_iconst (pc := 74) dX6_mayTake_74 ?_
      refine y_goto (tgt := 79) (pc := 75) dX6_mayTake_75 (by decide) ?_
      exact y_zret (pc := 79) dX6_mayTake_79 (by decide)
def m_X6_mayTake (n : Nat) (M : Mem) (a1 : Int) (a2 : Int) : Rs := if 0 ≤ a2 ∧ a2 < 8 then (if I32 a1 then (if (rd M 143 (Int.toNat a2)) = a1 then (some (0, M)) else (if 0 ≤ (rd M 143 (Int.toNat a2)) then (if 0 ≤ a1 ∧ a1 < 5 then (if (rd M 144 (Int.toNat a1)) = 2 then (if (rd M 141 (Int.toNat a2)) < (rd M 145 (Int.toNat a1)) then (some (1, M)) else (m_X6_mayTake_48 n M a1 a2)) else (m_X6_mayTake_48 n M a1 a2)) else none) else (some (1, M)))) else none) else none
theorem y_X6_mayTake (n : Nat) (M : Mem) (a1 : Int) (a2 : Int) : Y RX6 cX6_mayTake 3 0 1 none 0 [some (rv 137), some (iv a1), some (iv a2)] [] M (m_X6_mayTake n M a1 a2) := by
  unfold m_X6_mayTake
  refine y_aload_n (pc := 0) dX6_mayTake_0 rfl ?_
  refine y_getref (pc := 1) (x := 143) g_X6_28 dX6_mayTake_1 ?_
  refine y_iload_n (pc := 4) dX6_mayTake_4 rfl ?_
  refine y_gd (fun h5 => ?_)
  refine y_iald (pc := 5) dX6_mayTake_5 ar_143 h5 ?_
  refine y_iload_n (pc := 6) dX6_mayTake_6 rfl ?_
  refine y_gd (fun h6 => ?_)
  refine y_icmp_ne (off := 5) (tgt := 12) (pc := 7) dX6_mayTake_7 (by decide) (rd_rng _ _ _) h6 (fun h7 => ?_) (fun h7 => ?_)
  · refine y_aload_n (pc := 12) dX6_mayTake_12 rfl ?_
    refine y_getref (pc := 13) (x := 143) g_X6_28 dX6_mayTake_13 ?_
    refine y_iload_n (pc := 16) dX6_mayTake_16 rfl ?_
    refine y_iald (pc := 17) dX6_mayTake_17 ar_143 h5 ?_
    refine y_if_ge (off := 5) (tgt := 23) (pc := 18) dX6_mayTake_18 (by decide) (rd_rng _ _ _) (fun h8 => ?_) (fun h8 => ?_)
    · refine y_aload_n (pc := 23) dX6_mayTake_23 rfl ?_
      refine y_getref (pc := 24) (x := 144) g_X6_31 dX6_mayTake_24 ?_
      refine y_iload_n (pc := 27) dX6_mayTake_27 rfl ?_
      refine y_gd (fun h9 => ?_)
      refine y_iald (pc := 28) dX6_mayTake_28 ar_144 h9 ?_
      refine y_iconst (pc := 29) dX6_mayTake_29 ?_
      refine y_icmp_ne (off := 18) (tgt := 48) (pc := 30) dX6_mayTake_30 (by decide) (rd_rng _ _ _) (by decide) (fun h10 => ?_) (fun h10 => ?_)
      · exact y_sub (ls_s (ls_s (ls_s ls_0))) (t_X6_mayTake_48 n M a1 a2)
      · refine y_aload_n (pc := 33) dX6_mayTake_33 rfl ?_
        refine y_getref (pc := 34) (x := 141) g_X6_22 dX6_mayTake_34 ?_
        refine y_iload_n (pc := 37) dX6_mayTake_37 rfl ?_
        refine y_iald (pc := 38) dX6_mayTake_38 ar_141 h5 ?_
        refine y_aload_n (pc := 39) dX6_mayTake_39 rfl ?_
        refine y_getref (pc := 40) (x := 145) g_X6_34 dX6_mayTake_40 ?_
        refine y_iload_n (pc := 43) dX6_mayTake_43 rfl ?_
        refine y_iald (pc := 44) dX6_mayTake_44 ar_145 h9 ?_
        refine y_icmp_lt (off := 29) (tgt := 74) (pc := 45) dX6_mayTake_45 (by decide) (rd_rng _ _ _) (rd_rng _ _ _) (fun h11 => ?_) (fun h11 => ?_)
        · refine y_iconst (pc := 74) dX6_mayTake_74 ?_
          refine y_goto (tgt := 79) (pc := 75) dX6_mayTake_75 (by decide) ?_
          exact y_zret (pc := 79) dX6_mayTake_79 (by decide)
        · exact y_sub (ls_s (ls_s (ls_s ls_0))) (t_X6_mayTake_48 n M a1 a2)
    · refine y_iconst (pc := 21) dX6_mayTake_21 ?_
      exact y_zret (pc := 22) dX6_mayTake_22 (by decide)
  · refine y_iconst (pc := 10) dX6_mayTake_10 ?_
    exact y_zret (pc := 11) dX6_mayTake_11 (by decide)
theorem c_X6_mayTake (n : Nat) (M : Mem) (a1 : Int) (a2 : Int) : ∀ res : Int × Mem, m_X6_mayTake n M a1 a2 = some res → CTi yX6_mayTake cX6_mayTake 3 (some .boolean) 0 [rv 137, iv a1, iv a2] M res := CTz_of (by decide +kernel) rfl (Nat.le_of_ble_eq_true rfl) rfl (y_X6_mayTake n M a1 a2)
def m_X6_nearer (n : Nat) (M : Mem) (a0 : Int) (a1 : Int) : Rs := if I32 a0 then (if I32 a1 then (if I32 (Int.tdiv a0 6) then (if I32 (Int.tdiv a1 6) then (if (Int.tdiv a0 6) = (Int.tdiv a1 6) then (if a0 = a1 then (some (a0, M)) else (if a1 ≤ a0 then (some ((a0 - 1), M)) else (some ((a0 + 1), M)))) else (if (Int.tdiv a1 6) ≤ (Int.tdiv a0 6) then (some ((a0 - 6), M)) else (some ((a0 + 6), M)))) else none) else none) else none) else none
theorem y_X6_nearer (n : Nat) (M : Mem) (a0 : Int) (a1 : Int) : Y RX6 cX6_nearer 2 0 0 none 0 [some (iv a0), some (iv a1)] [] M (m_X6_nearer n M a0 a1) := by
  unfold m_X6_nearer
  refine y_iload_n (pc := 0) dX6_nearer_0 rfl ?_
  refine y_bipush (pc := 1) dX6_nearer_1 (by decide) ?_
  refine y_gd (fun h1 => ?_)
  refine y_idiv (pc := 3) dX6_nearer_3 h1 (by decide) (by decide) ?_
  refine y_iload_n (pc := 4) dX6_nearer_4 rfl ?_
  refine y_bipush (pc := 5) dX6_nearer_5 (by decide) ?_
  refine y_gd (fun h2 => ?_)
  refine y_idiv (pc := 7) dX6_nearer_7 h2 (by decide) (by decide) ?_
  refine y_gd (fun h3 => ?_)
  refine y_gd (fun h4 => ?_)
  refine y_icmp_eq (off := 26) (tgt := 34) (pc := 8) dX6_nearer_8 (by decide) h3 h4 (fun h5 => ?_) (fun h5 => ?_)
  · refine y_iload_n (pc := 34) dX6_nearer_34 rfl ?_
    refine y_iload_n (pc := 35) dX6_nearer_35 rfl ?_
    refine y_icmp_ne (off := 7) (tgt := 43) (pc := 36) dX6_nearer_36 (by decide) h1 h2 (fun h6 => ?_) (fun h6 => ?_)
    · refine y_iload_n (pc := 43) dX6_nearer_43 rfl ?_
      refine y_iload_n (pc := 44) dX6_nearer_44 rfl ?_
      refine y_icmp_ge (off := 9) (tgt := 54) (pc := 45) dX6_nearer_45 (by decide) h1 h2 (fun h7 => ?_) (fun h7 => ?_)
      · refine y_iload_n (pc := 54) dX6_nearer_54 rfl ?_
        refine y_iconst (pc := 55) dX6_nearer_55 ?_
        refine y_isub (pc := 56) dX6_nearer_56 ?_
        exact y_iret (pc := 57) dX6_nearer_57
      · refine y_iload_n (pc := 48) dX6_nearer_48 rfl ?_
        refine y_iconst (pc := 49) dX6_nearer_49 ?_
        refine y_iadd (pc := 50) dX6_nearer_50 ?_
        refine y_goto (tgt := 57) (pc := 51) dX6_nearer_51 (by decide) ?_
        exact y_iret (pc := 57) dX6_nearer_57
    · refine y_iload_n (pc := 39) dX6_nearer_39 rfl ?_
      refine y_goto (tgt := 57) (pc := 40) dX6_nearer_40 (by decide) ?_
      exact y_iret (pc := 57) dX6_nearer_57
  · refine y_iload_n (pc := 11) dX6_nearer_11 rfl ?_
    refine y_bipush (pc := 12) dX6_nearer_12 (by decide) ?_
    refine y_idiv (pc := 14) dX6_nearer_14 h1 (by decide) (by decide) ?_
    refine y_iload_n (pc := 15) dX6_nearer_15 rfl ?_
    refine y_bipush (pc := 16) dX6_nearer_16 (by decide) ?_
    refine y_idiv (pc := 18) dX6_nearer_18 h2 (by decide) (by decide) ?_
    refine y_icmp_ge (off := 10) (tgt := 29) (pc := 19) dX6_nearer_19 (by decide) h3 h4 (fun h8 => ?_) (fun h8 => ?_)
    · refine y_iload_n (pc := 29) dX6_nearer_29 rfl ?_
      refine y_bipush (pc := 30) dX6_nearer_30 (by decide) ?_
      refine y_isub (pc := 32) dX6_nearer_32 ?_
      exact y_iret (pc := 33) dX6_nearer_33
    · refine y_iload_n (pc := 22) dX6_nearer_22 rfl ?_
      refine y_bipush (pc := 23) dX6_nearer_23 (by decide) ?_
      refine y_iadd (pc := 25) dX6_nearer_25 ?_
      refine y_goto (tgt := 33) (pc := 26) dX6_nearer_26 (by decide) ?_
      exact y_iret (pc := 33) dX6_nearer_33
theorem c_X6_nearer (n : Nat) (M : Mem) (a0 : Int) (a1 : Int) : ∀ res : Int × Mem, m_X6_nearer n M a0 a1 = some res → CTi yX6_nearer cX6_nearer 2 (some .int) 0 [iv a0, iv a1] M res := CTi_of (by decide +kernel) rfl (Nat.le_of_ble_eq_true rfl) rfl (y_X6_nearer n M a0 a1)
