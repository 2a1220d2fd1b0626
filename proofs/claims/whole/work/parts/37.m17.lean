def m_X6_without_97 (n : Nat) (k45 : Mem → Int → Int → Int → Int → Int → Rs) (M : Mem) (a1 : Int) (a2 : Int) (a6 : Int) (a7 : Int) : Rs := k45 M a1 a2 a6 a7 (a6 + 1)
theorem t_X6_without_97 (n : Nat) (k45 : Mem → Int → Int → Int → Int → Int → Rs) (hk45 : ∀ (M : Mem) (a1 : Int) (a2 : Int) (a4 : Int) (a5 : Int) (a6 : Int), Y RX6 cX6_without 8 8 0 none 45 [some (rv 137), some (iv a1), some (iv a2), none, some (iv a4), some (iv a5), some (iv a6), none] [] M (k45 M a1 a2 a4 a5 a6)) (M : Mem) (a1 : Int) (a2 : Int) (a6 : Int) (a7 : Int) : Y RX6 cX6_without 8 8 0 none 97 [some (rv 137), some (iv a1), some (iv a2), none, none, none, some (iv a6), some (iv a7)] [] M (m_X6_without_97 n k45 M a1 a2 a6 a7) := by
  unfold m_X6_without_97
  refine y_iload (pc := 97) dX6_without_97 rfl ?_
  refine y_istore (L' := [some (rv 137), some (iv a1), some (iv a2), none, some (iv a6), none, some (iv a6), some (iv a7)]) (pc := 99) dX6_without_99 (by decide) rfl rfl ?_
  refine y_iload (pc := 101) dX6_without_101 rfl ?_
  refine y_istore (L' := [some (rv 137), some (iv a1), some (iv a2), none, some (iv a6), some (iv a7), some (iv a6), some (iv a7)]) (pc := 103) dX6_without_103 (by decide) rfl rfl ?_
  refine y_iinc (L' := [some (rv 137), some (iv a1), some (iv a2), none, some (iv a6), some (iv a7), some (iv (a6 + 1)), some (iv a7)]) (pc := 105) dX6_without_105 rfl (by decide) rfl rfl ?_
  refine y_goto (tgt := 45) (pc := 108) dX6_without_108 (by decide) ?_
  exact y_sub (ls_s (ls_s (ls_s (ls_n (ls_s (ls_s (ls_s (ls_n ls_0)))))))) (hk45 M a1 a2 a6 a7 (a6 + 1))
def m_X6_without_45 (n : Nat) : Nat → Mem → Int → Int → Int → Int → Int → Rs
  | 0, _, _, _, _, _, _ => none
  | t + 1, M, a1, a2, a4, a5, a6 => if I32 a6 then (if (rd M 137 3) ≤ a6 then (if I32 a2 then (if a2 = 0 then (some (a4, M)) else (some (a5, M))) else none) else (bd (m_X6_minds n M) (fun _ M5 => bd (m_X6_blowsOff n M5 a6) (fun _ M6 => bd (m_X6_goes n M6 a1) (fun _ M7 => bd (m_X6_foggyCells n M7) (fun r9 M8 => bd (m_X6_bits n M8 r9) (fun r11 M10 => bd (m_X6_forgets n M10) (fun _ M12 => if I32 a4 then (if a4 < 0 then (m_X6_without_97 n (m_X6_without_45 n t) M12 a1 a2 a6 r11) else (if I32 r11 then (if I32 a5 then (if r11 < a5 then (m_X6_without_97 n (m_X6_without_45 n t) M12 a1 a2 a6 r11) else ((m_X6_without_45 n t) M12 a1 a2 a4 a5 (a6 + 1))) else none) else none)) else none)))))))) else none
theorem t_X6_without_45 (n : Nat) : ∀ (t : Nat) (M : Mem) (a1 : Int) (a2 : Int) (a4 : Int) (a5 : Int) (a6 : Int), Y RX6 cX6_without 8 8 0 none 45 [some (rv 137), some (iv a1), some (iv a2), none, some (iv a4), some (iv a5), some (iv a6), none] [] M (m_X6_without_45 n t M a1 a2 a4 a5 a6) := by
  intro t
  induction t with
  | zero => intro M a1 a2 a4 a5 a6; exact y_none
  | succ t ih =>
    intro M a1 a2 a4 a5 a6
    rewrite [m_X6_without_45]
    refine y_iload (pc := 45) dX6_without_45 rfl ?_
    refine y_aload_n (pc := 47) dX6_without_47 rfl ?_
    refine y_getint (pc := 48) g_X6_79 dX6_without_48 ?_
    refine y_gd (fun h1 => ?_)
    refine y_icmp_ge (off := 60) (tgt := 111) (pc := 51) dX6_without_51 (by decide) h1 (rd_rng _ _ _) (fun h2 => ?_) (fun h2 => ?_)
    · refine y_iload_n (pc := 111) dX6_without_111 rfl ?_
      refine y_gd (fun h3 => ?_)
      refine y_if_ne (off := 8) (tgt := 120) (pc := 112) dX6_without_112 (by decide) h3 (fun h4 => ?_) (fun h4 => ?_)
      · refine y_iload (pc := 120) dX6_without_120 rfl ?_
        exact y_iret (pc := 122) dX6_without_122
      · refine y_iload (pc := 115) dX6_without_115 rfl ?_
        refine y_goto (tgt := 122) (pc := 117) dX6_without_117 (by decide) ?_
        exact y_iret (pc := 122) dX6_without_122
    · refine y_aload_n (pc := 54) dX6_without_54 rfl ?_
      refine y_callVv (pc := 55) v_X6_minds l_X6_280 dX6_without_55 (c_X6_minds n _) rfl rc_X6 rfl (by decide) (by decide) (Nat.le_of_ble_eq_true rfl) (fun _ M5 _ => ?_)
      refine y_aload_n (pc := 58) dX6_without_58 rfl ?_
      refine y_iload (pc := 59) dX6_without_59 rfl ?_
      refine y_callVv (pc := 61) v_X6_blowsOff l_X6_295 dX6_without_61 (c_X6_blowsOff n _ _) rfl rc_X6 rfl (by decide) (by decide) (Nat.le_of_ble_eq_true rfl) (fun _ M6 _ => ?_)
      refine y_aload_n (pc := 64) dX6_without_64 rfl ?_
      refine y_iload_n (pc := 65) dX6_without_65 rfl ?_
      refine y_callVv (pc := 66) v_X6_goes l_X6_210 dX6_without_66 (c_X6_goes n _ _) rfl rc_X6 rfl (by decide) (by decide) (Nat.le_of_ble_eq_true rfl) (fun _ M7 _ => ?_)
      refine y_aload_n (pc := 69) dX6_without_69 rfl ?_
      refine y_callVi (pc := 70) v_X6_foggyCells l_X6_286 dX6_without_70 (c_X6_foggyCells n _) rfl rc_X6 rfl (by decide) (by decide) (Nat.le_of_ble_eq_true rfl) (fun r9 M8 _ => ?_)
      refine y_callSi (pc := 73) s_X6_bits l_X6_298 dX6_without_73 (c_X6_bits n _ _) rfl rfl (by decide) (by decide) (Nat.le_of_ble_eq_true rfl) (fun r11 M10 _ => ?_)
      refine y_istore (L' := [some (rv 137), some (iv a1), some (iv a2), none, some (iv a4), some (iv a5), some (iv a6), some (iv r11)]) (pc := 76) dX6_without_76 (by decide) rfl rfl ?_
      refine y_aload_n (pc := 78) dX6_without_78 rfl ?_
      refine y_callVv (pc := 79) v_X6_forgets l_X6_283 dX6_without_79 (c_X6_forgets n _) rfl rc_X6 rfl (by decide) (by decide) (Nat.le_of_ble_eq_true rfl) (fun _ M12 _ => ?_)
      refine y_iload (pc := 82) dX6_without_82 rfl ?_
      refine y_gd (fun h13 => ?_)
      refine y_if_lt (off := 13) (tgt := 97) (pc := 84) dX6_without_84 (by decide) h13 (fun h14 => ?_) (fun h14 => ?_)
      · exact y_sub (ls_s (ls_s (ls_s (ls_n (ls_n (ls_n (ls_s (ls_s ls_0)))))))) (t_X6_without_97 n (m_X6_without_45 n t) ih M12 a1 a2 a6 r11)
      · refine y_iload (pc := 87) dX6_without_87 rfl ?_
        refine y_iload (pc := 89) dX6_without_89 rfl ?_
        refine y_gd (fun h15 => ?_)
        refine y_gd (fun h16 => ?_)
        refine y_icmp_lt (off := 6) (tgt := 97) (pc := 91) dX6_without_91 (by decide) h15 h16 (fun h17 => ?_) (fun h17 => ?_)
        · exact y_sub (ls_s (ls_s (ls_s (ls_n (ls_n (ls_n (ls_s (ls_s ls_0)))))))) (t_X6_without_97 n (m_X6_without_45 n t) ih M12 a1 a2 a6 r11)
        · refine y_goto (tgt := 105) (pc := 94) dX6_without_94 (by decide) ?_
          refine y_iinc (L' := [some (rv 137), some (iv a1), some (iv a2), none, some (iv a4), some (iv a5), some (iv (a6 + 1)), some (iv r11)]) (pc := 105) dX6_without_105 rfl (by decide) rfl rfl ?_
          refine y_goto (tgt := 45) (pc := 108) dX6_without_108 (by decide) ?_
          exact y_sub (ls_s (ls_s (ls_s (ls_n (ls_s (ls_s (ls_s (ls_n ls_0)))))))) (ih M12 a1 a2 a4 a5 (a6 + 1))
def m_X6_without_24 (n : Nat) (M : Mem) (a1 : Int) (a2 : Int) (a3 : Int) : Rs := if I32 a3 then (if a3 = 0 then (m_X6_without_45 n n M a1 a2 (-9) (-9) 0) else (bd (m_X6_no n M a3) (fun r21 M20 => some (r21, M20)))) else none
theorem t_X6_without_24 (n : Nat) (M : Mem) (a1 : Int) (a2 : Int) (a3 : Int) : Y RX6 cX6_without 8 8 0 none 24 [some (rv 137), some (iv a1), some (iv a2), some (iv a3), none, none, none, none] [] M (m_X6_without_24 n M a1 a2 a3) := by
  unfold m_X6_without_24
  refine y_iload_n (pc := 24) dX6_without_24 rfl ?_
  refine y_gd (fun h18 => ?_)
  refine y_if_eq (off := 9) (tgt := 34) (pc := 25) dX6_without_25 (by decide) h18 (fun h19 => ?_) (fun h19 => ?_)
  · refine y_bipush (pc := 34) dX6_without_34 (by decide) ?_
    refine y_istore (L' := [some (rv 137), some (iv a1), some (iv a2), some (iv a3), some (iv (-9)), none, none, none]) (pc := 36) dX6_without_36 (by decide) rfl rfl ?_
    refine y_bipush (pc := 38) dX6_without_38 (by decide) ?_
    refine y_istore (L' := [some (rv 137), some (iv a1), some (iv a2), some (iv a3), some (iv (-9)), some (iv (-9)), none, none]) (pc := 40) dX6_without_40 (by decide) rfl rfl ?_
    refine y_iconst (pc := 42) dX6_without_42 ?_
    refine y_istore (L' := [some (rv 137), some (iv a1), some (iv a2), some (iv a3), some (iv (-9)), some (iv (-9)), some (iv 0), none]) (pc := 43) dX6_without_43 (by decide) rfl rfl ?_
    exact y_sub (ls_s (ls_s (ls_s (ls_n (ls_s (ls_s (ls_s (ls_n ls_0)))))))) (t_X6_without_45 n n M a1 a2 (-9) (-9) 0)
  · refine y_aload_n (pc := 28) dX6_without_28 rfl ?_
    refine y_iload_n (pc := 29) dX6_without_29 rfl ?_
    refine y_callVi (pc := 30) v_X6_no l_X6_172 dX6_without_30 (c_X6_no n _ _) rfl rc_X6 rfl (by decide) (by decide) (Nat.le_of_ble_eq_true rfl) (fun r21 M20 _ => ?_)
    exact y_iret (pc := 33) dX6_without_33
def m_X6_without (n : Nat) (M : Mem) (a1 : Int) (a2 : Int) : Rs := bd (m_X6_bound n M a1 0 60) (fun r23 M22 => if I32 r23 then (if r23 = 0 then (bd (m_X6_isIn n M22 a2 0 1) (fun r27 M26 => if I32 r27 then (if r27 = 0 then (m_X6_without_24 n M26 a1 a2 (-2)) else (m_X6_without_24 n M26 a1 a2 r23)) else none)) else (m_X6_without_24 n M22 a1 a2 r23)) else none)
theorem y_X6_without (n : Nat) (M : Mem) (a1 : Int) (a2 : Int) : Y RX6 cX6_without 8 8 0 none 0 [some (rv 137), some (iv a1), some (iv a2), none, none, none, none, none] [] M (m_X6_without n M a1 a2) := by
  unfold m_X6_without
  refine y_iload_n (pc := 0) dX6_without_0 rfl ?_
  refine y_iconst (pc := 1) dX6_without_1 ?_
  refine y_bipush (pc := 2) dX6_without_2 (by decide) ?_
  refine y_callSi (pc := 4) s_X6_bound l_X6_165 dX6_without_4 (c_X6_bound n _ _ _ _) rfl rfl (by decide) (by decide) (Nat.le_of_ble_eq_true rfl) (fun r23 M22 _ => ?_)
  refine y_istore_n (L' := [some (rv 137), some (iv a1), some (iv a2), some (iv r23), none, none, none, none]) (pc := 7) dX6_without_7 (by decide) rfl rfl ?_
  refine y_iload_n (pc := 8) dX6_without_8 rfl ?_
  refine y_gd (fun h24 => ?_)
  refine y_if_ne (off := 15) (tgt := 24) (pc := 9) dX6_without_9 (by decide) h24 (fun h25 => ?_) (fun h25 => ?_)
  · exact y_sub (ls_s (ls_s (ls_s (ls_s (ls_n (ls_n (ls_n (ls_n ls_0)))))))) (t_X6_without_24 n M22 a1 a2 r23)
  · refine y_iload_n (pc := 12) dX6_without_12 rfl ?_
    refine y_iconst (pc := 13) dX6_without_13 ?_
    refine y_iconst (pc := 14) dX6_without_14 ?_
    refine y_callSi (pc := 15) s_X6_isIn l_X6_82 dX6_without_15 (c_X6_isIn n _ _ _ _) rfl rfl (by decide) (by decide) (Nat.le_of_ble_eq_true rfl) (fun r27 M26 _ => ?_)
    refine y_gd (fun h28 => ?_)
    refine y_if_ne (off := 6) (tgt := 24) (pc := 18) dX6_without_18 (by decide) h28 (fun h29 => ?_) (fun h29 => ?_)
    · exact y_sub (ls_s (ls_s (ls_s (ls_s (ls_n (ls_n (ls_n (ls_n ls_0)))))))) (t_X6_without_24 n M26 a1 a2 r23)
    · refine y_bipush (pc := 21) dX6_without_21 (by decide) ?_
      refine y_istore_n (L' := [some (rv 137), some (iv a1), some (iv a2), some (iv (-2)), none, none, none, none]) (pc := 23) dX6_without_23 (by decide) rfl rfl ?_
      exact y_sub (ls_s (ls_s (ls_s (ls_s (ls_n (ls_n (ls_n (ls_n ls_0)))))))) (t_X6_without_24 n M26 a1 a2 (-2))
theorem c_X6_without (n : Nat) (M : Mem) (a1 : Int) (a2 : Int) : ∀ res : Int × Mem, m_X6_without n M a1 a2 = some res → CTi yX6_without cX6_without 8 (some .int) 8 [rv 137, iv a1, iv a2] M res := CTi_of (by decide +kernel) rfl (Nat.le_of_ble_eq_true rfl) rfl (y_X6_without n M a1 a2)
def m_X6_changes (n : Nat) (M : Mem) (a0 : Nat) (a1 : Int) (a2 : Int) : Rs := if isA a0 then (if 0 ≤ a1 ∧ a1 < ((ln a0 : Nat) : Int) then (lt (rd M a0 (Int.toNat a1)) (fun x2 => if 0 ≤ a2 ∧ a2 < ((ln a0 : Nat) : Int) then (wr M a0 (Int.toNat a1) (rd M a0 (Int.toNat a2)) (fun M4 => wr M4 a0 (Int.toNat a2) x2 (fun M5 => some (0, M5)))) else none)) else none) else none
theorem y_X6_changes (n : Nat) (M : Mem) (a0 : Nat) (a1 : Int) (a2 : Int) : Y RX6 cX6_changes 4 0 3 none 0 [some (rv a0), some (iv a1), some (iv a2), none] [] M (m_X6_changes n M a0 a1 a2) := by
  unfold m_X6_changes
  refine y_gd (fun ha0 => ?_)
  refine y_aload_n (pc := 0) dX6_changes_0 rfl ?_
  refine y_iload_n (pc := 1) dX6_changes_1 rfl ?_
  refine y_gd (fun h1 => ?_)
  refine y_iald (pc := 2) dX6_changes_2 (ar_A ha0) h1 ?_
  refine y_leti (fun x2 => ?_)
  refine y_istore_n (L' := [some (rv a0), some (iv a1), some (iv a2), some (iv x2)]) (pc := 3) dX6_changes_3 (by decide) rfl rfl ?_
  refine y_aload_n (pc := 4) dX6_changes_4 rfl ?_
  refine y_iload_n (pc := 5) dX6_changes_5 rfl ?_
  refine y_aload_n (pc := 6) dX6_changes_6 rfl ?_
  refine y_iload_n (pc := 7) dX6_changes_7 rfl ?_
  refine y_gd (fun h3 => ?_)
  refine y_iald (pc := 8) dX6_changes_8 (ar_A ha0) h3 ?_
  refine y_iastw (pc := 9) dX6_changes_9 (ar_A ha0) h1 (fun M4 => ?_)
  refine y_aload_n (pc := 10) dX6_changes_10 rfl ?_
  refine y_iload_n (pc := 11) dX6_changes_11 rfl ?_
  refine y_iload_n (pc := 12) dX6_changes_12 rfl ?_
  refine y_iastw (pc := 13) dX6_changes_13 (ar_A ha0) h3 (fun M5 => ?_)
  exact y_vret (pc := 14) dX6_changes_14
theorem c_X6_changes (n : Nat) (M : Mem) (a0 : Nat) (a1 : Int) (a2 : Int) : ∀ res : Int × Mem, m_X6_changes n M a0 a1 a2 = some res → CTv yX6_changes cX6_changes 4 0 [rv a0, iv a1, iv a2] M res := CTv_of (by decide +kernel) rfl (Nat.le_of_ble_eq_true rfl) rfl (y_X6_changes n M a0 a1 a2)
def m_X6_swap_58 (n : Nat) (k43 : Mem → Int → Int → Int → Int → Rs) : Nat → Mem → Int → Int → Int → Int → Int → Rs
  | 0, _, _, _, _, _, _ => none
  | t + 1, M, a1, a3, a4, a5, a6 => if I32 a6 then (if (rd M 137 12) ≤ a6 then (k43 M a1 a3 a4 (a5 + 1)) else (bd (m_X6_minds n M) (fun _ M3 => bd (m_X6_changes n M3 144 a5 a6) (fun _ M4 => bd (m_X6_changes n M4 145 a5 a6) (fun _ M5 => bd (m_X6_goes n M5 a1) (fun _ M6 => bd (m_X6_manyOwned n M6) (fun r8 M7 => bd (m_X6_forgets n M7) (fun _ M9 => if I32 r8 then (if I32 a4 then (if a4 < r8 then ((m_X6_swap_58 n k43 t) M9 a1 ((10 * a5) + a6) r8 a5 (a6 + 1)) else ((m_X6_swap_58 n k43 t) M9 a1 a3 a4 a5 (a6 + 1))) else none) else none)))))))) else none
theorem t_X6_swap_58 (n : Nat) (k43 : Mem → Int → Int → Int → Int → Rs) (hk43 : ∀ (M : Mem) (a1 : Int) (a3 : Int) (a4 : Int) (a5 : Int), Y RX6 cX6_swap 8 8 0 none 43 [some (rv 137), some (iv a1), none, some (iv a3), some (iv a4), some (iv a5), none, none] [] M (k43 M a1 a3 a4 a5)) : ∀ (t : Nat) (M : Mem) (a1 : Int) (a3 : Int) (a4 : Int) (a5 : Int) (a6 : Int), Y RX6 cX6_swap 8 8 0 none 58 [some (rv 137), some (iv a1), none, some (iv a3), some (iv a4), some (iv a5), some (iv a6), none] [] M (m_X6_swap_58 n k43 t M a1 a3 a4 a5 a6) := by
  intro t
  induction t with
  | zero => intro M a1 a3 a4 a5 a6; exact y_none
  | succ t ih =>
    intro M a1 a3 a4 a5 a6
    rewrite [m_X6_swap_58]
    refine y_iload (pc := 58) dX6_swap_58 rfl ?_
    refine y_aload_n (pc := 60) dX6_swap_60 rfl ?_
    refine y_getint (pc := 61) g_X6_89 dX6_swap_61 ?_
    refine y_gd (fun h1 => ?_)
    refine y_icmp_ge (off := 73) (tgt := 137) (pc := 64) dX6_swap_64 (by decide) h1 (rd_rng _ _ _) (fun h2 => ?_) (fun h2 => ?_)
    · refine y_iinc (L' := [some (rv 137), some (iv a1), none, some (iv a3), some (iv a4), some (iv (a5 + 1)), some (iv a6), none]) (pc := 137) dX6_swap_137 rfl (by decide) rfl rfl ?_
      refine y_goto (tgt := 43) (pc := 140) dX6_swap_140 (by decide) ?_
      exact y_sub (ls_s (ls_s (ls_n (ls_s (ls_s (ls_s (ls_n (ls_n ls_0)))))))) (hk43 M a1 a3 a4 (a5 + 1))
    · refine y_aload_n (pc := 67) dX6_swap_67 rfl ?_
      refine y_callVv (pc := 68) v_X6_minds l_X6_280 dX6_swap_68 (c_X6_minds n _) rfl rc_X6 rfl (by decide) (by decide) (Nat.le_of_ble_eq_true rfl) (fun _ M3 _ => ?_)
      refine y_aload_n (pc := 71) dX6_swap_71 rfl ?_
      refine y_getref (pc := 72) (x := 144) g_X6_31 dX6_swap_72 ?_
      refine y_iload (pc := 75) dX6_swap_75 rfl ?_
      refine y_iload (pc := 77) dX6_swap_77 rfl ?_
      refine y_callSv (pc := 79) s_X6_changes l_X6_301 dX6_swap_79 (c_X6_changes n _ _ _ _) rfl rfl (by decide) (by decide) (Nat.le_of_ble_eq_true rfl) (fun _ M4 _ => ?_)
      refine y_aload_n (pc := 82) dX6_swap_82 rfl ?_
      refine y_getref (pc := 83) (x := 145) g_X6_34 dX6_swap_83 ?_
      refine y_iload (pc := 86) dX6_swap_86 rfl ?_
      refine y_iload (pc := 88) dX6_swap_88 rfl ?_
      refine y_callSv (pc := 90) s_X6_changes l_X6_301 dX6_swap_90 (c_X6_changes n _ _ _ _) rfl rfl (by decide) (by decide) (Nat.le_of_ble_eq_true rfl) (fun _ M5 _ => ?_)
      refine y_aload_n (pc := 93) dX6_swap_93 rfl ?_
      refine y_iload_n (pc := 94) dX6_swap_94 rfl ?_
      refine y_callVv (pc := 95) v_X6_goes l_X6_210 dX6_swap_95 (c_X6_goes n _ _) rfl rc_X6 rfl (by decide) (by decide) (Nat.le_of_ble_eq_true rfl) (fun _ M6 _ => ?_)
      refine y_aload_n (pc := 98) dX6_swap_98 rfl ?_
      refine y_callVi (pc := 99) v_X6_manyOwned l_X6_277 dX6_swap_99 (c_X6_manyOwned n _) rfl rc_X6 rfl (by decide) (by decide) (Nat.le_of_ble_eq_true rfl) (fun r8 M7 _ => ?_)
      refine y_istore (L' := [some (rv 137), some (iv a1), none, some (iv a3), some (iv a4), some (iv a5), some (iv a6), some (iv r8)]) (pc := 102) dX6_swap_102 (by decide) rfl rfl ?_
      refine y_aload_n (pc := 104) dX6_swap_104 rfl ?_
      refine y_callVv (pc := 105) v_X6_forgets l_X6_283 dX6_swap_105 (c_X6_forgets n _) rfl rc_X6 rfl (by decide) (by decide) (Nat.le_of_ble_eq_true rfl) (fun _ M9 _ => ?_)
      refine y_iload (pc := 108) dX6_swap_108 rfl ?_
      refine y_iload (pc := 110) dX6_swap_110 rfl ?_
      refine y_gd (fun h10 => ?_)
      refine y_gd (fun h11 => ?_)
      refine y_icmp_gt (off := 6) (tgt := 118) (pc := 112) dX6_swap_112 (by decide) h10 h11 (fun h12 => ?_) (fun h12 => ?_)
      · refine y_bipush (pc := 118) dX6_swap_118 (by decide) ?_
        refine y_iload (pc := 120) dX6_swap_120 rfl ?_
        refine y_imul (pc := 122) dX6_swap_122 ?_
        refine y_iload (pc := 123) dX6_swap_123 rfl ?_
        refine y_iadd (pc := 125) dX6_swap_125 ?_
        refine y_istore_n (L' := [some (rv 137), some (iv a1), none, some (iv ((10 * a5) + a6)), some (iv a4), some (iv a5), some (iv a6), some (iv r8)]) (pc := 126) dX6_swap_126 (by decide) rfl rfl ?_
        refine y_iload (pc := 127) dX6_swap_127 rfl ?_
        refine y_istore (L' := [some (rv 137), some (iv a1), none, some (iv ((10 * a5) + a6)), some (iv r8), some (iv a5), some (iv a6), some (iv r8)]) (pc := 129) dX6_swap_129 (by decide) rfl rfl ?_
        refine y_iinc (L' := [some (rv 137), some (iv a1), none, some (iv ((10 * a5) + a6)), some (iv r8), some (iv a5), some (iv (a6 + 1)), some (iv r8)]) (pc := 131) dX6_swap_131 rfl (by decide) rfl rfl ?_
        refine y_goto (tgt := 58) (pc := 134) dX6_swap_134 (by decide) ?_
        exact y_sub (ls_s (ls_s (ls_n (ls_s (ls_s (ls_s (ls_s (ls_n ls_0)))))))) (ih M9 a1 ((10 * a5) + a6) r8 a5 (a6 + 1))
      · refine y_goto (tgt := 131) (pc := 115) dX6_swap_115 (by decide) ?_
        refine y_iinc (L' := [some (rv 137), some (iv a1), none, some (iv a3), some (iv a4), some (iv a5), some (iv (a6 + 1)), some (iv r8)]) (pc := 131) dX6_swap_131 rfl (by decide) rfl rfl ?_
        refine y_goto (tgt := 58) (pc := 134) dX6_swap_134 (by decide) ?_
        exact y_sub (ls_s (ls_s (ls_n (ls_s (ls_s (ls_s (ls_s (ls_n ls_0)))))))) (ih M9 a1 a3 a4 a5 (a6 + 1))
def m_X6_swap_43 (n : Nat) : Nat → Mem → Int → Int → Int → Int → Rs
  | 0, _, _, _, _, _ => none
  | t + 1, M, a1, a3, a4, a5 => if I32 a5 then (if (rd M 137 12) ≤ a5 then (some (a3, M)) else (m_X6_swap_58 n (m_X6_swap_43 n t) n M a1 a3 a4 a5 (a5 + 1))) else none
theorem t_X6_swap_43 (n : Nat) : ∀ (t : Nat) (M : Mem) (a1 : Int) (a3 : Int) (a4 : Int) (a5 : Int), Y RX6 cX6_swap 8 8 0 none 43 [some (rv 137), some (iv a1), none, some (iv a3), some (iv a4), some (iv a5), none, none] [] M (m_X6_swap_43 n t M a1 a3 a4 a5) := by
  intro t
  induction t with
  | zero => intro M a1 a3 a4 a5; exact y_none
  | succ t ih =>
    intro M a1 a3 a4 a5
    rewrite [m_X6_swap_43]
    refine y_iload (pc := 43) dX6_swap_43 rfl ?_
    refine y_aload_n (pc := 45) dX6_swap_45 rfl ?_
    refine y_getint (pc := 46) g_X6_89 dX6_swap_46 ?_
    refine y_gd (fun h13 => ?_)
    refine y_icmp_ge (off := 94) (tgt := 143) (pc := 49) dX6_swap_49 (by decide) h13 (rd_rng _ _ _) (fun h14 => ?_) (fun h14 => ?_)
    · refine y_iload_n (pc := 143) dX6_swap_143 rfl ?_
      exact y_iret (pc := 144) dX6_swap_144
    · refine y_iload (pc := 52) dX6_swap_52 rfl ?_
      refine y_iconst (pc := 54) dX6_swap_54 ?_
      refine y_iadd (pc := 55) dX6_swap_55 ?_
      refine y_istore (L' := [some (rv 137), some (iv a1), none, some (iv a3), some (iv a4), some (iv a5), some (iv (a5 + 1)), none]) (pc := 56) dX6_swap_56 (by decide) rfl rfl ?_
      exact y_sub (ls_s (ls_s (ls_n (ls_s (ls_s (ls_s (ls_s (ls_n ls_0)))))))) (t_X6_swap_58 n (m_X6_swap_43 n t) ih n M a1 a3 a4 a5 (a5 + 1))
def m_X6_swap (n : Nat) (M : Mem) (a1 : Int) : Rs := bd (m_X6_bound n M a1 0 30) (fun r16 M15 => if I32 r16 then (if r16 = 0 then (bd (m_X6_minds n M15) (fun _ M19 => bd (m_X6_goes n M19 a1) (fun _ M20 => bd (m_X6_manyOwned n M20) (fun r22 M21 => bd (m_X6_forgets n M21) (fun _ M23 => m_X6_swap_43 n n M23 a1 (-9) r22 0))))) else (bd (m_X6_no n M15 r16) (fun r25 M24 => some (r25, M24)))) else none)
theorem y_X6_swap (n : Nat) (M : Mem) (a1 : Int) : Y RX6 cX6_swap 8 8 0 none 0 [some (rv 137), some (iv a1), none, none, none, none, none, none] [] M (m_X6_swap n M a1) := by
  unfold m_X6_swap
  refine y_iload_n (pc := 0) dX6_swap_0 rfl ?_
  refine y_iconst (pc := 1) dX6_swap_1 ?_
  refine y_bipush (pc := 2) dX6_swap_2 (by decide) ?_
  refine y_callSi (pc := 4) s_X6_bound l_X6_165 dX6_swap_4 (c_X6_bound n _ _ _ _) rfl rfl (by decide) (by decide) (Nat.le_of_ble_eq_true rfl) (fun r16 M15 _ => ?_)
  refine y_istore_n (L' := [some (rv 137), some (iv a1), some (iv r16), none, none, none, none, none]) (pc := 7) dX6_swap_7 (by decide) rfl rfl ?_
  refine y_iload_n (pc := 8) dX6_swap_8 rfl ?_
  refine y_gd (fun h17 => ?_)
  refine y_if_eq (off := 9) (tgt := 18) (pc := 9) dX6_swap_9 (by decide) h17 (fun h18 => ?_) (fun h18 => ?_)
  · refine y_bipush (pc := 18) dX6_swap_18 (by decide) ?_
    refine y_istore_n (L' := [some (rv 137), some (iv a1), some (iv r16), some (iv (-9)), none, none, none, none]) (pc := 20) dX6_swap_20 (by decide) rfl rfl ?_
    refine y_aload_n (pc := 21) dX6_swap_21 rfl ?_
    refine y_callVv (pc := 22) v_X6_minds l_X6_280 dX6_swap_22 (c_X6_minds n _) rfl rc_X6 rfl (by decide) (by decide) (Nat.le_of_ble_eq_true rfl) (fun _ M19 _ => ?_)
    refine y_aload_n (pc := 25) dX6_swap_25 rfl ?_
    refine y_iload_n (pc := 26) dX6_swap_26 rfl ?_
    refine y_callVv (pc := 27) v_X6_goes l_X6_210 dX6_swap_27 (c_X6_goes n _ _) rfl rc_X6 rfl (by decide) (by decide) (Nat.le_of_ble_eq_true rfl) (fun _ M20 _ => ?_)
    refine y_aload_n (pc := 30) dX6_swap_30 rfl ?_
    refine y_callVi (pc := 31) v_X6_manyOwned l_X6_277 dX6_swap_31 (c_X6_manyOwned n _) rfl rc_X6 rfl (by decide) (by decide) (Nat.le_of_ble_eq_true rfl) (fun r22 M21 _ => ?_)
    refine y_istore (L' := [some (rv 137), some (iv a1), some (iv r16), some (iv (-9)), some (iv r22), none, none, none]) (pc := 34) dX6_swap_34 (by decide) rfl rfl ?_
    refine y_aload_n (pc := 36) dX6_swap_36 rfl ?_
    refine y_callVv (pc := 37) v_X6_forgets l_X6_283 dX6_swap_37 (c_X6_forgets n _) rfl rc_X6 rfl (by decide) (by decide) (Nat.le_of_ble_eq_true rfl) (fun _ M23 _ => ?_)
    refine y_iconst (pc := 40) dX6_swap_40 ?_
    refine y_istore (L' := [some (rv 137), some (iv a1), some (iv r16), some (iv (-9)), some (iv r22), some (iv 0), none, none]) (pc := 41) dX6_swap_41 (by decide) rfl rfl ?_
    exact y_sub (ls_s (ls_s (ls_n (ls_s (ls_s (ls_s (ls_n (ls_n ls_0)))))))) (t_X6_swap_43 n n M23 a1 (-9) r22 0)
  · refine y_aload_n (pc := 12) dX6_swap_12 rfl ?_
    refine y_iload_n (pc := 13) dX6_swap_13 rfl ?_
    refine y_callVi (pc := 14) v_X6_no l_X6_172 dX6_swap_14 (c_X6_no n _ _) rfl rc_X6 rfl (by decide) (by decide) (Nat.le_of_ble_eq_true rfl) (fun r25 M24 _ => ?_)
    exact y_iret (pc := 17) dX6_swap_17
theorem c_X6_swap (n : Nat) (M : Mem) (a1 : Int) : ∀ res : Int × Mem, m_X6_swap n M a1 = some res → CTi yX6_swap cX6_swap 8 (some .int) 8 [rv 137, iv a1] M res := CTi_of (by decide +kernel) rfl (Nat.le_of_ble_eq_true rfl) rfl (y_X6_swap n M a1)
def m_X6_wentSo_2 (n : Nat) : Nat → Mem → Int → Int → Rs
  | 0, _, _, _ => none
  | t + 1, M, a1, a2 => if I32 a2 then (if (rd M 137 31) ≤ a2 then (some (1, M)) else (if 0 ≤ a1 ∧ a1 < 5 then (if 0 ≤ a2 ∧ a2 < 12 then (if (rd M 147 (Int.toNat a1)) = (rd M 156 (Int.toNat a2)) then (bd (m_X6_goesHour n M) (fun _ M6 => (m_X6_wentSo_2 n t) M6 a1 (a2 + 1))) else (some (0, M))) else none) else none)) else none
theorem t_X6_wentSo_2 (n : Nat) : ∀ (t : Nat) (M : Mem) (a1 : Int) (a2 : Int), Y RX6 cX6_wentSo 3 7 1 none 2 [some (rv 137), some (iv a1), some (iv a2)] [] M (m_X6_wentSo_2 n t M a1 a2) := by
  intro t
  induction t with
  | zero => intro M a1 a2; exact y_none
  | succ t ih =>
    intro M a1 a2
    rewrite [m_X6_wentSo_2]
    refine y_iload_n (pc := 2) dX6_wentSo_2 rfl ?_
    refine y_aload_n (pc := 3) dX6_wentSo_3 rfl ?_
    refine y_getint (pc := 4) g_X6_305 dX6_wentSo_4 ?_
    refine y_gd (fun h1 => ?_)
    refine y_icmp_ge (off := 30) (tgt := 37) (pc := 7) dX6_wentSo_7 (by decide) h1 (rd_rng _ _ _) (fun h2 => ?_) (fun h2 => ?_)
    · refine y_iconst (pc := 37) dX6_wentSo_37 ?_
      exact y_zret (pc := 38) dX6_wentSo_38 (by decide)
    · refine y_aload_n (pc := 10) dX6_wentSo_10 rfl ?_
      refine y_getref (pc := 11) (x := 147) g_X6_40 dX6_wentSo_11 ?_
      refine y_iload_n (pc := 14) dX6_wentSo_14 rfl ?_
      refine y_gd (fun h3 => ?_)
      refine y_iald (pc := 15) dX6_wentSo_15 ar_147 h3 ?_
      refine y_aload_n (pc := 16) dX6_wentSo_16 rfl ?_
      refine y_getref (pc := 17) (x := 156) g_X6_68 dX6_wentSo_17 ?_
      refine y_iload_n (pc := 20) dX6_wentSo_20 rfl ?_
      refine y_gd (fun h4 => ?_)
      refine y_iald (pc := 21) dX6_wentSo_21 ar_156 h4 ?_
      refine y_icmp_eq (off := 5) (tgt := 27) (pc := 22) dX6_wentSo_22 (by decide) (rd_rng _ _ _) (rd_rng _ _ _) (fun h5 => ?_) (fun h5 => ?_)
      · refine y_aload_n (pc := 27) dX6_wentSo_27 rfl ?_
        refine y_callVv (pc := 28) v_X6_goesHour l_X6_162 dX6_wentSo_28 (c_X6_goesHour n _) rfl rc_X6 rfl (by decide) (by decide) (Nat.le_of_ble_eq_true rfl) (fun _ M6 _ => ?_)
        refine y_iinc (L' := [some (rv 137), some (iv a1), some (iv (a2 + 1))]) (pc := 31) dX6_wentSo_31 rfl (by decide) rfl rfl ?_
        refine y_goto (tgt := 2) (pc := 34) dX6_wentSo_34 (by decide) ?_
        exact y_sub (ls_s (ls_s (ls_s ls_0))) (ih M6 a1 (a2 + 1))
      · refine y_iconst (pc := 25) dX6_wentSo_25 ?_
        exact y_zret (pc := 26) dX6_wentSo_26 (by decide)
def m_X6_wentSo (n : Nat) (M : Mem) (a1 : Int) : Rs := m_X6_wentSo_2 n n M a1 0
theorem y_X6_wentSo (n : Nat) (M : Mem) (a1 : Int) : Y RX6 cX6_wentSo 3 7 1 none 0 [some (rv 137), some (iv a1), none] [] M (m_X6_wentSo n M a1) := by
  unfold m_X6_wentSo
  refine y_iconst (pc := 0) dX6_wentSo_0 ?_
  refine y_istore_n (L' := [some (rv 137), some (iv a1), some (iv 0)]) (pc := 1) dX6_wentSo_1 (by decide) rfl rfl ?_
  exact y_sub (ls_s (ls_s (ls_s ls_0))) (t_X6_wentSo_2 n n M a1 0)
theorem c_X6_wentSo (n : Nat) (M : Mem) (a1 : Int) : ∀ res : Int × Mem, m_X6_wentSo n M a1 = some res → CTi yX6_wentSo cX6_wentSo 3 (some .boolean) 7 [rv 137, iv a1] M res := CTz_of (by decide +kernel) rfl (Nat.le_of_ble_eq_true rfl) rfl (y_X6_wentSo n M a1)
def m_X6_whatKind_105 (n : Nat) (k44 : Mem → Int → Int → Int → Int → Rs) (M : Mem) (a1 : Int) (a2 : Int) (a5 : Int) (s0 : Int) (s1 : Int) : Rs := bd (m_X6_forgets n M) (fun _ M1 => k44 M1 a1 a2 (bOr s1 s0) (a5 + 1))
theorem t_X6_whatKind_105 (n : Nat) (k44 : Mem → Int → Int → Int → Int → Rs) (hk44 : ∀ (M : Mem) (a1 : Int) (a2 : Int) (a4 : Int) (a5 : Int), Y RX6 cX6_whatKind 6 8 0 none 44 [some (rv 137), some (iv a1), some (iv a2), none, some (iv a4), some (iv a5)] [] M (k44 M a1 a2 a4 a5)) (M : Mem) (a1 : Int) (a2 : Int) (a5 : Int) (s0 : Int) (s1 : Int) : Y RX6 cX6_whatKind 6 8 0 none 105 [some (rv 137), some (iv a1), some (iv a2), none, none, some (iv a5)] [iv s0, iv s1] M (m_X6_whatKind_105 n k44 M a1 a2 a5 s0 s1) := by
  unfold m_X6_whatKind_105
  refine y_ior (pc := 105) dX6_whatKind_105 ?_
  refine y_istore (L' := [some (rv 137), some (iv a1), some (iv a2), none, some (iv (bOr s1 s0)), some (iv a5)]) (pc := 106) dX6_whatKind_106 (by decide) rfl rfl ?_
  refine y_aload_n (pc := 108) dX6_whatKind_108 rfl ?_
  refine y_callVv (pc := 109) v_X6_forgets l_X6_283 dX6_whatKind_109 (c_X6_forgets n _) rfl rc_X6 rfl (by decide) (by decide) (Nat.le_of_ble_eq_true rfl) (fun _ M1 _ => ?_)
  refine y_iinc (L' := [some (rv 137), some (iv a1), some (iv a2), none, some (iv (bOr s1 s0)), some (iv (a5 + 1))]) (pc := 112) dX6_whatKind_112 rfl (by decide) rfl rfl ?_
  refine y_goto (tgt := 44) (pc := 115) dX6_whatKind_115 (by decide) ?_
  exact y_sub (ls_s (ls_s (ls_s (ls_n (ls_s (ls_s ls_0)))))) (hk44 M1 a1 a2 (bOr s1 s0) (a5 + 1))
def m_X6_whatKind_87 (n : Nat) (k44 : Mem → Int → Int → Int → Int → Rs) (M : Mem) (a1 : Int) (a2 : Int) (a4 : Int) (a5 : Int) : Rs := bd (m_X6_wentSo n M a1) (fun r3 M2 => if I32 r3 then (if r3 = 0 then (m_X6_whatKind_105 n k44 M2 a1 a2 a5 0 a4) else (m_X6_whatKind_105 n k44 M2 a1 a2 a5 (bShl 1 a5) a4)) else none)
theorem t_X6_whatKind_87 (n : Nat) (k44 : Mem → Int → Int → Int → Int → Rs) (hk44 : ∀ (M : Mem) (a1 : Int) (a2 : Int) (a4 : Int) (a5 : Int), Y RX6 cX6_whatKind 6 8 0 none 44 [some (rv 137), some (iv a1), some (iv a2), none, some (iv a4), some (iv a5)] [] M (k44 M a1 a2 a4 a5)) (M : Mem) (a1 : Int) (a2 : Int) (a4 : Int) (a5 : Int) : Y RX6 cX6_whatKind 6 8 0 none 87 [some (rv 137), some (iv a1), some (iv a2), none, some (iv a4), some (iv a5)] [] M (m_X6_whatKind_87 n k44 M a1 a2 a4 a5) := by
  unfold m_X6_whatKind_87
  refine y_iload (pc := 87) dX6_whatKind_87 rfl ?_
  refine y_aload_n (pc := 89) dX6_whatKind_89 rfl ?_
  refine y_iload_n (pc := 90) dX6_whatKind_90 rfl ?_
  refine y_callVi (pc := 91) v_X6_wentSo l_X6_308 dX6_whatKind_91 (c_X6_wentSo n _ _) rfl rc_X6 rfl (by decide) (by decide) (Nat.le_of_ble_eq_true rfl) (fun r3 M2 _ => ?_)
  refine y_gd (fun h4 => ?_)
  refine y_if_eq (off := 10) (tgt := 104) (pc := 94) dX6_whatKind_94 (by decide) h4 (fun h5 => ?_) (fun h5 => ?_)
  · refine y_iconst (pc := 104) dX6_whatKind_104 ?_
    exact y_sub (ls_s (ls_s (ls_s (ls_n (ls_n (ls_s ls_0)))))) (t_X6_whatKind_105 n k44 hk44 M2 a1 a2 a5 0 a4)
  · refine y_iconst (pc := 97) dX6_whatKind_97 ?_
    refine y_iload (pc := 98) dX6_whatKind_98 rfl ?_
    refine y_ishl (pc := 100) dX6_whatKind_100 ?_
    refine y_goto (tgt := 105) (pc := 101) dX6_whatKind_101 (by decide) ?_
    exact y_sub (ls_s (ls_s (ls_s (ls_n (ls_n (ls_s ls_0)))))) (t_X6_whatKind_105 n k44 hk44 M2 a1 a2 a5 (bShl 1 a5) a4)
def m_X6_whatKind_57 (n : Nat) (k44 : Mem → Int → Int → Int → Int → Rs) (M : Mem) (a1 : Int) (a2 : Int) (a4 : Int) (a5 : Int) (s0 : Int) (s1 : Int) : Rs := if I32 s1 then (if I32 s0 then (if s0 ≤ s1 then (some (a4, M)) else (bd (m_X6_minds n M) (fun _ M9 => if I32 a2 then (if a2 = 0 then (if 0 ≤ a1 ∧ a1 < 5 then (wr M9 144 (Int.toNat a1) a5 (fun M15 => m_X6_whatKind_87 n k44 M15 a1 a2 a4 a5)) else none) else (if 0 ≤ a1 ∧ a1 < 5 then (wr M9 145 (Int.toNat a1) a5 (fun M13 => m_X6_whatKind_87 n k44 M13 a1 a2 a4 a5)) else none)) else none))) else none) else none
theorem t_X6_whatKind_57 (n : Nat) (k44 : Mem → Int → Int → Int → Int → Rs) (hk44 : ∀ (M : Mem) (a1 : Int) (a2 : Int) (a4 : Int) (a5 : Int), Y RX6 cX6_whatKind 6 8 0 none 44 [some (rv 137), some (iv a1), some (iv a2), none, some (iv a4), some (iv a5)] [] M (k44 M a1 a2 a4 a5)) (M : Mem) (a1 : Int) (a2 : Int) (a4 : Int) (a5 : Int) (s0 : Int) (s1 : Int) : Y RX6 cX6_whatKind 6 8 0 none 57 [some (rv 137), some (iv a1), some (iv a2), none, some (iv a4), some (iv a5)] [iv s0, iv s1] M (m_X6_whatKind_57 n k44 M a1 a2 a4 a5 s0 s1) := by
  unfold m_X6_whatKind_57
  refine y_gd (fun h6 => ?_)
  refine y_gd (fun h7 => ?_)
  refine y_icmp_ge (off := 61) (tgt := 118) (pc := 57) dX6_whatKind_57 (by decide) h6 h7 (fun h8 => ?_) (fun h8 => ?_)
  · refine y_iload (pc := 118) dX6_whatKind_118 rfl ?_
    exact y_iret (pc := 120) dX6_whatKind_120
  · refine y_aload_n (pc := 60) dX6_whatKind_60 rfl ?_
    refine y_callVv (pc := 61) v_X6_minds l_X6_280 dX6_whatKind_61 (c_X6_minds n _) rfl rc_X6 rfl (by decide) (by decide) (Nat.le_of_ble_eq_true rfl) (fun _ M9 _ => ?_)
    refine y_iload_n (pc := 64) dX6_whatKind_64 rfl ?_
    refine y_gd (fun h10 => ?_)
    refine y_if_ne (off := 14) (tgt := 79) (pc := 65) dX6_whatKind_65 (by decide) h10 (fun h11 => ?_) (fun h11 => ?_)
    · refine y_aload_n (pc := 79) dX6_whatKind_79 rfl ?_
      refine y_getref (pc := 80) (x := 145) g_X6_34 dX6_whatKind_80 ?_
      refine y_iload_n (pc := 83) dX6_whatKind_83 rfl ?_
      refine y_iload (pc := 84) dX6_whatKind_84 rfl ?_
      refine y_gd (fun h12 => ?_)
      refine y_iastw (pc := 86) dX6_whatKind_86 ar_145 h12 (fun M13 => ?_)
      exact y_sub (ls_s (ls_s (ls_s (ls_n (ls_s (ls_s ls_0)))))) (t_X6_whatKind_87 n k44 hk44 M13 a1 a2 a4 a5)
    · refine y_aload_n (pc := 68) dX6_whatKind_68 rfl ?_
      refine y_getref (pc := 69) (x := 144) g_X6_31 dX6_whatKind_69 ?_
      refine y_iload_n (pc := 72) dX6_whatKind_72 rfl ?_
      refine y_iload (pc := 73) dX6_whatKind_73 rfl ?_
      refine y_gd (fun h14 => ?_)
      refine y_iastw (pc := 75) dX6_whatKind_75 ar_144 h14 (fun M15 => ?_)
      refine y_goto (tgt := 87) (pc := 76) dX6_whatKind_76 (by decide) ?_
      exact y_sub (ls_s (ls_s (ls_s (ls_n (ls_s (ls_s ls_0)))))) (t_X6_whatKind_87 n k44 hk44 M15 a1 a2 a4 a5)
def m_X6_whatKind_44 (n : Nat) : Nat → Mem → Int → Int → Int → Int → Rs
  | 0, _, _, _, _, _ => none
  | t + 1, M, a1, a2, a4, a5 => if I32 a2 then (if a2 = 0 then (m_X6_whatKind_57 n (m_X6_whatKind_44 n t) M a1 a2 a4 a5 8 a5) else (m_X6_whatKind_57 n (m_X6_whatKind_44 n t) M a1 a2 a4 a5 10 a5)) else none
theorem t_X6_whatKind_44 (n : Nat) : ∀ (t : Nat) (M : Mem) (a1 : Int) (a2 : Int) (a4 : Int) (a5 : Int), Y RX6 cX6_whatKind 6 8 0 none 44 [some (rv 137), some (iv a1), some (iv a2), none, some (iv a4), some (iv a5)] [] M (m_X6_whatKind_44 n t M a1 a2 a4 a5) := by
  intro t
  induction t with
  | zero => intro M a1 a2 a4 a5; exact y_none
  | succ t ih =>
    intro M a1 a2 a4 a5
    rewrite [m_X6_whatKind_44]
    refine y_iload (pc := 44) dX6_whatKind_44 rfl ?_
    refine y_iload_n (pc := 46) dX6_whatKind_46 rfl ?_
    refine y_gd (fun h16 => ?_)
    refine y_if_ne (off := 8) (tgt := 55) (pc := 47) dX6_whatKind_47 (by decide) h16 (fun h17 => ?_) (fun h17 => ?_)
    · refine y_bipush (pc := 55) dX6_whatKind_55 (by decide) ?_
      exact y_sub (ls_s (ls_s (ls_s (ls_n (ls_s (ls_s ls_0)))))) (t_X6_whatKind_57 n (m_X6_whatKind_44 n t) ih M a1 a2 a4 a5 10 a5)
    · refine y_bipush (pc := 50) dX6_whatKind_50 (by decide) ?_
      refine y_goto (tgt := 57) (pc := 52) dX6_whatKind_52 (by decide) ?_
      exact y_sub (ls_s (ls_s (ls_s (ls_n (ls_s (ls_s ls_0)))))) (t_X6_whatKind_57 n (m_X6_whatKind_44 n t) ih M a1 a2 a4 a5 8 a5)
def m_X6_whatKind_27 (n : Nat) (M : Mem) (a1 : Int) (a2 : Int) (s0 : Int) : Rs := if I32 s0 then (if s0 = 0 then (m_X6_whatKind_44 n n M a1 a2 0 0) else (bd (m_X6_no n M s0) (fun r21 M20 => some (r21, M20)))) else none
theorem t_X6_whatKind_27 (n : Nat) (M : Mem) (a1 : Int) (a2 : Int) (s0 : Int) : Y RX6 cX6_whatKind 6 8 0 none 27 [some (rv 137), some (iv a1), some (iv a2), none, none, none] [iv s0] M (m_X6_whatKind_27 n M a1 a2 s0) := by
  unfold m_X6_whatKind_27
  refine y_istore_n (L' := [some (rv 137), some (iv a1), some (iv a2), some (iv s0), none, none]) (pc := 27) dX6_whatKind_27 (by decide) rfl rfl ?_
  refine y_iload_n (pc := 28) dX6_whatKind_28 rfl ?_
  refine y_gd (fun h18 => ?_)
  refine y_if_eq (off := 9) (tgt := 38) (pc := 29) dX6_whatKind_29 (by decide) h18 (fun h19 => ?_) (fun h19 => ?_)
  · refine y_iconst (pc := 38) dX6_whatKind_38 ?_
    refine y_istore (L' := [some (rv 137), some (iv a1), some (iv a2), some (iv s0), some (iv 0), none]) (pc := 39) dX6_whatKind_39 (by decide) rfl rfl ?_
    refine y_iconst (pc := 41) dX6_whatKind_41 ?_
    refine y_istore (L' := [some (rv 137), some (iv a1), some (iv a2), some (iv s0), some (iv 0), some (iv 0)]) (pc := 42) dX6_whatKind_42 (by decide) rfl rfl ?_
    exact y_sub (ls_s (ls_s (ls_s (ls_n (ls_s (ls_s ls_0)))))) (t_X6_whatKind_44 n n M a1 a2 0 0)
  · refine y_aload_n (pc := 32) dX6_whatKind_32 rfl ?_
    refine y_iload_n (pc := 33) dX6_whatKind_33 rfl ?_
    refine y_callVi (pc := 34) v_X6_no l_X6_172 dX6_whatKind_34 (c_X6_no n _ _) rfl rc_X6 rfl (by decide) (by decide) (Nat.le_of_ble_eq_true rfl) (fun r21 M20 _ => ?_)
    exact y_iret (pc := 37) dX6_whatKind_37
def m_X6_whatKind (n : Nat) (M : Mem) (a1 : Int) (a2 : Int) : Rs := bd (m_X6_isPerson n M a1) (fun r23 M22 => if I32 r23 then (if r23 = 0 then (m_X6_whatKind_27 n M22 a1 a2 (-1)) else (bd (m_X6_isIn n M22 a2 0 1) (fun r27 M26 => if I32 r27 then (if r27 = 0 then (m_X6_whatKind_27 n M26 a1 a2 (-2)) else (m_X6_whatKind_27 n M26 a1 a2 0)) else none))) else none)
theorem y_X6_whatKind (n : Nat) (M : Mem) (a1 : Int) (a2 : Int) : Y RX6 cX6_whatKind 6 8 0 none 0 [some (rv 137), some (iv a1), some (iv a2), none, none, none] [] M (m_X6_whatKind n M a1 a2) := by
  unfold m_X6_whatKind
  refine y_aload_n (pc := 0) dX6_whatKind_0 rfl ?_
  refine y_iload_n (pc := 1) dX6_whatKind_1 rfl ?_
  refine y_callVi (pc := 2) v_X6_isPerson l_X6_92 dX6_whatKind_2 (c_X6_isPerson n _ _) rfl rc_X6 rfl (by decide) (by decide) (Nat.le_of_ble_eq_true rfl) (fun r23 M22 _ => ?_)
  refine y_gd (fun h24 => ?_)
  refine y_if_ne (off := 7) (tgt := 12) (pc := 5) dX6_whatKind_5 (by decide) h24 (fun h25 => ?_) (fun h25 => ?_)
  · refine y_iload_n (pc := 12) dX6_whatKind_12 rfl ?_
    refine y_iconst (pc := 13) dX6_whatKind_13 ?_
    refine y_iconst (pc := 14) dX6_whatKind_14 ?_
    refine y_callSi (pc := 15) s_X6_isIn l_X6_82 dX6_whatKind_15 (c_X6_isIn n _ _ _ _) rfl rfl (by decide) (by decide) (Nat.le_of_ble_eq_true rfl) (fun r27 M26 _ => ?_)
    refine y_gd (fun h28 => ?_)
    refine y_if_ne (off := 8) (tgt := 26) (pc := 18) dX6_whatKind_18 (by decide) h28 (fun h29 => ?_) (fun h29 => ?_)
    · refine y_iconst (pc := 26) dX6_whatKind_26 ?_
      exact y_sub (ls_s (ls_s (ls_s (ls_n (ls_n (ls_n ls_0)))))) (t_X6_whatKind_27 n M26 a1 a2 0)
    · refine y_bipush (pc := 21) dX6_whatKind_21 (by decide) ?_
      refine y_goto (tgt := 27) (pc := 23) dX6_whatKind_23 (by decide) ?_
      exact y_sub (ls_s (ls_s (ls_s (ls_n (ls_n (ls_n ls_0)))))) (t_X6_whatKind_27 n M26 a1 a2 (-2))
  · refine y_iconst (pc := 8) dX6_whatKind_8 ?_
    refine y_goto (tgt := 27) (pc := 9) dX6_whatKind_9 (by decide) ?_
    exact y_sub (ls_s (ls_s (ls_s (ls_n (ls_n (ls_n ls_0)))))) (t_X6_whatKind_27 n M22 a1 a2 (-1))
theorem c_X6_whatKind (n : Nat) (M : Mem) (a1 : Int) (a2 : Int) : ∀ res : Int × Mem, m_X6_whatKind n M a1 a2 = some res → CTi yX6_whatKind cX6_whatKind 6 (some .int) 8 [rv 137, iv a1, iv a2] M res := CTi_of (by decide +kernel) rfl (Nat.le_of_ble_eq_true rfl) rfl (y_X6_whatKind n M a1 a2)
def m_X6_blewSo_2 (n : Nat) : Nat → Mem → Int → Int → Rs
  | 0, _, _, _ => none
  | t + 1, M, a1, a2 => if I32 a2 then (if (rd M 137 31) ≤ a2 then (some (1, M)) else (bd (m_X6_airIn n M a1 ((rd M 137 13) + a2)) (fun r4 M3 => if 0 ≤ a2 ∧ a2 < 12 then (if I32 r4 then (if r4 = (rd M3 156 (Int.toNat a2)) then ((m_X6_blewSo_2 n t) M3 a1 (a2 + 1)) else (some (0, M3))) else none) else none))) else none
theorem t_X6_blewSo_2 (n : Nat) : ∀ (t : Nat) (M : Mem) (a1 : Int) (a2 : Int), Y RX6 cX6_blewSo 3 3 1 none 2 [some (rv 137), some (iv a1), some (iv a2)] [] M (m_X6_blewSo_2 n t M a1 a2) := by
  intro t
  induction t with
  | zero => intro M a1 a2; exact y_none
  | succ t ih =>
    intro M a1 a2
    rewrite [m_X6_blewSo_2]
    refine y_iload_n (pc := 2) dX6_blewSo_2 rfl ?_
    refine y_aload_n (pc := 3) dX6_blewSo_3 rfl ?_
    refine y_getint (pc := 4) g_X6_305 dX6_blewSo_4 ?_
    refine y_gd (fun h1 => ?_)
    refine y_icmp_ge (off := 31) (tgt := 38) (pc := 7) dX6_blewSo_7 (by decide) h1 (rd_rng _ _ _) (fun h2 => ?_) (fun h2 => ?_)
    · refine y_iconst (pc := 38) dX6_blewSo_38 ?_
      exact y_zret (pc := 39) dX6_blewSo_39 (by decide)
    · refine y_aload_n (pc := 10) dX6_blewSo_10 rfl ?_
      refine y_iload_n (pc := 11) dX6_blewSo_11 rfl ?_
      refine y_aload_n (pc := 12) dX6_blewSo_12 rfl ?_
      refine y_getint (pc := 13) g_X6_114 dX6_blewSo_13 ?_
      refine y_iload_n (pc := 16) dX6_blewSo_16 rfl ?_
      refine y_iadd (pc := 17) dX6_blewSo_17 ?_
      refine y_callVi (pc := 18) v_X6_airIn l_X6_117 dX6_blewSo_18 (c_X6_airIn n _ _ _) rfl rc_X6 rfl (by decide) (by decide) (Nat.le_of_ble_eq_true rfl) (fun r4 M3 _ => ?_)
      refine y_aload_n (pc := 21) dX6_blewSo_21 rfl ?_
      refine y_getref (pc := 22) (x := 156) g_X6_68 dX6_blewSo_22 ?_
      refine y_iload_n (pc := 25) dX6_blewSo_25 rfl ?_
      refine y_gd (fun h5 => ?_)
      refine y_iald (pc := 26) dX6_blewSo_26 ar_156 h5 ?_
      refine y_gd (fun h6 => ?_)
      refine y_icmp_eq (off := 5) (tgt := 32) (pc := 27) dX6_blewSo_27 (by decide) h6 (rd_rng _ _ _) (fun h7 => ?_) (fun h7 => ?_)
      · refine y_iinc (L' := [some (rv 137), some (iv a1), some (iv (a2 + 1))]) (pc := 32) dX6_blewSo_32 rfl (by decide) rfl rfl ?_
        refine y_goto (tgt := 2) (pc := 35) dX6_blewSo_35 (by decide) ?_
        exact y_sub (ls_s (ls_s (ls_s ls_0))) (ih M3 a1 (a2 + 1))
      · refine y_iconst (pc := 30) dX6_blewSo_30 ?_
        exact y_zret (pc := 31) dX6_blewSo_31 (by decide)
def m_X6_blewSo (n : Nat) (M : Mem) (a1 : Int) : Rs := m_X6_blewSo_2 n n M a1 0
theorem y_X6_blewSo (n : Nat) (M : Mem) (a1 : Int) : Y RX6 cX6_blewSo 3 3 1 none 0 [some (rv 137), some (iv a1), none] [] M (m_X6_blewSo n M a1) := by
  unfold m_X6_blewSo
  refine y_iconst (pc := 0) dX6_blewSo_0 ?_
  refine y_istore_n (L' := [some (rv 137), some (iv a1), some (iv 0)]) (pc := 1) dX6_blewSo_1 (by decide) rfl rfl ?_
  exact y_sub (ls_s (ls_s (ls_s ls_0))) (t_X6_blewSo_2 n n M a1 0)
theorem c_X6_blewSo (n : Nat) (M : Mem) (a1 : Int) : ∀ res : Int × Mem, m_X6_blewSo n M a1 = some res → CTi yX6_blewSo cX6_blewSo 3 (some .boolean) 3 [rv 137, iv a1] M res := CTz_of (by decide +kernel) rfl (Nat.le_of_ble_eq_true rfl) rfl (y_X6_blewSo n M a1)
def m_X6_whichFront_66 (n : Nat) (k34 : Mem → Int → Int → Int → Int → Int → Rs) (M : Mem) (a1 : Int) (a2 : Int) (a4 : Int) (a5 : Int) (s0 : Int) (s1 : Int) : Rs := k34 M a1 a2 (bOr s1 s0) a4 (a5 + 1)
theorem t_X6_whichFront_66 (n : Nat) (k34 : Mem → Int → Int → Int → Int → Int → Rs) (hk34 : ∀ (M : Mem) (a1 : Int) (a2 : Int) (a3 : Int) (a4 : Int) (a5 : Int), Y RX6 cX6_whichFront 6 4 0 none 34 [some (rv 137), some (iv a1), some (iv a2), some (iv a3), some (iv a4), some (iv a5)] [] M (k34 M a1 a2 a3 a4 a5)) (M : Mem) (a1 : Int) (a2 : Int) (a4 : Int) (a5 : Int) (s0 : Int) (s1 : Int) : Y RX6 cX6_whichFront 6 4 0 none 66 [some (rv 137), some (iv a1), some (iv a2), none, some (iv a4), some (iv a5)] [iv s0, iv s1] M (m_X6_whichFront_66 n k34 M a1 a2 a4 a5 s0 s1) := by
  unfold m_X6_whichFront_66
  refine y_ior (pc := 66) dX6_whichFront_66 ?_
  refine y_istore_n (L' := [some (rv 137), some (iv a1), some (iv a2), some (iv (bOr s1 s0)), some (iv a4), some (iv a5)]) (pc := 67) dX6_whichFront_67 (by decide) rfl rfl ?_
  refine y_iinc (L' := [some (rv 137), some (iv a1), some (iv a2), some (iv (bOr s1 s0)), some (iv a4), some (iv (a5 + 1))]) (pc := 68) dX6_whichFront_68 rfl (by decide) rfl rfl ?_
  refine y_goto (tgt := 34) (pc := 71) dX6_whichFront_71 (by decide) ?_
  exact y_sub (ls_s (ls_s (ls_s (ls_s (ls_s (ls_s ls_0)))))) (hk34 M a1 a2 (bOr s1 s0) a4 (a5 + 1))
def m_X6_whichFront_34 (n : Nat) : Nat → Mem → Int → Int → Int → Int → Int → Rs
  | 0, _, _, _, _, _, _ => none
  | t + 1, M, a1, a2, a3, a4, a5 => if I32 a5 then (if 7 ≤ a5 then (if 0 ≤ a1 ∧ a1 < 6 then (wr M 138 (Int.toNat a1) a4 (fun M4 => some (a3, M4))) else none) else (if 0 ≤ a1 ∧ a1 < 6 then (wr M 138 (Int.toNat a1) a5 (fun M6 => bd (m_X6_blewSo n M6 a2) (fun r8 M7 => if I32 r8 then (if r8 = 0 then (m_X6_whichFront_66 n (m_X6_whichFront_34 n t) M7 a1 a2 a4 a5 0 a3) else (m_X6_whichFront_66 n (m_X6_whichFront_34 n t) M7 a1 a2 a4 a5 (bShl 1 a5) a3)) else none))) else none)) else none
theorem t_X6_whichFront_34 (n : Nat) : ∀ (t : Nat) (M : Mem) (a1 : Int) (a2 : Int) (a3 : Int) (a4 : Int) (a5 : Int), Y RX6 cX6_whichFront 6 4 0 none 34 [some (rv 137), some (iv a1), some (iv a2), some (iv a3), some (iv a4), some (iv a5)] [] M (m_X6_whichFront_34 n t M a1 a2 a3 a4 a5) := by
  intro t
  induction t with
  | zero => intro M a1 a2 a3 a4 a5; exact y_none
  | succ t ih =>
    intro M a1 a2 a3 a4 a5
    rewrite [m_X6_whichFront_34]
    refine y_iload (pc := 34) dX6_whichFront_34 rfl ?_
    refine y_bipush (pc := 36) dX6_whichFront_36 (by decide) ?_
    refine y_gd (fun h1 => ?_)
    refine y_icmp_ge (off := 36) (tgt := 74) (pc := 38) dX6_whichFront_38 (by decide) h1 (by decide) (fun h2 => ?_) (fun h2 => ?_)
    · refine y_aload_n (pc := 74) dX6_whichFront_74 rfl ?_
      refine y_getref (pc := 75) (x := 138) g_X6_13 dX6_whichFront_75 ?_
      refine y_iload_n (pc := 78) dX6_whichFront_78 rfl ?_
      refine y_iload (pc := 79) dX6_whichFront_79 rfl ?_
      refine y_gd (fun h3 => ?_)
      refine y_iastw (pc := 81) dX6_whichFront_81 ar_138 h3 (fun M4 => ?_)
      refine y_iload_n (pc := 82) dX6_whichFront_82 rfl ?_
      exact y_iret (pc := 83) dX6_whichFront_83
    · refine y_aload_n (pc := 41) dX6_whichFront_41 rfl ?_
      refine y_getref (pc := 42) (x := 138) g_X6_13 dX6_whichFront_42 ?_
      refine y_iload_n (pc := 45) dX6_whichFront_45 rfl ?_
      refine y_iload (pc := 46) dX6_whichFront_46 rfl ?_
      refine y_gd (fun h5 => ?_)
      refine y_iastw (pc := 48) dX6_whichFront_48 ar_138 h5 (fun M6 => ?_)
      refine y_iload_n (pc := 49) dX6_whichFront_49 rfl ?_
      refine y_aload_n (pc := 50) dX6_whichFront_50 rfl ?_
      refine y_iload_n (pc := 51) dX6_whichFront_51 rfl ?_
      refine y_callVi (pc := 52) v_X6_blewSo l_X6_311 dX6_whichFront_52 (c_X6_blewSo n _ _) rfl rc_X6 rfl (by decide) (by decide) (Nat.le_of_ble_eq_true rfl) (fun r8 M7 _ => ?_)
      refine y_gd (fun h9 => ?_)
      refine y_if_eq (off := 10) (tgt := 65) (pc := 55) dX6_whichFront_55 (by decide) h9 (fun h10 => ?_) (fun h10 => ?_)
      · refine y_iconst (pc := 65) dX6_whichFront_65 ?_
        exact y_sub (ls_s (ls_s (ls_s (ls_n (ls_s (ls_s ls_0)))))) (t_X6_whichFront_66 n (m_X6_whichFront_34 n t) ih M7 a1 a2 a4 a5 0 a3)
      · refine y_iconst (pc := 58) dX6_whichFront_58 ?_
        refine y_iload (pc := 59) dX6_whichFront_59 rfl ?_
        refine y_ishl (pc := 61) dX6_whichFront_61 ?_
        refine y_goto (tgt := 66) (pc := 62) dX6_whichFront_62 (by decide) ?_
        exact y_sub (ls_s (ls_s (ls_s (ls_n (ls_s (ls_s ls_0)))))) (t_X6_whichFront_66 n (m_X6_whichFront_34 n t) ih M7 a1 a2 a4 a5 (bShl 1 a5) a3)
def m_X6_whichFront_15 (n : Nat) (M : Mem) : Rs := bd (m_X6_no n M (-1)) (fun r12 M11 => some (r12, M11))
theorem t_X6_whichFront_15 (n : Nat) (M : Mem) : Y RX6 cX6_whichFront 6 4 0 none 15 [some (rv 137), none, none, none, none, none] [] M (m_X6_whichFront_15 n M) := by
  unfold m_X6_whichFront_15
  refine y_aload_n (pc := 15) dX6_whichFront_15 rfl ?_
  refine y_iconst (pc := 16) dX6_whichFront_16 ?_
  refine y_callVi (pc := 17) v_X6_no l_X6_172 dX6_whichFront_17 (c_X6_no n _ _) rfl rc_X6 rfl (by decide) (by decide) (Nat.le_of_ble_eq_true rfl) (fun r12 M11 _ => ?_)
  exact y_iret (pc := 20) dX6_whichFront_20
def m_X6_whichFront (n : Nat) (M : Mem) (a1 : Int) (a2 : Int) : Rs := bd (m_X6_isFront n M a1) (fun r14 M13 => if I32 r14 then (if r14 = 0 then (m_X6_whichFront_15 n M13) else (bd (m_X6_isCell n M13 a2) (fun r18 M17 => if I32 r18 then (if r18 = 0 then (m_X6_whichFront_15 n M17) else (if 0 ≤ a1 ∧ a1 < 6 then (lt (rd M17 138 (Int.toNat a1)) (fun x22 => m_X6_whichFront_34 n n M17 a1 a2 0 x22 0)) else none)) else none))) else none)
theorem y_X6_whichFront (n : Nat) (M : Mem) (a1 : Int) (a2 : Int) : Y RX6 cX6_whichFront 6 4 0 none 0 [some (rv 137), some (iv a1), some (iv a2), none, none, none] [] M (m_X6_whichFront n M a1 a2) := by
  unfold m_X6_whichFront
  refine y_aload_n (pc := 0) dX6_whichFront_0 rfl ?_
  refine y_iload_n (pc := 1) dX6_whichFront_1 rfl ?_
  refine y_callVi (pc := 2) v_X6_isFront l_X6_267 dX6_whichFront_2 (c_X6_isFront n _ _) rfl rc_X6 rfl (by decide) (by decide) (Nat.le_of_ble_eq_true rfl) (fun r14 M13 _ => ?_)
  refine y_gd (fun h15 => ?_)
  refine y_if_eq (off := 10) (tgt := 15) (pc := 5) dX6_whichFront_5 (by decide) h15 (fun h16 => ?_) (fun h16 => ?_)
  · exact y_sub (ls_s (ls_n (ls_n (ls_n (ls_n (ls_n ls_0)))))) (t_X6_whichFront_15 n M13)
  · refine y_iload_n (pc := 8) dX6_whichFront_8 rfl ?_
    refine y_callSi (pc := 9) s_X6_isCell l_X6_198 dX6_whichFront_9 (c_X6_isCell n _ _) rfl rfl (by decide) (by decide) (Nat.le_of_ble_eq_true rfl) (fun r18 M17 _ => ?_)
    refine y_gd (fun h19 => ?_)
    refine y_if_ne (off := 9) (tgt := 21) (pc := 12) dX6_whichFront_12 (by decide) h19 (fun h20 => ?_) (fun h20 => ?_)
    · refine y_iconst (pc := 21) dX6_whichFront_21 ?_
      refine y_istore_n (L' := [some (rv 137), some (iv a1), some (iv a2), some (iv 0), none, none]) (pc := 22) dX6_whichFront_22 (by decide) rfl rfl ?_
      refine y_aload_n (pc := 23) dX6_whichFront_23 rfl ?_
      refine y_getref (pc := 24) (x := 138) g_X6_13 dX6_whichFront_24 ?_
      refine y_iload_n (pc := 27) dX6_whichFront_27 rfl ?_
      refine y_gd (fun h21 => ?_)
      refine y_iald (pc := 28) dX6_whichFront_28 ar_138 h21 ?_
      refine y_leti (fun x22 => ?_)
      refine y_istore (L' := [some (rv 137), some (iv a1), some (iv a2), some (iv 0), some (iv x22), none]) (pc := 29) dX6_whichFront_29 (by decide) rfl rfl ?_
      refine y_iconst (pc := 31) dX6_whichFront_31 ?_
      refine y_istore (L' := [some (rv 137), some (iv a1), some (iv a2), some (iv 0), some (iv x22), some (iv 0)]) (pc := 32) dX6_whichFront_32 (by decide) rfl rfl ?_
      exact y_sub (ls_s (ls_s (ls_s (ls_s (ls_s (ls_s ls_0)))))) (t_X6_whichFront_34 n n M17 a1 a2 0 x22 0)
    · exact y_sub (ls_s (ls_n (ls_n (ls_n (ls_n (ls_n ls_0)))))) (t_X6_whichFront_15 n M17)
theorem c_X6_whichFront (n : Nat) (M : Mem) (a1 : Int) (a2 : Int) : ∀ res : Int × Mem, m_X6_whichFront n M a1 a2 = some res → CTi yX6_whichFront cX6_whichFront 6 (some .int) 4 [rv 137, iv a1, iv a2] M res := CTi_of (by decide +kernel) rfl (Nat.le_of_ble_eq_true rfl) rfl (y_X6_whichFront n M a1 a2)
def m_X6_findEnds_53 (n : Nat) (k3 : Mem → Int → Int → Int → Int → Rs) (M : Mem) (a1 : Int) (a2 : Int) (a3 : Int) (a4 : Int) : Rs := bd (m_X6_goes n M a3) (fun _ M1 => bd (m_X6_worthsOf n M1 a1) (fun r3 M2 => bd (m_X6_worthsOf n M2 a2) (fun r5 M4 => if I32 r5 then (if 0 ≤ (2 * a4) ∧ (2 * a4) < 8 then (wr M4 157 (Int.toNat (2 * a4)) (r3 - (Int.tdiv r5 2)) (fun M8 => bd (m_X6_worthsOf n M8 a2) (fun r10 M9 => bd (m_X6_worthsOf n M9 a1) (fun r12 M11 => if I32 r12 then (if 0 ≤ ((2 * a4) + 1) ∧ ((2 * a4) + 1) < 8 then (wr M11 157 (Int.toNat ((2 * a4) + 1)) (r10 - (Int.tdiv r12 2)) (fun M15 => bd (m_X6_forgets n M15) (fun _ M16 => k3 M16 a1 a2 a3 (a4 + 1)))) else none) else none)))) else none) else none)))
theorem t_X6_findEnds_53 (n : Nat) (k3 : Mem → Int → Int → Int → Int → Rs) (hk3 : ∀ (M : Mem) (a1 : Int) (a2 : Int) (a3 : Int) (a4 : Int), Y RX6 cX6_findEnds 5 8 3 none 3 [some (rv 137), some (iv a1), some (iv a2), some (iv a3), some (iv a4)] [] M (k3 M a1 a2 a3 a4)) (M : Mem) (a1 : Int) (a2 : Int) (a3 : Int) (a4 : Int) : Y RX6 cX6_findEnds 5 8 3 none 53 [some (rv 137), some (iv a1), some (iv a2), some (iv a3), some (iv a4)] [] M (m_X6_findEnds_53 n k3 M a1 a2 a3 a4) := by
  unfold m_X6_findEnds_53
  refine y_aload_n (pc := 53) dX6_findEnds_53 rfl ?_
  refine y_iload_n (pc := 54) dX6_findEnds_54 rfl ?_
  refine y_callVv (pc := 55) v_X6_goes l_X6_210 dX6_findEnds_55 (c_X6_goes n _ _) rfl rc_X6 rfl (by decide) (by decide) (Nat.le_of_ble_eq_true rfl) (fun _ M1 _ => ?_)
  refine y_aload_n (pc := 58) dX6_findEnds_58 rfl ?_
  refine y_getref (pc := 59) (x := 157) g_X6_71 dX6_findEnds_59 ?_
  refine y_iconst (pc := 62) dX6_findEnds_62 ?_
  refine y_iload (pc := 63) dX6_findEnds_63 rfl ?_
  refine y_imul (pc := 65) dX6_findEnds_65 ?_
  refine y_aload_n (pc := 66) dX6_findEnds_66 rfl ?_
  refine y_iload_n (pc := 67) dX6_findEnds_67 rfl ?_
  refine y_callVi (pc := 68) v_X6_worthsOf l_X6_264 dX6_findEnds_68 (c_X6_worthsOf n _ _) rfl rc_X6 rfl (by decide) (by decide) (Nat.le_of_ble_eq_true rfl) (fun r3 M2 _ => ?_)
  refine y_aload_n (pc := 71) dX6_findEnds_71 rfl ?_
  refine y_iload_n (pc := 72) dX6_findEnds_72 rfl ?_
  refine y_callVi (pc := 73) v_X6_worthsOf l_X6_264 dX6_findEnds_73 (c_X6_worthsOf n _ _) rfl rc_X6 rfl (by decide) (by decide) (Nat.le_of_ble_eq_true rfl) (fun r5 M4 _ => ?_)
  refine y_iconst (pc := 76) dX6_findEnds_76 ?_
  refine y_gd (fun h6 => ?_)
  refine y_idiv (pc := 77) dX6_findEnds_77 h6 (by decide) (by decide) ?_
  refine y_isub (pc := 78) dX6_findEnds_78 ?_
  refine y_gd (fun h7 => ?_)
  refine y_iastw (pc := 79) dX6_findEnds_79 ar_157 h7 (fun M8 => ?_)
  refine y_aload_n (pc := 80) dX6_findEnds_80 rfl ?_
  refine y_getref (pc := 81) (x := 157) g_X6_71 dX6_findEnds_81 ?_
  refine y_iconst (pc := 84) dX6_findEnds_84 ?_
  refine y_iload (pc := 85) dX6_findEnds_85 rfl ?_
  refine y_imul (pc := 87) dX6_findEnds_87 ?_
  refine y_iconst (pc := 88) dX6_findEnds_88 ?_
  refine y_iadd (pc := 89) dX6_findEnds_89 ?_
  refine y_aload_n (pc := 90) dX6_findEnds_90 rfl ?_
  refine y_iload_n (pc := 91) dX6_findEnds_91 rfl ?_
  refine y_callVi (pc := 92) v_X6_worthsOf l_X6_264 dX6_findEnds_92 (c_X6_worthsOf n _ _) rfl rc_X6 rfl (by decide) (by decide) (Nat.le_of_ble_eq_true rfl) (fun r10 M9 _ => ?_)
  refine y_aload_n (pc := 95) dX6_findEnds_95 rfl ?_
  refine y_iload_n (pc := 96) dX6_findEnds_96 rfl ?_
  refine y_callVi (pc := 97) v_X6_worthsOf l_X6_264 dX6_findEnds_97 (c_X6_worthsOf n _ _) rfl rc_X6 rfl (by decide) (by decide) (Nat.le_of_ble_eq_true rfl) (fun r12 M11 _ => ?_)
  refine y_iconst (pc := 100) dX6_findEnds_100 ?_
  refine y_gd (fun h13 => ?_)
  refine y_idiv (pc := 101) dX6_findEnds_101 h13 (by decide) (by decide) ?_
  refine y_isub (pc := 102) dX6_findEnds_102 ?_
  refine y_gd (fun h14 => ?_)
  refine y_iastw (pc := 103) dX6_findEnds_103 ar_157 h14 (fun M15 => ?_)
  refine y_aload_n (pc := 104) dX6_findEnds_104 rfl ?_
  refine y_callVv (pc := 105) v_X6_forgets l_X6_283 dX6_findEnds_105 (c_X6_forgets n _) rfl rc_X6 rfl (by decide) (by decide) (Nat.le_of_ble_eq_true rfl) (fun _ M16 _ => ?_)
  refine y_iinc (L' := [some (rv 137), some (iv a1), some (iv a2), some (iv a3), some (iv (a4 + 1))]) (pc := 108) dX6_findEnds_108 rfl (by decide) rfl rfl ?_
  refine y_goto (tgt := 3) (pc := 111) dX6_findEnds_111 (by decide) ?_
  exact y_sub (ls_s (ls_s (ls_s (ls_s (ls_s ls_0))))) (hk3 M16 a1 a2 a3 (a4 + 1))
def m_X6_findEnds_33 (n : Nat) (k3 : Mem → Int → Int → Int → Int → Rs) (M : Mem) (a1 : Int) (a2 : Int) (a3 : Int) (a4 : Int) : Rs := if I32 a4 then (if I32 (Int.tmod a4 2) then (if (Int.tmod a4 2) = 1 then (if 0 ≤ a2 ∧ a2 < 5 then (wr M 147 (Int.toNat a2) (rd M 146 (Int.toNat a2)) (fun M21 => m_X6_findEnds_53 n k3 M21 a1 a2 a3 a4)) else none) else (m_X6_findEnds_53 n k3 M a1 a2 a3 a4)) else none) else none
theorem t_X6_findEnds_33 (n : Nat) (k3 : Mem → Int → Int → Int → Int → Rs) (hk3 : ∀ (M : Mem) (a1 : Int) (a2 : Int) (a3 : Int) (a4 : Int), Y RX6 cX6_findEnds 5 8 3 none 3 [some (rv 137), some (iv a1), some (iv a2), some (iv a3), some (iv a4)] [] M (k3 M a1 a2 a3 a4)) (M : Mem) (a1 : Int) (a2 : Int) (a3 : Int) (a4 : Int) : Y RX6 cX6_findEnds 5 8 3 none 33 [some (rv 137), some (iv a1), some (iv a2), some (iv a3), some (iv a4)] [] M (m_X6_findEnds_33 n k3 M a1 a2 a3 a4) := by
  unfold m_X6_findEnds_33
  refine y_iload (pc := 33) dX6_findEnds_33 rfl ?_
  refine y_iconst (pc := 35) dX6_findEnds_35 ?_
  refine y_gd (fun h17 => ?_)
  refine y_irem (pc := 36) dX6_findEnds_36 h17 (by decide) (by decide) ?_
  refine y_iconst (pc := 37) dX6_findEnds_37 ?_
  refine y_gd (fun h18 => ?_)
  refine y_icmp_ne (off := 15) (tgt := 53) (pc := 38) dX6_findEnds_38 (by decide) h18 (by decide) (fun h19 => ?_) (fun h19 => ?_)
  · exact y_sub (ls_s (ls_s (ls_s (ls_s (ls_s ls_0))))) (t_X6_findEnds_53 n k3 hk3 M a1 a2 a3 a4)
  · refine y_aload_n (pc := 41) dX6_findEnds_41 rfl ?_
    refine y_getref (pc := 42) (x := 147) g_X6_40 dX6_findEnds_42 ?_
    refine y_iload_n (pc := 45) dX6_findEnds_45 rfl ?_
    refine y_aload_n (pc := 46) dX6_findEnds_46 rfl ?_
    refine y_getref (pc := 47) (x := 146) g_X6_37 dX6_findEnds_47 ?_
    refine y_iload_n (pc := 50) dX6_findEnds_50 rfl ?_
    refine y_gd (fun h20 => ?_)
    refine y_iald (pc := 51) dX6_findEnds_51 ar_146 h20 ?_
    refine y_iastw (pc := 52) dX6_findEnds_52 ar_147 h20 (fun M21 => ?_)
    exact y_sub (ls_s (ls_s (ls_s (ls_s (ls_s ls_0))))) (t_X6_findEnds_53 n k3 hk3 M21 a1 a2 a3 a4)
def m_X6_findEnds_3 (n : Nat) : Nat → Mem → Int → Int → Int → Int → Rs
  | 0, _, _, _, _, _ => none
  | t + 1, M, a1, a2, a3, a4 => if I32 a4 then (if 4 ≤ a4 then (some (0, M)) else (bd (m_X6_minds n M) (fun _ M24 => if I32 (Int.tdiv a4 2) then (if (Int.tdiv a4 2) = 1 then (if 0 ≤ a1 ∧ a1 < 5 then (wr M24 147 (Int.toNat a1) (rd M24 146 (Int.toNat a1)) (fun M28 => m_X6_findEnds_33 n (m_X6_findEnds_3 n t) M28 a1 a2 a3 a4)) else none) else (m_X6_findEnds_33 n (m_X6_findEnds_3 n t) M24 a1 a2 a3 a4)) else none))) else none
theorem t_X6_findEnds_3 (n : Nat) : ∀ (t : Nat) (M : Mem) (a1 : Int) (a2 : Int) (a3 : Int) (a4 : Int), Y RX6 cX6_findEnds 5 8 3 none 3 [some (rv 137), some (iv a1), some (iv a2), some (iv a3), some (iv a4)] [] M (m_X6_findEnds_3 n t M a1 a2 a3 a4) := by
  intro t
  induction t with
  | zero => intro M a1 a2 a3 a4; exact y_none
  | succ t ih =>
    intro M a1 a2 a3 a4
    rewrite [m_X6_findEnds_3]
    refine y_iload (pc := 3) dX6_findEnds_3 rfl ?_
    refine y_iconst (pc := 5) dX6_findEnds_5 ?_
    refine y_gd (fun h22 => ?_)
    refine y_icmp_ge (off := 108) (tgt := 114) (pc := 6) dX6_findEnds_6 (by decide) h22 (by decide) (fun h23 => ?_) (fun h23 => ?_)
    · exact y_vret (pc := 114) dX6_findEnds_114
    · refine y_aload_n (pc := 9) dX6_findEnds_9 rfl ?_
      refine y_callVv (pc := 10) v_X6_minds l_X6_280 dX6_findEnds_10 (c_X6_minds n _) rfl rc_X6 rfl (by decide) (by decide) (Nat.le_of_ble_eq_true rfl) (fun _ M24 _ => ?_)
      refine y_iload (pc := 13) dX6_findEnds_13 rfl ?_
      refine y_iconst (pc := 15) dX6_findEnds_15 ?_
      refine y_idiv (pc := 16) dX6_findEnds_16 h22 (by decide) (by decide) ?_
      refine y_iconst (pc := 17) dX6_findEnds_17 ?_
      refine y_gd (fun h25 => ?_)
      refine y_icmp_ne (off := 15) (tgt := 33) (pc := 18) dX6_findEnds_18 (by decide) h25 (by decide) (fun h26 => ?_) (fun h26 => ?_)
      · exact y_sub (ls_s (ls_s (ls_s (ls_s (ls_s ls_0))))) (t_X6_findEnds_33 n (m_X6_findEnds_3 n t) ih M24 a1 a2 a3 a4)
      · refine y_aload_n (pc := 21) dX6_findEnds_21 rfl ?_
        refine y_getref (pc := 22) (x := 147) g_X6_40 dX6_findEnds_22 ?_
        refine y_iload_n (pc := 25) dX6_findEnds_25 rfl ?_
        refine y_aload_n (pc := 26) dX6_findEnds_26 rfl ?_
        refine y_getref (pc := 27) (x := 146) g_X6_37 dX6_findEnds_27 ?_
        refine y_iload_n (pc := 30) dX6_findEnds_30 rfl ?_
        refine y_gd (fun h27 => ?_)
        refine y_iald (pc := 31) dX6_findEnds_31 ar_146 h27 ?_
        refine y_iastw (pc := 32) dX6_findEnds_32 ar_147 h27 (fun M28 => ?_)
        exact y_sub (ls_s (ls_s (ls_s (ls_s (ls_s ls_0))))) (t_X6_findEnds_33 n (m_X6_findEnds_3 n t) ih M28 a1 a2 a3 a4)
def m_X6_findEnds (n : Nat) (M : Mem) (a1 : Int) (a2 : Int) (a3 : Int) : Rs := m_X6_findEnds_3 n n M a1 a2 a3 0
theorem y_X6_findEnds (n : Nat) (M : Mem) (a1 : Int) (a2 : Int) (a3 : Int) : Y RX6 cX6_findEnds 5 8 3 none 0 [some (rv 137), some (iv a1), some (iv a2), some (iv a3), none] [] M (m_X6_findEnds n M a1 a2 a3) := by
  unfold m_X6_findEnds
  refine y_iconst (pc := 0) dX6_findEnds_0 ?_
  refine y_istore (L' := [some (rv 137), some (iv a1), some (iv a2), some (iv a3), some (iv 0)]) (pc := 1) dX6_findEnds_1 (by decide) rfl rfl ?_
  exact y_sub (ls_s (ls_s (ls_s (ls_s (ls_s ls_0))))) (t_X6_findEnds_3 n n M a1 a2 a3 0)
theorem c_X6_findEnds (n : Nat) (M : Mem) (a1 : Int) (a2 : Int) (a3 : Int) : ∀ res : Int × Mem, m_X6_findEnds n M a1 a2 a3 = some res → CTv yX6_findEnds cX6_findEnds 5 8 [rv 137, iv a1, iv a2, iv a3] M res := CTv_of (by decide +kernel) rfl (Nat.le_of_ble_eq_true rfl) rfl (y_X6_findEnds n M a1 a2 a3)
