def m_X6_personThen_78 (n : Nat) (M : Mem) (s0 : Int) : Rs := bd (m_X6_forgets n M) (fun _ M1 => some (s0, M1))
theorem t_X6_personThen_78 (n : Nat) (M : Mem) (s0 : Int) : Y RX6 cX6_personThen 6 8 0 none 78 [some (rv 137), none, none, none, none, none] [iv s0] M (m_X6_personThen_78 n M s0) := by
  unfold m_X6_personThen_78
  refine y_istore (L' := [some (rv 137), none, none, none, none, some (iv s0)]) (pc := 78) dX6_personThen_78 (by decide) rfl rfl ?_
  refine y_aload_n (pc := 80) dX6_personThen_80 rfl ?_
  refine y_callVv (pc := 81) v_X6_forgets l_X6_283 dX6_personThen_81 (c_X6_forgets n _) rfl rc_X6 rfl (by decide) (by decide) (Nat.le_of_ble_eq_true rfl) (fun _ M1 _ => ?_)
  refine y_iload (pc := 84) dX6_personThen_84 rfl ?_
  exact y_iret (pc := 86) dX6_personThen_86
def m_X6_personThen_39 (n : Nat) (M : Mem) (a1 : Int) (a2 : Int) (a3 : Int) (a4 : Int) : Rs := if I32 a4 then (if a4 = 0 then (bd (m_X6_minds n M) (fun _ M4 => bd (m_X6_goes n M4 a2) (fun _ M5 => if I32 a3 then (if a3 = 0 then (if 0 ≤ a1 ∧ a1 < 5 then (m_X6_personThen_78 n M5 (rd M5 147 (Int.toNat a1))) else none) else (bd (m_X6_worthsOf n M5 a1) (fun r9 M8 => m_X6_personThen_78 n M8 r9))) else none))) else (bd (m_X6_no n M a4) (fun r12 M11 => some (r12, M11)))) else none
theorem t_X6_personThen_39 (n : Nat) (M : Mem) (a1 : Int) (a2 : Int) (a3 : Int) (a4 : Int) : Y RX6 cX6_personThen 6 8 0 none 39 [some (rv 137), some (iv a1), some (iv a2), some (iv a3), some (iv a4), none] [] M (m_X6_personThen_39 n M a1 a2 a3 a4) := by
  unfold m_X6_personThen_39
  refine y_iload (pc := 39) dX6_personThen_39 rfl ?_
  refine y_gd (fun h2 => ?_)
  refine y_if_eq (off := 10) (tgt := 51) (pc := 41) dX6_personThen_41 (by decide) h2 (fun h3 => ?_) (fun h3 => ?_)
  · refine y_aload_n (pc := 51) dX6_personThen_51 rfl ?_
    refine y_callVv (pc := 52) v_X6_minds l_X6_280 dX6_personThen_52 (c_X6_minds n _) rfl rc_X6 rfl (by decide) (by decide) (Nat.le_of_ble_eq_true rfl) (fun _ M4 _ => ?_)
    refine y_aload_n (pc := 55) dX6_personThen_55 rfl ?_
    refine y_iload_n (pc := 56) dX6_personThen_56 rfl ?_
    refine y_callVv (pc := 57) v_X6_goes l_X6_210 dX6_personThen_57 (c_X6_goes n _ _) rfl rc_X6 rfl (by decide) (by decide) (Nat.le_of_ble_eq_true rfl) (fun _ M5 _ => ?_)
    refine y_iload_n (pc := 60) dX6_personThen_60 rfl ?_
    refine y_gd (fun h6 => ?_)
    refine y_if_ne (off := 12) (tgt := 73) (pc := 61) dX6_personThen_61 (by decide) h6 (fun h7 => ?_) (fun h7 => ?_)
    · refine y_aload_n (pc := 73) dX6_personThen_73 rfl ?_
      refine y_iload_n (pc := 74) dX6_personThen_74 rfl ?_
      refine y_callVi (pc := 75) v_X6_worthsOf l_X6_264 dX6_personThen_75 (c_X6_worthsOf n _ _) rfl rc_X6 rfl (by decide) (by decide) (Nat.le_of_ble_eq_true rfl) (fun r9 M8 _ => ?_)
      exact y_sub (ls_s (ls_n (ls_n (ls_n (ls_n (ls_n ls_0)))))) (t_X6_personThen_78 n M8 r9)
    · refine y_aload_n (pc := 64) dX6_personThen_64 rfl ?_
      refine y_getref (pc := 65) (x := 147) g_X6_40 dX6_personThen_65 ?_
      refine y_iload_n (pc := 68) dX6_personThen_68 rfl ?_
      refine y_gd (fun h10 => ?_)
      refine y_iald (pc := 69) dX6_personThen_69 ar_147 h10 ?_
      refine y_goto (tgt := 78) (pc := 70) dX6_personThen_70 (by decide) ?_
      exact y_sub (ls_s (ls_n (ls_n (ls_n (ls_n (ls_n ls_0)))))) (t_X6_personThen_78 n M5 (rd M5 147 (Int.toNat a1)))
  · refine y_aload_n (pc := 44) dX6_personThen_44 rfl ?_
    refine y_iload (pc := 45) dX6_personThen_45 rfl ?_
    refine y_callVi (pc := 47) v_X6_no l_X6_172 dX6_personThen_47 (c_X6_no n _ _) rfl rc_X6 rfl (by decide) (by decide) (Nat.le_of_ble_eq_true rfl) (fun r12 M11 _ => ?_)
    exact y_iret (pc := 50) dX6_personThen_50
def m_X6_personThen_19 (n : Nat) (M : Mem) (a1 : Int) (a2 : Int) (a3 : Int) (s0 : Int) : Rs := if I32 s0 then (if s0 = 0 then (bd (m_X6_isIn n M a3 0 1) (fun r16 M15 => if I32 r16 then (if r16 = 0 then (m_X6_personThen_39 n M15 a1 a2 a3 (-2)) else (m_X6_personThen_39 n M15 a1 a2 a3 s0)) else none)) else (m_X6_personThen_39 n M a1 a2 a3 s0)) else none
theorem t_X6_personThen_19 (n : Nat) (M : Mem) (a1 : Int) (a2 : Int) (a3 : Int) (s0 : Int) : Y RX6 cX6_personThen 6 8 0 none 19 [some (rv 137), some (iv a1), some (iv a2), some (iv a3), none, none] [iv s0] M (m_X6_personThen_19 n M a1 a2 a3 s0) := by
  unfold m_X6_personThen_19
  refine y_istore (L' := [some (rv 137), some (iv a1), some (iv a2), some (iv a3), some (iv s0), none]) (pc := 19) dX6_personThen_19 (by decide) rfl rfl ?_
  refine y_iload (pc := 21) dX6_personThen_21 rfl ?_
  refine y_gd (fun h13 => ?_)
  refine y_if_ne (off := 16) (tgt := 39) (pc := 23) dX6_personThen_23 (by decide) h13 (fun h14 => ?_) (fun h14 => ?_)
  · exact y_sub (ls_s (ls_s (ls_s (ls_s (ls_s (ls_n ls_0)))))) (t_X6_personThen_39 n M a1 a2 a3 s0)
  · refine y_iload_n (pc := 26) dX6_personThen_26 rfl ?_
    refine y_iconst (pc := 27) dX6_personThen_27 ?_
    refine y_iconst (pc := 28) dX6_personThen_28 ?_
    refine y_callSi (pc := 29) s_X6_isIn l_X6_82 dX6_personThen_29 (c_X6_isIn n _ _ _ _) rfl rfl (by decide) (by decide) (Nat.le_of_ble_eq_true rfl) (fun r16 M15 _ => ?_)
    refine y_gd (fun h17 => ?_)
    refine y_if_ne (off := 7) (tgt := 39) (pc := 32) dX6_personThen_32 (by decide) h17 (fun h18 => ?_) (fun h18 => ?_)
    · exact y_sub (ls_s (ls_s (ls_s (ls_s (ls_s (ls_n ls_0)))))) (t_X6_personThen_39 n M15 a1 a2 a3 s0)
    · refine y_bipush (pc := 35) dX6_personThen_35 (by decide) ?_
      refine y_istore (L' := [some (rv 137), some (iv a1), some (iv a2), some (iv a3), some (iv (-2)), none]) (pc := 37) dX6_personThen_37 (by decide) rfl rfl ?_
      exact y_sub (ls_s (ls_s (ls_s (ls_s (ls_s (ls_n ls_0)))))) (t_X6_personThen_39 n M15 a1 a2 a3 (-2))
def m_X6_personThen (n : Nat) (M : Mem) (a1 : Int) (a2 : Int) (a3 : Int) : Rs := bd (m_X6_isPerson n M a1) (fun r20 M19 => if I32 r20 then (if r20 = 0 then (m_X6_personThen_19 n M19 a1 a2 a3 (-1)) else (bd (m_X6_bound n M19 a2 0 60) (fun r24 M23 => m_X6_personThen_19 n M23 a1 a2 a3 r24))) else none)
theorem y_X6_personThen (n : Nat) (M : Mem) (a1 : Int) (a2 : Int) (a3 : Int) : Y RX6 cX6_personThen 6 8 0 none 0 [some (rv 137), some (iv a1), some (iv a2), some (iv a3), none, none] [] M (m_X6_personThen n M a1 a2 a3) := by
  unfold m_X6_personThen
  refine y_aload_n (pc := 0) dX6_personThen_0 rfl ?_
  refine y_iload_n (pc := 1) dX6_personThen_1 rfl ?_
  refine y_callVi (pc := 2) v_X6_isPerson l_X6_92 dX6_personThen_2 (c_X6_isPerson n _ _) rfl rc_X6 rfl (by decide) (by decide) (Nat.le_of_ble_eq_true rfl) (fun r20 M19 _ => ?_)
  refine y_gd (fun h21 => ?_)
  refine y_if_ne (off := 7) (tgt := 12) (pc := 5) dX6_personThen_5 (by decide) h21 (fun h22 => ?_) (fun h22 => ?_)
  · refine y_iload_n (pc := 12) dX6_personThen_12 rfl ?_
    refine y_iconst (pc := 13) dX6_personThen_13 ?_
    refine y_bipush (pc := 14) dX6_personThen_14 (by decide) ?_
    refine y_callSi (pc := 16) s_X6_bound l_X6_165 dX6_personThen_16 (c_X6_bound n _ _ _ _) rfl rfl (by decide) (by decide) (Nat.le_of_ble_eq_true rfl) (fun r24 M23 _ => ?_)
    exact y_sub (ls_s (ls_s (ls_s (ls_s (ls_n (ls_n ls_0)))))) (t_X6_personThen_19 n M23 a1 a2 a3 r24)
  · refine y_iconst (pc := 8) dX6_personThen_8 ?_
    refine y_goto (tgt := 19) (pc := 9) dX6_personThen_9 (by decide) ?_
    exact y_sub (ls_s (ls_s (ls_s (ls_s (ls_n (ls_n ls_0)))))) (t_X6_personThen_19 n M19 a1 a2 a3 (-1))
theorem c_X6_personThen (n : Nat) (M : Mem) (a1 : Int) (a2 : Int) (a3 : Int) : ∀ res : Int × Mem, m_X6_personThen n M a1 a2 a3 = some res → CTi yX6_personThen cX6_personThen 6 (some .int) 8 [rv 137, iv a1, iv a2, iv a3] M res := CTi_of (by decide +kernel) rfl (Nat.le_of_ble_eq_true rfl) rfl (y_X6_personThen n M a1 a2 a3)
def m_X6_when_71 (n : Nat) (M : Mem) (a3 : Int) : Rs := bd (m_X6_forgets n M) (fun _ M1 => some (a3, M1))
theorem t_X6_when_71 (n : Nat) (M : Mem) (a3 : Int) : Y RX6 cX6_when 5 7 0 none 71 [some (rv 137), none, none, some (iv a3), none] [] M (m_X6_when_71 n M a3) := by
  unfold m_X6_when_71
  refine y_aload_n (pc := 71) dX6_when_71 rfl ?_
  refine y_callVv (pc := 72) v_X6_forgets l_X6_283 dX6_when_72 (c_X6_forgets n _) rfl rc_X6 rfl (by decide) (by decide) (Nat.le_of_ble_eq_true rfl) (fun _ M1 _ => ?_)
  refine y_iload_n (pc := 75) dX6_when_75 rfl ?_
  exact y_iret (pc := 76) dX6_when_76
def m_X6_when_60 (n : Nat) (k32 : Mem → Int → Int → Int → Int → Rs) (M : Mem) (a1 : Int) (a2 : Int) (a4 : Int) (s0 : Int) : Rs := bd (m_X6_goesHour n M) (fun _ M2 => k32 M2 a1 a2 s0 (a4 + 1))
theorem t_X6_when_60 (n : Nat) (k32 : Mem → Int → Int → Int → Int → Rs) (hk32 : ∀ (M : Mem) (a1 : Int) (a2 : Int) (a3 : Int) (a4 : Int), Y RX6 cX6_when 5 7 0 none 32 [some (rv 137), some (iv a1), some (iv a2), some (iv a3), some (iv a4)] [] M (k32 M a1 a2 a3 a4)) (M : Mem) (a1 : Int) (a2 : Int) (a4 : Int) (s0 : Int) : Y RX6 cX6_when 5 7 0 none 60 [some (rv 137), some (iv a1), some (iv a2), none, some (iv a4)] [iv s0] M (m_X6_when_60 n k32 M a1 a2 a4 s0) := by
  unfold m_X6_when_60
  refine y_istore_n (L' := [some (rv 137), some (iv a1), some (iv a2), some (iv s0), some (iv a4)]) (pc := 60) dX6_when_60 (by decide) rfl rfl ?_
  refine y_aload_n (pc := 61) dX6_when_61 rfl ?_
  refine y_callVv (pc := 62) v_X6_goesHour l_X6_162 dX6_when_62 (c_X6_goesHour n _) rfl rc_X6 rfl (by decide) (by decide) (Nat.le_of_ble_eq_true rfl) (fun _ M2 _ => ?_)
  refine y_iinc (L' := [some (rv 137), some (iv a1), some (iv a2), some (iv s0), some (iv (a4 + 1))]) (pc := 65) dX6_when_65 rfl (by decide) rfl rfl ?_
  refine y_goto (tgt := 32) (pc := 68) dX6_when_68 (by decide) ?_
  exact y_sub (ls_s (ls_s (ls_s (ls_s (ls_s ls_0))))) (hk32 M2 a1 a2 s0 (a4 + 1))
def m_X6_when_32 (n : Nat) : Nat → Mem → Int → Int → Int → Int → Rs
  | 0, _, _, _, _, _ => none
  | t + 1, M, a1, a2, a3, a4 => if I32 a4 then (if 60 < a4 then (m_X6_when_71 n M a3) else (if I32 a3 then (if 0 ≤ a3 then (m_X6_when_71 n M a3) else (if 0 ≤ a2 ∧ a2 < 8 then (if I32 a1 then (if (rd M 143 (Int.toNat a2)) = a1 then (m_X6_when_60 n (m_X6_when_32 n t) M a1 a2 a4 a4) else (m_X6_when_60 n (m_X6_when_32 n t) M a1 a2 a4 (-9))) else none) else none)) else none)) else none
theorem t_X6_when_32 (n : Nat) : ∀ (t : Nat) (M : Mem) (a1 : Int) (a2 : Int) (a3 : Int) (a4 : Int), Y RX6 cX6_when 5 7 0 none 32 [some (rv 137), some (iv a1), some (iv a2), some (iv a3), some (iv a4)] [] M (m_X6_when_32 n t M a1 a2 a3 a4) := by
  intro t
  induction t with
  | zero => intro M a1 a2 a3 a4; exact y_none
  | succ t ih =>
    intro M a1 a2 a3 a4
    rewrite [m_X6_when_32]
    refine y_iload (pc := 32) dX6_when_32 rfl ?_
    refine y_bipush (pc := 34) dX6_when_34 (by decide) ?_
    refine y_gd (fun h3 => ?_)
    refine y_icmp_gt (off := 35) (tgt := 71) (pc := 36) dX6_when_36 (by decide) h3 (by decide) (fun h4 => ?_) (fun h4 => ?_)
    · exact y_sub (ls_s (ls_n (ls_n (ls_s (ls_n ls_0))))) (t_X6_when_71 n M a3)
    · refine y_iload_n (pc := 39) dX6_when_39 rfl ?_
      refine y_gd (fun h5 => ?_)
      refine y_if_ge (off := 31) (tgt := 71) (pc := 40) dX6_when_40 (by decide) h5 (fun h6 => ?_) (fun h6 => ?_)
      · exact y_sub (ls_s (ls_n (ls_n (ls_s (ls_n ls_0))))) (t_X6_when_71 n M a3)
      · refine y_aload_n (pc := 43) dX6_when_43 rfl ?_
        refine y_getref (pc := 44) (x := 143) g_X6_28 dX6_when_44 ?_
        refine y_iload_n (pc := 47) dX6_when_47 rfl ?_
        refine y_gd (fun h7 => ?_)
        refine y_iald (pc := 48) dX6_when_48 ar_143 h7 ?_
        refine y_iload_n (pc := 49) dX6_when_49 rfl ?_
        refine y_gd (fun h8 => ?_)
        refine y_icmp_ne (off := 8) (tgt := 58) (pc := 50) dX6_when_50 (by decide) (rd_rng _ _ _) h8 (fun h9 => ?_) (fun h9 => ?_)
        · refine y_bipush (pc := 58) dX6_when_58 (by decide) ?_
          exact y_sub (ls_s (ls_s (ls_s (ls_n (ls_s ls_0))))) (t_X6_when_60 n (m_X6_when_32 n t) ih M a1 a2 a4 (-9))
        · refine y_iload (pc := 53) dX6_when_53 rfl ?_
          refine y_goto (tgt := 60) (pc := 55) dX6_when_55 (by decide) ?_
          exact y_sub (ls_s (ls_s (ls_s (ls_n (ls_s ls_0))))) (t_X6_when_60 n (m_X6_when_32 n t) ih M a1 a2 a4 a4)
def m_X6_when_16 (n : Nat) (M : Mem) : Rs := bd (m_X6_no n M (-1)) (fun r11 M10 => some (r11, M10))
theorem t_X6_when_16 (n : Nat) (M : Mem) : Y RX6 cX6_when 5 7 0 none 16 [some (rv 137), none, none, none, none] [] M (m_X6_when_16 n M) := by
  unfold m_X6_when_16
  refine y_aload_n (pc := 16) dX6_when_16 rfl ?_
  refine y_iconst (pc := 17) dX6_when_17 ?_
  refine y_callVi (pc := 18) v_X6_no l_X6_172 dX6_when_18 (c_X6_no n _ _) rfl rc_X6 rfl (by decide) (by decide) (Nat.le_of_ble_eq_true rfl) (fun r11 M10 _ => ?_)
  exact y_iret (pc := 21) dX6_when_21
def m_X6_when (n : Nat) (M : Mem) (a1 : Int) (a2 : Int) : Rs := bd (m_X6_isPerson n M a1) (fun r13 M12 => if I32 r13 then (if r13 = 0 then (m_X6_when_16 n M12) else (bd (m_X6_isThing n M12 a2) (fun r17 M16 => if I32 r17 then (if r17 = 0 then (m_X6_when_16 n M16) else (bd (m_X6_minds n M16) (fun _ M20 => m_X6_when_32 n n M20 a1 a2 (-9) 0))) else none))) else none)
theorem y_X6_when (n : Nat) (M : Mem) (a1 : Int) (a2 : Int) : Y RX6 cX6_when 5 7 0 none 0 [some (rv 137), some (iv a1), some (iv a2), none, none] [] M (m_X6_when n M a1 a2) := by
  unfold m_X6_when
  refine y_aload_n (pc := 0) dX6_when_0 rfl ?_
  refine y_iload_n (pc := 1) dX6_when_1 rfl ?_
  refine y_callVi (pc := 2) v_X6_isPerson l_X6_92 dX6_when_2 (c_X6_isPerson n _ _) rfl rc_X6 rfl (by decide) (by decide) (Nat.le_of_ble_eq_true rfl) (fun r13 M12 _ => ?_)
  refine y_gd (fun h14 => ?_)
  refine y_if_eq (off := 11) (tgt := 16) (pc := 5) dX6_when_5 (by decide) h14 (fun h15 => ?_) (fun h15 => ?_)
  · exact y_sub (ls_s (ls_n (ls_n (ls_n (ls_n ls_0))))) (t_X6_when_16 n M12)
  · refine y_aload_n (pc := 8) dX6_when_8 rfl ?_
    refine y_iload_n (pc := 9) dX6_when_9 rfl ?_
    refine y_callVi (pc := 10) v_X6_isThing l_X6_207 dX6_when_10 (c_X6_isThing n _ _) rfl rc_X6 rfl (by decide) (by decide) (Nat.le_of_ble_eq_true rfl) (fun r17 M16 _ => ?_)
    refine y_gd (fun h18 => ?_)
    refine y_if_ne (off := 9) (tgt := 22) (pc := 13) dX6_when_13 (by decide) h18 (fun h19 => ?_) (fun h19 => ?_)
    · refine y_bipush (pc := 22) dX6_when_22 (by decide) ?_
      refine y_istore_n (L' := [some (rv 137), some (iv a1), some (iv a2), some (iv (-9)), none]) (pc := 24) dX6_when_24 (by decide) rfl rfl ?_
      refine y_aload_n (pc := 25) dX6_when_25 rfl ?_
      refine y_callVv (pc := 26) v_X6_minds l_X6_280 dX6_when_26 (c_X6_minds n _) rfl rc_X6 rfl (by decide) (by decide) (Nat.le_of_ble_eq_true rfl) (fun _ M20 _ => ?_)
      refine y_iconst (pc := 29) dX6_when_29 ?_
      refine y_istore (L' := [some (rv 137), some (iv a1), some (iv a2), some (iv (-9)), some (iv 0)]) (pc := 30) dX6_when_30 (by decide) rfl rfl ?_
      exact y_sub (ls_s (ls_s (ls_s (ls_s (ls_s ls_0))))) (t_X6_when_32 n n M20 a1 a2 (-9) 0)
    · exact y_sub (ls_s (ls_n (ls_n (ls_n (ls_n ls_0))))) (t_X6_when_16 n M16)
theorem c_X6_when (n : Nat) (M : Mem) (a1 : Int) (a2 : Int) : ∀ res : Int × Mem, m_X6_when n M a1 a2 = some res → CTi yX6_when cX6_when 5 (some .int) 7 [rv 137, iv a1, iv a2] M res := CTi_of (by decide +kernel) rfl (Nat.le_of_ble_eq_true rfl) rfl (y_X6_when n M a1 a2)
def m_X6_first_48 (n : Nat) : Nat → Mem → Int → Int → Rs
  | 0, _, _, _ => none
  | t + 1, M, a2, a3 => if I32 a3 then (if (rd M 137 7) ≤ a3 then (some ((-9), M)) else (bd (m_X6_has n M a2 a3) (fun r4 M3 => if I32 r4 then (if r4 = 0 then ((m_X6_first_48 n t) M3 a2 (a3 + 1)) else (some (a3, M3))) else none))) else none
theorem t_X6_first_48 (n : Nat) : ∀ (t : Nat) (M : Mem) (a2 : Int) (a3 : Int), Y RX6 cX6_first 4 7 0 none 48 [some (rv 137), none, some (iv a2), some (iv a3)] [] M (m_X6_first_48 n t M a2 a3) := by
  intro t
  induction t with
  | zero => intro M a2 a3; exact y_none
  | succ t ih =>
    intro M a2 a3
    rewrite [m_X6_first_48]
    refine y_iload_n (pc := 48) dX6_first_48 rfl ?_
    refine y_aload_n (pc := 49) dX6_first_49 rfl ?_
    refine y_getint (pc := 50) g_X6_86 dX6_first_50 ?_
    refine y_gd (fun h1 => ?_)
    refine y_icmp_ge (off := 19) (tgt := 72) (pc := 53) dX6_first_53 (by decide) h1 (rd_rng _ _ _) (fun h2 => ?_) (fun h2 => ?_)
    · refine y_bipush (pc := 72) dX6_first_72 (by decide) ?_
      exact y_iret (pc := 74) dX6_first_74
    · refine y_iload_n (pc := 56) dX6_first_56 rfl ?_
      refine y_iload_n (pc := 57) dX6_first_57 rfl ?_
      refine y_callSi (pc := 58) s_X6_has l_X6_292 dX6_first_58 (c_X6_has n _ _ _) rfl rfl (by decide) (by decide) (Nat.le_of_ble_eq_true rfl) (fun r4 M3 _ => ?_)
      refine y_gd (fun h5 => ?_)
      refine y_if_eq (off := 5) (tgt := 66) (pc := 61) dX6_first_61 (by decide) h5 (fun h6 => ?_) (fun h6 => ?_)
      · refine y_iinc (L' := [some (rv 137), none, some (iv a2), some (iv (a3 + 1))]) (pc := 66) dX6_first_66 rfl (by decide) rfl rfl ?_
        refine y_goto (tgt := 48) (pc := 69) dX6_first_69 (by decide) ?_
        exact y_sub (ls_s (ls_n (ls_s (ls_s ls_0)))) (ih M3 a2 (a3 + 1))
      · refine y_iload_n (pc := 64) dX6_first_64 rfl ?_
        exact y_iret (pc := 65) dX6_first_65
def m_X6_first_42 (n : Nat) (M : Mem) (a2 : Int) : Rs := bd (m_X6_forgets n M) (fun _ M7 => m_X6_first_48 n n M7 a2 0)
theorem t_X6_first_42 (n : Nat) (M : Mem) (a2 : Int) : Y RX6 cX6_first 4 7 0 none 42 [some (rv 137), none, some (iv a2), none] [] M (m_X6_first_42 n M a2) := by
  unfold m_X6_first_42
  refine y_aload_n (pc := 42) dX6_first_42 rfl ?_
  refine y_callVv (pc := 43) v_X6_forgets l_X6_283 dX6_first_43 (c_X6_forgets n _) rfl rc_X6 rfl (by decide) (by decide) (Nat.le_of_ble_eq_true rfl) (fun _ M7 _ => ?_)
  refine y_iconst (pc := 46) dX6_first_46 ?_
  refine y_istore_n (L' := [some (rv 137), none, some (iv a2), some (iv 0)]) (pc := 47) dX6_first_47 (by decide) rfl rfl ?_
  exact y_sub (ls_s (ls_n (ls_s (ls_s ls_0)))) (t_X6_first_48 n n M7 a2 0)
def m_X6_first_13 (n : Nat) : Nat → Mem → Int → Int → Int → Rs
  | 0, _, _, _, _ => none
  | t + 1, M, a1, a2, a3 => if I32 a3 then (if 60 ≤ a3 then (m_X6_first_42 n M a2) else (if I32 a2 then (if a2 = 0 then (bd (m_X6_goesHour n M) (fun _ M12 => bd (m_X6_dropped n M12) (fun r14 M13 => lt (bAnd a1 (bXor r14 (-1))) (fun x15 => (m_X6_first_13 n t) M13 a1 x15 (a3 + 1))))) else (m_X6_first_42 n M a2)) else none)) else none
theorem t_X6_first_13 (n : Nat) : ∀ (t : Nat) (M : Mem) (a1 : Int) (a2 : Int) (a3 : Int), Y RX6 cX6_first 4 7 0 none 13 [some (rv 137), some (iv a1), some (iv a2), some (iv a3)] [] M (m_X6_first_13 n t M a1 a2 a3) := by
  intro t
  induction t with
  | zero => intro M a1 a2 a3; exact y_none
  | succ t ih =>
    intro M a1 a2 a3
    rewrite [m_X6_first_13]
    refine y_iload_n (pc := 13) dX6_first_13 rfl ?_
    refine y_bipush (pc := 14) dX6_first_14 (by decide) ?_
    refine y_gd (fun h8 => ?_)
    refine y_icmp_ge (off := 26) (tgt := 42) (pc := 16) dX6_first_16 (by decide) h8 (by decide) (fun h9 => ?_) (fun h9 => ?_)
    · exact y_sub (ls_s (ls_n (ls_s (ls_n ls_0)))) (t_X6_first_42 n M a2)
    · refine y_iload_n (pc := 19) dX6_first_19 rfl ?_
      refine y_gd (fun h10 => ?_)
      refine y_if_ne (off := 22) (tgt := 42) (pc := 20) dX6_first_20 (by decide) h10 (fun h11 => ?_) (fun h11 => ?_)
      · exact y_sub (ls_s (ls_n (ls_s (ls_n ls_0)))) (t_X6_first_42 n M a2)
      · refine y_aload_n (pc := 23) dX6_first_23 rfl ?_
        refine y_callVv (pc := 24) v_X6_goesHour l_X6_162 dX6_first_24 (c_X6_goesHour n _) rfl rc_X6 rfl (by decide) (by decide) (Nat.le_of_ble_eq_true rfl) (fun _ M12 _ => ?_)
        refine y_iload_n (pc := 27) dX6_first_27 rfl ?_
        refine y_aload_n (pc := 28) dX6_first_28 rfl ?_
        refine y_callVi (pc := 29) v_X6_dropped l_X6_289 dX6_first_29 (c_X6_dropped n _) rfl rc_X6 rfl (by decide) (by decide) (Nat.le_of_ble_eq_true rfl) (fun r14 M13 _ => ?_)
        refine y_iconst (pc := 32) dX6_first_32 ?_
        refine y_ixor (pc := 33) dX6_first_33 ?_
        refine y_iand (pc := 34) dX6_first_34 ?_
        refine y_leti (fun x15 => ?_)
        refine y_istore_n (L' := [some (rv 137), some (iv a1), some (iv x15), some (iv a3)]) (pc := 35) dX6_first_35 (by decide) rfl rfl ?_
        refine y_iinc (L' := [some (rv 137), some (iv a1), some (iv x15), some (iv (a3 + 1))]) (pc := 36) dX6_first_36 rfl (by decide) rfl rfl ?_
        refine y_goto (tgt := 13) (pc := 39) dX6_first_39 (by decide) ?_
        exact y_sub (ls_s (ls_s (ls_s (ls_s ls_0)))) (ih M13 a1 x15 (a3 + 1))
def m_X6_first (n : Nat) (M : Mem) : Rs := bd (m_X6_dropped n M) (fun r17 M16 => bd (m_X6_minds n M16) (fun _ M18 => m_X6_first_13 n n M18 r17 0 0))
theorem y_X6_first (n : Nat) (M : Mem) : Y RX6 cX6_first 4 7 0 none 0 [some (rv 137), none, none, none] [] M (m_X6_first n M) := by
  unfold m_X6_first
  refine y_aload_n (pc := 0) dX6_first_0 rfl ?_
  refine y_callVi (pc := 1) v_X6_dropped l_X6_289 dX6_first_1 (c_X6_dropped n _) rfl rc_X6 rfl (by decide) (by decide) (Nat.le_of_ble_eq_true rfl) (fun r17 M16 _ => ?_)
  refine y_istore_n (L' := [some (rv 137), some (iv r17), none, none]) (pc := 4) dX6_first_4 (by decide) rfl rfl ?_
  refine y_iconst (pc := 5) dX6_first_5 ?_
  refine y_istore_n (L' := [some (rv 137), some (iv r17), some (iv 0), none]) (pc := 6) dX6_first_6 (by decide) rfl rfl ?_
  refine y_aload_n (pc := 7) dX6_first_7 rfl ?_
  refine y_callVv (pc := 8) v_X6_minds l_X6_280 dX6_first_8 (c_X6_minds n _) rfl rc_X6 rfl (by decide) (by decide) (Nat.le_of_ble_eq_true rfl) (fun _ M18 _ => ?_)
  refine y_iconst (pc := 11) dX6_first_11 ?_
  refine y_istore_n (L' := [some (rv 137), some (iv r17), some (iv 0), some (iv 0)]) (pc := 12) dX6_first_12 (by decide) rfl rfl ?_
  exact y_sub (ls_s (ls_s (ls_s (ls_s ls_0)))) (t_X6_first_13 n n M18 r17 0 0)
theorem c_X6_first (n : Nat) (M : Mem) : ∀ res : Int × Mem, m_X6_first n M = some res → CTi yX6_first cX6_first 4 (some .int) 7 [rv 137] M res := CTi_of (by decide +kernel) rfl (Nat.le_of_ble_eq_true rfl) rfl (y_X6_first n M)
def m_X6_clears_57 (n : Nat) (M : Mem) (a2 : Int) : Rs := bd (m_X6_forgets n M) (fun _ M1 => some (a2, M1))
theorem t_X6_clears_57 (n : Nat) (M : Mem) (a2 : Int) : Y RX6 cX6_clears 4 7 0 none 57 [some (rv 137), none, some (iv a2), none] [] M (m_X6_clears_57 n M a2) := by
  unfold m_X6_clears_57
  refine y_aload_n (pc := 57) dX6_clears_57 rfl ?_
  refine y_callVv (pc := 58) v_X6_forgets l_X6_283 dX6_clears_58 (c_X6_forgets n _) rfl rc_X6 rfl (by decide) (by decide) (Nat.le_of_ble_eq_true rfl) (fun _ M1 _ => ?_)
  refine y_iload_n (pc := 61) dX6_clears_61 rfl ?_
  exact y_iret (pc := 62) dX6_clears_62
def m_X6_clears_46 (n : Nat) (k22 : Mem → Int → Int → Int → Rs) (M : Mem) (a1 : Int) (a3 : Int) (s0 : Int) : Rs := bd (m_X6_goesHour n M) (fun _ M2 => k22 M2 a1 s0 (a3 + 1))
theorem t_X6_clears_46 (n : Nat) (k22 : Mem → Int → Int → Int → Rs) (hk22 : ∀ (M : Mem) (a1 : Int) (a2 : Int) (a3 : Int), Y RX6 cX6_clears 4 7 0 none 22 [some (rv 137), some (iv a1), some (iv a2), some (iv a3)] [] M (k22 M a1 a2 a3)) (M : Mem) (a1 : Int) (a3 : Int) (s0 : Int) : Y RX6 cX6_clears 4 7 0 none 46 [some (rv 137), some (iv a1), none, some (iv a3)] [iv s0] M (m_X6_clears_46 n k22 M a1 a3 s0) := by
  unfold m_X6_clears_46
  refine y_istore_n (L' := [some (rv 137), some (iv a1), some (iv s0), some (iv a3)]) (pc := 46) dX6_clears_46 (by decide) rfl rfl ?_
  refine y_aload_n (pc := 47) dX6_clears_47 rfl ?_
  refine y_callVv (pc := 48) v_X6_goesHour l_X6_162 dX6_clears_48 (c_X6_goesHour n _) rfl rc_X6 rfl (by decide) (by decide) (Nat.le_of_ble_eq_true rfl) (fun _ M2 _ => ?_)
  refine y_iinc (L' := [some (rv 137), some (iv a1), some (iv s0), some (iv (a3 + 1))]) (pc := 51) dX6_clears_51 rfl (by decide) rfl rfl ?_
  refine y_goto (tgt := 22) (pc := 54) dX6_clears_54 (by decide) ?_
  exact y_sub (ls_s (ls_s (ls_s (ls_s ls_0)))) (hk22 M2 a1 s0 (a3 + 1))
def m_X6_clears_22 (n : Nat) : Nat → Mem → Int → Int → Int → Rs
  | 0, _, _, _, _ => none
  | t + 1, M, a1, a2, a3 => if I32 a3 then (if 60 < a3 then (m_X6_clears_57 n M a2) else (if I32 a2 then (if 0 ≤ a2 then (m_X6_clears_57 n M a2) else (bd (m_X6_isFoggy n M a1) (fun r8 M7 => if I32 r8 then (if r8 = 0 then (m_X6_clears_46 n (m_X6_clears_22 n t) M7 a1 a3 a3) else (m_X6_clears_46 n (m_X6_clears_22 n t) M7 a1 a3 (-9))) else none))) else none)) else none
theorem t_X6_clears_22 (n : Nat) : ∀ (t : Nat) (M : Mem) (a1 : Int) (a2 : Int) (a3 : Int), Y RX6 cX6_clears 4 7 0 none 22 [some (rv 137), some (iv a1), some (iv a2), some (iv a3)] [] M (m_X6_clears_22 n t M a1 a2 a3) := by
  intro t
  induction t with
  | zero => intro M a1 a2 a3; exact y_none
  | succ t ih =>
    intro M a1 a2 a3
    rewrite [m_X6_clears_22]
    refine y_iload_n (pc := 22) dX6_clears_22 rfl ?_
    refine y_bipush (pc := 23) dX6_clears_23 (by decide) ?_
    refine y_gd (fun h3 => ?_)
    refine y_icmp_gt (off := 32) (tgt := 57) (pc := 25) dX6_clears_25 (by decide) h3 (by decide) (fun h4 => ?_) (fun h4 => ?_)
    · exact y_sub (ls_s (ls_n (ls_s (ls_n ls_0)))) (t_X6_clears_57 n M a2)
    · refine y_iload_n (pc := 28) dX6_clears_28 rfl ?_
      refine y_gd (fun h5 => ?_)
      refine y_if_ge (off := 28) (tgt := 57) (pc := 29) dX6_clears_29 (by decide) h5 (fun h6 => ?_) (fun h6 => ?_)
      · exact y_sub (ls_s (ls_n (ls_s (ls_n ls_0)))) (t_X6_clears_57 n M a2)
      · refine y_aload_n (pc := 32) dX6_clears_32 rfl ?_
        refine y_iload_n (pc := 33) dX6_clears_33 rfl ?_
        refine y_callVi (pc := 34) v_X6_isFoggy l_X6_127 dX6_clears_34 (c_X6_isFoggy n _ _) rfl rc_X6 rfl (by decide) (by decide) (Nat.le_of_ble_eq_true rfl) (fun r8 M7 _ => ?_)
        refine y_gd (fun h9 => ?_)
        refine y_if_eq (off := 8) (tgt := 45) (pc := 37) dX6_clears_37 (by decide) h9 (fun h10 => ?_) (fun h10 => ?_)
        · refine y_iload_n (pc := 45) dX6_clears_45 rfl ?_
          exact y_sub (ls_s (ls_s (ls_n (ls_s ls_0)))) (t_X6_clears_46 n (m_X6_clears_22 n t) ih M7 a1 a3 a3)
        · refine y_bipush (pc := 40) dX6_clears_40 (by decide) ?_
          refine y_goto (tgt := 46) (pc := 42) dX6_clears_42 (by decide) ?_
          exact y_sub (ls_s (ls_s (ls_n (ls_s ls_0)))) (t_X6_clears_46 n (m_X6_clears_22 n t) ih M7 a1 a3 (-9))
def m_X6_clears (n : Nat) (M : Mem) (a1 : Int) : Rs := bd (m_X6_isCell n M a1) (fun r12 M11 => if I32 r12 then (if r12 = 0 then (bd (m_X6_no n M11 (-1)) (fun r17 M16 => some (r17, M16))) else (bd (m_X6_minds n M11) (fun _ M15 => m_X6_clears_22 n n M15 a1 (-9) 0))) else none)
theorem y_X6_clears (n : Nat) (M : Mem) (a1 : Int) : Y RX6 cX6_clears 4 7 0 none 0 [some (rv 137), some (iv a1), none, none] [] M (m_X6_clears n M a1) := by
  unfold m_X6_clears
  refine y_iload_n (pc := 0) dX6_clears_0 rfl ?_
  refine y_callSi (pc := 1) s_X6_isCell l_X6_198 dX6_clears_1 (c_X6_isCell n _ _) rfl rfl (by decide) (by decide) (Nat.le_of_ble_eq_true rfl) (fun r12 M11 _ => ?_)
  refine y_gd (fun h13 => ?_)
  refine y_if_ne (off := 9) (tgt := 13) (pc := 4) dX6_clears_4 (by decide) h13 (fun h14 => ?_) (fun h14 => ?_)
  · refine y_bipush (pc := 13) dX6_clears_13 (by decide) ?_
    refine y_istore_n (L' := [some (rv 137), some (iv a1), some (iv (-9)), none]) (pc := 15) dX6_clears_15 (by decide) rfl rfl ?_
    refine y_aload_n (pc := 16) dX6_clears_16 rfl ?_
    refine y_callVv (pc := 17) v_X6_minds l_X6_280 dX6_clears_17 (c_X6_minds n _) rfl rc_X6 rfl (by decide) (by decide) (Nat.le_of_ble_eq_true rfl) (fun _ M15 _ => ?_)
    refine y_iconst (pc := 20) dX6_clears_20 ?_
    refine y_istore_n (L' := [some (rv 137), some (iv a1), some (iv (-9)), some (iv 0)]) (pc := 21) dX6_clears_21 (by decide) rfl rfl ?_
    exact y_sub (ls_s (ls_s (ls_s (ls_s ls_0)))) (t_X6_clears_22 n n M15 a1 (-9) 0)
  · refine y_aload_n (pc := 7) dX6_clears_7 rfl ?_
    refine y_iconst (pc := 8) dX6_clears_8 ?_
    refine y_callVi (pc := 9) v_X6_no l_X6_172 dX6_clears_9 (c_X6_no n _ _) rfl rc_X6 rfl (by decide) (by decide) (Nat.le_of_ble_eq_true rfl) (fun r17 M16 _ => ?_)
    exact y_iret (pc := 12) dX6_clears_12
theorem c_X6_clears (n : Nat) (M : Mem) (a1 : Int) : ∀ res : Int × Mem, m_X6_clears n M a1 = some res → CTi yX6_clears cX6_clears 4 (some .int) 7 [rv 137, iv a1] M res := CTi_of (by decide +kernel) rfl (Nat.le_of_ble_eq_true rfl) rfl (y_X6_clears n M a1)
def m_X6_stand_62 (n : Nat) : Nat → Mem → Int → Int → Int → Int → Int → Int → Rs
  | 0, _, _, _, _, _, _, _ => none
  | t + 1, M, a1, a2, a3, a5, a6, a7 => if I32 a7 then (if 24 ≤ a7 then (if I32 a3 then (if a3 = 0 then (some (a5, M)) else (some (a6, M))) else none) else (bd (m_X6_minds n M) (fun _ M5 => if 0 ≤ a1 ∧ a1 < 5 then (wr M5 147 (Int.toNat a1) a7 (fun M7 => bd (m_X6_goes n M7 a2) (fun _ M8 => bd (m_X6_worthsOf n M8 a1) (fun r10 M9 => bd (m_X6_forgets n M9) (fun _ M11 => if I32 r10 then (if I32 a6 then (if a6 < r10 then ((m_X6_stand_62 n t) M11 a1 a2 a3 a7 r10 (a7 + 1)) else ((m_X6_stand_62 n t) M11 a1 a2 a3 a5 a6 (a7 + 1))) else none) else none))))) else none))) else none
theorem t_X6_stand_62 (n : Nat) : ∀ (t : Nat) (M : Mem) (a1 : Int) (a2 : Int) (a3 : Int) (a5 : Int) (a6 : Int) (a7 : Int), Y RX6 cX6_stand 9 8 0 none 62 [some (rv 137), some (iv a1), some (iv a2), some (iv a3), none, some (iv a5), some (iv a6), some (iv a7), none] [] M (m_X6_stand_62 n t M a1 a2 a3 a5 a6 a7) := by
  intro t
  induction t with
  | zero => intro M a1 a2 a3 a5 a6 a7; exact y_none
  | succ t ih =>
    intro M a1 a2 a3 a5 a6 a7
    rewrite [m_X6_stand_62]
    refine y_iload (pc := 62) dX6_stand_62 rfl ?_
    refine y_bipush (pc := 64) dX6_stand_64 (by decide) ?_
    refine y_gd (fun h1 => ?_)
    refine y_icmp_ge (off := 55) (tgt := 121) (pc := 66) dX6_stand_66 (by decide) h1 (by decide) (fun h2 => ?_) (fun h2 => ?_)
    · refine y_iload_n (pc := 121) dX6_stand_121 rfl ?_
      refine y_gd (fun h3 => ?_)
      refine y_if_ne (off := 8) (tgt := 130) (pc := 122) dX6_stand_122 (by decide) h3 (fun h4 => ?_) (fun h4 => ?_)
      · refine y_iload (pc := 130) dX6_stand_130 rfl ?_
        exact y_iret (pc := 132) dX6_stand_132
      · refine y_iload (pc := 125) dX6_stand_125 rfl ?_
        refine y_goto (tgt := 132) (pc := 127) dX6_stand_127 (by decide) ?_
        exact y_iret (pc := 132) dX6_stand_132
    · refine y_aload_n (pc := 69) dX6_stand_69 rfl ?_
      refine y_callVv (pc := 70) v_X6_minds l_X6_280 dX6_stand_70 (c_X6_minds n _) rfl rc_X6 rfl (by decide) (by decide) (Nat.le_of_ble_eq_true rfl) (fun _ M5 _ => ?_)
      refine y_aload_n (pc := 73) dX6_stand_73 rfl ?_
      refine y_getref (pc := 74) (x := 147) g_X6_40 dX6_stand_74 ?_
      refine y_iload_n (pc := 77) dX6_stand_77 rfl ?_
      refine y_iload (pc := 78) dX6_stand_78 rfl ?_
      refine y_gd (fun h6 => ?_)
      refine y_iastw (pc := 80) dX6_stand_80 ar_147 h6 (fun M7 => ?_)
      refine y_aload_n (pc := 81) dX6_stand_81 rfl ?_
      refine y_iload_n (pc := 82) dX6_stand_82 rfl ?_
      refine y_callVv (pc := 83) v_X6_goes l_X6_210 dX6_stand_83 (c_X6_goes n _ _) rfl rc_X6 rfl (by decide) (by decide) (Nat.le_of_ble_eq_true rfl) (fun _ M8 _ => ?_)
      refine y_aload_n (pc := 86) dX6_stand_86 rfl ?_
      refine y_iload_n (pc := 87) dX6_stand_87 rfl ?_
      refine y_callVi (pc := 88) v_X6_worthsOf l_X6_264 dX6_stand_88 (c_X6_worthsOf n _ _) rfl rc_X6 rfl (by decide) (by decide) (Nat.le_of_ble_eq_true rfl) (fun r10 M9 _ => ?_)
      refine y_istore (L' := [some (rv 137), some (iv a1), some (iv a2), some (iv a3), none, some (iv a5), some (iv a6), some (iv a7), some (iv r10)]) (pc := 91) dX6_stand_91 (by decide) rfl rfl ?_
      refine y_aload_n (pc := 93) dX6_stand_93 rfl ?_
      refine y_callVv (pc := 94) v_X6_forgets l_X6_283 dX6_stand_94 (c_X6_forgets n _) rfl rc_X6 rfl (by decide) (by decide) (Nat.le_of_ble_eq_true rfl) (fun _ M11 _ => ?_)
      refine y_iload (pc := 97) dX6_stand_97 rfl ?_
      refine y_iload (pc := 99) dX6_stand_99 rfl ?_
      refine y_gd (fun h12 => ?_)
      refine y_gd (fun h13 => ?_)
      refine y_icmp_gt (off := 6) (tgt := 107) (pc := 101) dX6_stand_101 (by decide) h12 h13 (fun h14 => ?_) (fun h14 => ?_)
      · refine y_iload (pc := 107) dX6_stand_107 rfl ?_
        refine y_istore (L' := [some (rv 137), some (iv a1), some (iv a2), some (iv a3), none, some (iv a7), some (iv a6), some (iv a7), some (iv r10)]) (pc := 109) dX6_stand_109 (by decide) rfl rfl ?_
        refine y_iload (pc := 111) dX6_stand_111 rfl ?_
        refine y_istore (L' := [some (rv 137), some (iv a1), some (iv a2), some (iv a3), none, some (iv a7), some (iv r10), some (iv a7), some (iv r10)]) (pc := 113) dX6_stand_113 (by decide) rfl rfl ?_
        refine y_iinc (L' := [some (rv 137), some (iv a1), some (iv a2), some (iv a3), none, some (iv a7), some (iv r10), some (iv (a7 + 1)), some (iv r10)]) (pc := 115) dX6_stand_115 rfl (by decide) rfl rfl ?_
        refine y_goto (tgt := 62) (pc := 118) dX6_stand_118 (by decide) ?_
        exact y_sub (ls_s (ls_s (ls_s (ls_s (ls_n (ls_s (ls_s (ls_s (ls_n ls_0))))))))) (ih M11 a1 a2 a3 a7 r10 (a7 + 1))
      · refine y_goto (tgt := 115) (pc := 104) dX6_stand_104 (by decide) ?_
        refine y_iinc (L' := [some (rv 137), some (iv a1), some (iv a2), some (iv a3), none, some (iv a5), some (iv a6), some (iv (a7 + 1)), some (iv r10)]) (pc := 115) dX6_stand_115 rfl (by decide) rfl rfl ?_
        refine y_goto (tgt := 62) (pc := 118) dX6_stand_118 (by decide) ?_
        exact y_sub (ls_s (ls_s (ls_s (ls_s (ls_n (ls_s (ls_s (ls_s (ls_n ls_0))))))))) (ih M11 a1 a2 a3 a5 a6 (a7 + 1))
def m_X6_stand_39 (n : Nat) (M : Mem) (a1 : Int) (a2 : Int) (a3 : Int) (a4 : Int) : Rs := if I32 a4 then (if a4 = 0 then (m_X6_stand_62 n n M a1 a2 a3 (-9) (-9) 0) else (bd (m_X6_no n M a4) (fun r18 M17 => some (r18, M17)))) else none
theorem t_X6_stand_39 (n : Nat) (M : Mem) (a1 : Int) (a2 : Int) (a3 : Int) (a4 : Int) : Y RX6 cX6_stand 9 8 0 none 39 [some (rv 137), some (iv a1), some (iv a2), some (iv a3), some (iv a4), none, none, none, none] [] M (m_X6_stand_39 n M a1 a2 a3 a4) := by
  unfold m_X6_stand_39
  refine y_iload (pc := 39) dX6_stand_39 rfl ?_
  refine y_gd (fun h15 => ?_)
  refine y_if_eq (off := 10) (tgt := 51) (pc := 41) dX6_stand_41 (by decide) h15 (fun h16 => ?_) (fun h16 => ?_)
  · refine y_bipush (pc := 51) dX6_stand_51 (by decide) ?_
    refine y_istore (L' := [some (rv 137), some (iv a1), some (iv a2), some (iv a3), some (iv a4), some (iv (-9)), none, none, none]) (pc := 53) dX6_stand_53 (by decide) rfl rfl ?_
    refine y_bipush (pc := 55) dX6_stand_55 (by decide) ?_
    refine y_istore (L' := [some (rv 137), some (iv a1), some (iv a2), some (iv a3), some (iv a4), some (iv (-9)), some (iv (-9)), none, none]) (pc := 57) dX6_stand_57 (by decide) rfl rfl ?_
    refine y_iconst (pc := 59) dX6_stand_59 ?_
    refine y_istore (L' := [some (rv 137), some (iv a1), some (iv a2), some (iv a3), some (iv a4), some (iv (-9)), some (iv (-9)), some (iv 0), none]) (pc := 60) dX6_stand_60 (by decide) rfl rfl ?_
    exact y_sub (ls_s (ls_s (ls_s (ls_s (ls_n (ls_s (ls_s (ls_s (ls_n ls_0))))))))) (t_X6_stand_62 n n M a1 a2 a3 (-9) (-9) 0)
  · refine y_aload_n (pc := 44) dX6_stand_44 rfl ?_
    refine y_iload (pc := 45) dX6_stand_45 rfl ?_
    refine y_callVi (pc := 47) v_X6_no l_X6_172 dX6_stand_47 (c_X6_no n _ _) rfl rc_X6 rfl (by decide) (by decide) (Nat.le_of_ble_eq_true rfl) (fun r18 M17 _ => ?_)
    exact y_iret (pc := 50) dX6_stand_50
def m_X6_stand_19 (n : Nat) (M : Mem) (a1 : Int) (a2 : Int) (a3 : Int) (s0 : Int) : Rs := if I32 s0 then (if s0 = 0 then (bd (m_X6_isIn n M a3 0 1) (fun r22 M21 => if I32 r22 then (if r22 = 0 then (m_X6_stand_39 n M21 a1 a2 a3 (-2)) else (m_X6_stand_39 n M21 a1 a2 a3 s0)) else none)) else (m_X6_stand_39 n M a1 a2 a3 s0)) else none
theorem t_X6_stand_19 (n : Nat) (M : Mem) (a1 : Int) (a2 : Int) (a3 : Int) (s0 : Int) : Y RX6 cX6_stand 9 8 0 none 19 [some (rv 137), some (iv a1), some (iv a2), some (iv a3), none, none, none, none, none] [iv s0] M (m_X6_stand_19 n M a1 a2 a3 s0) := by
  unfold m_X6_stand_19
  refine y_istore (L' := [some (rv 137), some (iv a1), some (iv a2), some (iv a3), some (iv s0), none, none, none, none]) (pc := 19) dX6_stand_19 (by decide) rfl rfl ?_
  refine y_iload (pc := 21) dX6_stand_21 rfl ?_
  refine y_gd (fun h19 => ?_)
  refine y_if_ne (off := 16) (tgt := 39) (pc := 23) dX6_stand_23 (by decide) h19 (fun h20 => ?_) (fun h20 => ?_)
  · exact y_sub (ls_s (ls_s (ls_s (ls_s (ls_s (ls_n (ls_n (ls_n (ls_n ls_0))))))))) (t_X6_stand_39 n M a1 a2 a3 s0)
  · refine y_iload_n (pc := 26) dX6_stand_26 rfl ?_
    refine y_iconst (pc := 27) dX6_stand_27 ?_
    refine y_iconst (pc := 28) dX6_stand_28 ?_
    refine y_callSi (pc := 29) s_X6_isIn l_X6_82 dX6_stand_29 (c_X6_isIn n _ _ _ _) rfl rfl (by decide) (by decide) (Nat.le_of_ble_eq_true rfl) (fun r22 M21 _ => ?_)
    refine y_gd (fun h23 => ?_)
    refine y_if_ne (off := 7) (tgt := 39) (pc := 32) dX6_stand_32 (by decide) h23 (fun h24 => ?_) (fun h24 => ?_)
    · exact y_sub (ls_s (ls_s (ls_s (ls_s (ls_s (ls_n (ls_n (ls_n (ls_n ls_0))))))))) (t_X6_stand_39 n M21 a1 a2 a3 s0)
    · refine y_bipush (pc := 35) dX6_stand_35 (by decide) ?_
      refine y_istore (L' := [some (rv 137), some (iv a1), some (iv a2), some (iv a3), some (iv (-2)), none, none, none, none]) (pc := 37) dX6_stand_37 (by decide) rfl rfl ?_
      exact y_sub (ls_s (ls_s (ls_s (ls_s (ls_s (ls_n (ls_n (ls_n (ls_n ls_0))))))))) (t_X6_stand_39 n M21 a1 a2 a3 (-2))
def m_X6_stand (n : Nat) (M : Mem) (a1 : Int) (a2 : Int) (a3 : Int) : Rs := bd (m_X6_isPerson n M a1) (fun r26 M25 => if I32 r26 then (if r26 = 0 then (m_X6_stand_19 n M25 a1 a2 a3 (-1)) else (bd (m_X6_bound n M25 a2 0 30) (fun r30 M29 => m_X6_stand_19 n M29 a1 a2 a3 r30))) else none)
theorem y_X6_stand (n : Nat) (M : Mem) (a1 : Int) (a2 : Int) (a3 : Int) : Y RX6 cX6_stand 9 8 0 none 0 [some (rv 137), some (iv a1), some (iv a2), some (iv a3), none, none, none, none, none] [] M (m_X6_stand n M a1 a2 a3) := by
  unfold m_X6_stand
  refine y_aload_n (pc := 0) dX6_stand_0 rfl ?_
  refine y_iload_n (pc := 1) dX6_stand_1 rfl ?_
  refine y_callVi (pc := 2) v_X6_isPerson l_X6_92 dX6_stand_2 (c_X6_isPerson n _ _) rfl rc_X6 rfl (by decide) (by decide) (Nat.le_of_ble_eq_true rfl) (fun r26 M25 _ => ?_)
  refine y_gd (fun h27 => ?_)
  refine y_if_ne (off := 7) (tgt := 12) (pc := 5) dX6_stand_5 (by decide) h27 (fun h28 => ?_) (fun h28 => ?_)
  · refine y_iload_n (pc := 12) dX6_stand_12 rfl ?_
    refine y_iconst (pc := 13) dX6_stand_13 ?_
    refine y_bipush (pc := 14) dX6_stand_14 (by decide) ?_
    refine y_callSi (pc := 16) s_X6_bound l_X6_165 dX6_stand_16 (c_X6_bound n _ _ _ _) rfl rfl (by decide) (by decide) (Nat.le_of_ble_eq_true rfl) (fun r30 M29 _ => ?_)
    exact y_sub (ls_s (ls_s (ls_s (ls_s (ls_n (ls_n (ls_n (ls_n (ls_n ls_0))))))))) (t_X6_stand_19 n M29 a1 a2 a3 r30)
  · refine y_iconst (pc := 8) dX6_stand_8 ?_
    refine y_goto (tgt := 19) (pc := 9) dX6_stand_9 (by decide) ?_
    exact y_sub (ls_s (ls_s (ls_s (ls_s (ls_n (ls_n (ls_n (ls_n (ls_n ls_0))))))))) (t_X6_stand_19 n M25 a1 a2 a3 (-1))
theorem c_X6_stand (n : Nat) (M : Mem) (a1 : Int) (a2 : Int) (a3 : Int) : ∀ res : Int × Mem, m_X6_stand n M a1 a2 a3 = some res → CTi yX6_stand cX6_stand 9 (some .int) 8 [rv 137, iv a1, iv a2, iv a3] M res := CTi_of (by decide +kernel) rfl (Nat.le_of_ble_eq_true rfl) rfl (y_X6_stand n M a1 a2 a3)
def m_X6_kettle_92 (n : Nat) (k48 : Mem → Int → Int → Int → Int → Int → Rs) (M : Mem) (a1 : Int) (a2 : Int) (a3 : Int) (a6 : Int) (s0 : Int) : Rs := bd (m_X6_forgets n M) (fun _ M1 => k48 M1 a1 a2 a3 s0 (a6 + 1))
theorem t_X6_kettle_92 (n : Nat) (k48 : Mem → Int → Int → Int → Int → Int → Rs) (hk48 : ∀ (M : Mem) (a1 : Int) (a2 : Int) (a3 : Int) (a5 : Int) (a6 : Int), Y RX6 cX6_kettle 7 8 0 none 48 [some (rv 137), some (iv a1), some (iv a2), some (iv a3), none, some (iv a5), some (iv a6)] [] M (k48 M a1 a2 a3 a5 a6)) (M : Mem) (a1 : Int) (a2 : Int) (a3 : Int) (a6 : Int) (s0 : Int) : Y RX6 cX6_kettle 7 8 0 none 92 [some (rv 137), some (iv a1), some (iv a2), some (iv a3), none, none, some (iv a6)] [iv s0] M (m_X6_kettle_92 n k48 M a1 a2 a3 a6 s0) := by
  unfold m_X6_kettle_92
  refine y_istore (L' := [some (rv 137), some (iv a1), some (iv a2), some (iv a3), none, some (iv s0), some (iv a6)]) (pc := 92) dX6_kettle_92 (by decide) rfl rfl ?_
  refine y_aload_n (pc := 94) dX6_kettle_94 rfl ?_
  refine y_callVv (pc := 95) v_X6_forgets l_X6_283 dX6_kettle_95 (c_X6_forgets n _) rfl rc_X6 rfl (by decide) (by decide) (Nat.le_of_ble_eq_true rfl) (fun _ M1 _ => ?_)
  refine y_iinc (L' := [some (rv 137), some (iv a1), some (iv a2), some (iv a3), none, some (iv s0), some (iv (a6 + 1))]) (pc := 98) dX6_kettle_98 rfl (by decide) rfl rfl ?_
  refine y_goto (tgt := 48) (pc := 101) dX6_kettle_101 (by decide) ?_
  exact y_sub (ls_s (ls_s (ls_s (ls_s (ls_n (ls_s (ls_s ls_0))))))) (hk48 M1 a1 a2 a3 s0 (a6 + 1))
def m_X6_kettle_48 (n : Nat) : Nat → Mem → Int → Int → Int → Int → Int → Rs
  | 0, _, _, _, _, _, _ => none
  | t + 1, M, a1, a2, a3, a5, a6 => if I32 a6 then (if 24 ≤ a6 then (some (a5, M)) else (if I32 a5 then (if 0 ≤ a5 then (some (a5, M)) else (bd (m_X6_minds n M) (fun _ M6 => wr M6 137 20 a6 (fun M7 => bd (m_X6_goes n M7 a3) (fun _ M8 => if 0 ≤ a2 ∧ a2 < 8 then (if I32 a1 then (if (rd M8 143 (Int.toNat a2)) = a1 then (m_X6_kettle_92 n (m_X6_kettle_48 n t) M8 a1 a2 a3 a6 a6) else (m_X6_kettle_92 n (m_X6_kettle_48 n t) M8 a1 a2 a3 a6 (-9))) else none) else none))))) else none)) else none
theorem t_X6_kettle_48 (n : Nat) : ∀ (t : Nat) (M : Mem) (a1 : Int) (a2 : Int) (a3 : Int) (a5 : Int) (a6 : Int), Y RX6 cX6_kettle 7 8 0 none 48 [some (rv 137), some (iv a1), some (iv a2), some (iv a3), none, some (iv a5), some (iv a6)] [] M (m_X6_kettle_48 n t M a1 a2 a3 a5 a6) := by
  intro t
  induction t with
  | zero => intro M a1 a2 a3 a5 a6; exact y_none
  | succ t ih =>
    intro M a1 a2 a3 a5 a6
    rewrite [m_X6_kettle_48]
    refine y_iload (pc := 48) dX6_kettle_48 rfl ?_
    refine y_bipush (pc := 50) dX6_kettle_50 (by decide) ?_
    refine y_gd (fun h2 => ?_)
    refine y_icmp_ge (off := 52) (tgt := 104) (pc := 52) dX6_kettle_52 (by decide) h2 (by decide) (fun h3 => ?_) (fun h3 => ?_)
    · refine y_iload (pc := 104) dX6_kettle_104 rfl ?_
      exact y_iret (pc := 106) dX6_kettle_106
    · refine y_iload (pc := 55) dX6_kettle_55 rfl ?_
      refine y_gd (fun h4 => ?_)
      refine y_if_ge (off := 47) (tgt := 104) (pc := 57) dX6_kettle_57 (by decide) h4 (fun h5 => ?_) (fun h5 => ?_)
      · refine y_iload (pc := 104) dX6_kettle_104 rfl ?_
        exact y_iret (pc := 106) dX6_kettle_106
      · refine y_aload_n (pc := 60) dX6_kettle_60 rfl ?_
        refine y_callVv (pc := 61) v_X6_minds l_X6_280 dX6_kettle_61 (c_X6_minds n _) rfl rc_X6 rfl (by decide) (by decide) (Nat.le_of_ble_eq_true rfl) (fun _ M6 _ => ?_)
        refine y_aload_n (pc := 64) dX6_kettle_64 rfl ?_
        refine y_iload (pc := 65) dX6_kettle_65 rfl ?_
        refine y_putintw (pc := 67) pf_X6_49 dX6_kettle_67 (fun M7 => ?_)
        refine y_aload_n (pc := 70) dX6_kettle_70 rfl ?_
        refine y_iload_n (pc := 71) dX6_kettle_71 rfl ?_
        refine y_callVv (pc := 72) v_X6_goes l_X6_210 dX6_kettle_72 (c_X6_goes n _ _) rfl rc_X6 rfl (by decide) (by decide) (Nat.le_of_ble_eq_true rfl) (fun _ M8 _ => ?_)
        refine y_aload_n (pc := 75) dX6_kettle_75 rfl ?_
        refine y_getref (pc := 76) (x := 143) g_X6_28 dX6_kettle_76 ?_
        refine y_iload_n (pc := 79) dX6_kettle_79 rfl ?_
        refine y_gd (fun h9 => ?_)
        refine y_iald (pc := 80) dX6_kettle_80 ar_143 h9 ?_
        refine y_iload_n (pc := 81) dX6_kettle_81 rfl ?_
        refine y_gd (fun h10 => ?_)
        refine y_icmp_ne (off := 8) (tgt := 90) (pc := 82) dX6_kettle_82 (by decide) (rd_rng _ _ _) h10 (fun h11 => ?_) (fun h11 => ?_)
        · refine y_bipush (pc := 90) dX6_kettle_90 (by decide) ?_
          exact y_sub (ls_s (ls_s (ls_s (ls_s (ls_n (ls_n (ls_s ls_0))))))) (t_X6_kettle_92 n (m_X6_kettle_48 n t) ih M8 a1 a2 a3 a6 (-9))
        · refine y_iload (pc := 85) dX6_kettle_85 rfl ?_
          refine y_goto (tgt := 92) (pc := 87) dX6_kettle_87 (by decide) ?_
          exact y_sub (ls_s (ls_s (ls_s (ls_s (ls_n (ls_n (ls_s ls_0))))))) (t_X6_kettle_92 n (m_X6_kettle_48 n t) ih M8 a1 a2 a3 a6 a6)
def m_X6_kettle_27 (n : Nat) (M : Mem) (a1 : Int) (a2 : Int) (a3 : Int) (s0 : Int) : Rs := if I32 s0 then (if s0 = 0 then (m_X6_kettle_48 n n M a1 a2 a3 (-9) 0) else (bd (m_X6_no n M s0) (fun r15 M14 => some (r15, M14)))) else none
theorem t_X6_kettle_27 (n : Nat) (M : Mem) (a1 : Int) (a2 : Int) (a3 : Int) (s0 : Int) : Y RX6 cX6_kettle 7 8 0 none 27 [some (rv 137), some (iv a1), some (iv a2), some (iv a3), none, none, none] [iv s0] M (m_X6_kettle_27 n M a1 a2 a3 s0) := by
  unfold m_X6_kettle_27
  refine y_istore (L' := [some (rv 137), some (iv a1), some (iv a2), some (iv a3), some (iv s0), none, none]) (pc := 27) dX6_kettle_27 (by decide) rfl rfl ?_
  refine y_iload (pc := 29) dX6_kettle_29 rfl ?_
  refine y_gd (fun h12 => ?_)
  refine y_if_eq (off := 10) (tgt := 41) (pc := 31) dX6_kettle_31 (by decide) h12 (fun h13 => ?_) (fun h13 => ?_)
  · refine y_bipush (pc := 41) dX6_kettle_41 (by decide) ?_
    refine y_istore (L' := [some (rv 137), some (iv a1), some (iv a2), some (iv a3), some (iv s0), some (iv (-9)), none]) (pc := 43) dX6_kettle_43 (by decide) rfl rfl ?_
    refine y_iconst (pc := 45) dX6_kettle_45 ?_
    refine y_istore (L' := [some (rv 137), some (iv a1), some (iv a2), some (iv a3), some (iv s0), some (iv (-9)), some (iv 0)]) (pc := 46) dX6_kettle_46 (by decide) rfl rfl ?_
    exact y_sub (ls_s (ls_s (ls_s (ls_s (ls_n (ls_s (ls_s ls_0))))))) (t_X6_kettle_48 n n M a1 a2 a3 (-9) 0)
  · refine y_aload_n (pc := 34) dX6_kettle_34 rfl ?_
    refine y_iload (pc := 35) dX6_kettle_35 rfl ?_
    refine y_callVi (pc := 37) v_X6_no l_X6_172 dX6_kettle_37 (c_X6_no n _ _) rfl rc_X6 rfl (by decide) (by decide) (Nat.le_of_ble_eq_true rfl) (fun r15 M14 _ => ?_)
    exact y_iret (pc := 40) dX6_kettle_40
def m_X6_kettle_16 (n : Nat) (M : Mem) (a1 : Int) (a2 : Int) (a3 : Int) : Rs := m_X6_kettle_27 n M a1 a2 a3 (-1)
theorem t_X6_kettle_16 (n : Nat) (M : Mem) (a1 : Int) (a2 : Int) (a3 : Int) : Y RX6 cX6_kettle 7 8 0 none 16 [some (rv 137), some (iv a1), some (iv a2), some (iv a3), none, none, none] [] M (m_X6_kettle_16 n M a1 a2 a3) := by
  unfold m_X6_kettle_16
  refine y_iconst (pc := 16) dX6_kettle_16 ?_
  refine y_goto (tgt := 27) (pc := 17) dX6_kettle_17 (by decide) ?_
  exact y_sub (ls_s (ls_s (ls_s (ls_s (ls_n (ls_n (ls_n ls_0))))))) (t_X6_kettle_27 n M a1 a2 a3 (-1))
def m_X6_kettle (n : Nat) (M : Mem) (a1 : Int) (a2 : Int) (a3 : Int) : Rs := bd (m_X6_isPerson n M a1) (fun r17 M16 => if I32 r17 then (if r17 = 0 then (m_X6_kettle_16 n M16 a1 a2 a3) else (bd (m_X6_isThing n M16 a2) (fun r21 M20 => if I32 r21 then (if r21 = 0 then (m_X6_kettle_16 n M20 a1 a2 a3) else (bd (m_X6_bound n M20 a3 0 30) (fun r25 M24 => m_X6_kettle_27 n M24 a1 a2 a3 r25))) else none))) else none)
theorem y_X6_kettle (n : Nat) (M : Mem) (a1 : Int) (a2 : Int) (a3 : Int) : Y RX6 cX6_kettle 7 8 0 none 0 [some (rv 137), some (iv a1), some (iv a2), some (iv a3), none, none, none] [] M (m_X6_kettle n M a1 a2 a3) := by
  unfold m_X6_kettle
  refine y_aload_n (pc := 0) dX6_kettle_0 rfl ?_
  refine y_iload_n (pc := 1) dX6_kettle_1 rfl ?_
  refine y_callVi (pc := 2) v_X6_isPerson l_X6_92 dX6_kettle_2 (c_X6_isPerson n _ _) rfl rc_X6 rfl (by decide) (by decide) (Nat.le_of_ble_eq_true rfl) (fun r17 M16 _ => ?_)
  refine y_gd (fun h18 => ?_)
  refine y_if_eq (off := 11) (tgt := 16) (pc := 5) dX6_kettle_5 (by decide) h18 (fun h19 => ?_) (fun h19 => ?_)
  · exact y_sub (ls_s (ls_s (ls_s (ls_s (ls_n (ls_n (ls_n ls_0))))))) (t_X6_kettle_16 n M16 a1 a2 a3)
  · refine y_aload_n (pc := 8) dX6_kettle_8 rfl ?_
    refine y_iload_n (pc := 9) dX6_kettle_9 rfl ?_
    refine y_callVi (pc := 10) v_X6_isThing l_X6_207 dX6_kettle_10 (c_X6_isThing n _ _) rfl rc_X6 rfl (by decide) (by decide) (Nat.le_of_ble_eq_true rfl) (fun r21 M20 _ => ?_)
    refine y_gd (fun h22 => ?_)
    refine y_if_ne (off := 7) (tgt := 20) (pc := 13) dX6_kettle_13 (by decide) h22 (fun h23 => ?_) (fun h23 => ?_)
    · refine y_iload_n (pc := 20) dX6_kettle_20 rfl ?_
      refine y_iconst (pc := 21) dX6_kettle_21 ?_
      refine y_bipush (pc := 22) dX6_kettle_22 (by decide) ?_
      refine y_callSi (pc := 24) s_X6_bound l_X6_165 dX6_kettle_24 (c_X6_bound n _ _ _ _) rfl rfl (by decide) (by decide) (Nat.le_of_ble_eq_true rfl) (fun r25 M24 _ => ?_)
      exact y_sub (ls_s (ls_s (ls_s (ls_s (ls_n (ls_n (ls_n ls_0))))))) (t_X6_kettle_27 n M24 a1 a2 a3 r25)
    · exact y_sub (ls_s (ls_s (ls_s (ls_s (ls_n (ls_n (ls_n ls_0))))))) (t_X6_kettle_16 n M20 a1 a2 a3)
theorem c_X6_kettle (n : Nat) (M : Mem) (a1 : Int) (a2 : Int) (a3 : Int) : ∀ res : Int × Mem, m_X6_kettle n M a1 a2 a3 = some res → CTi yX6_kettle cX6_kettle 7 (some .int) 8 [rv 137, iv a1, iv a2, iv a3] M res := CTi_of (by decide +kernel) rfl (Nat.le_of_ble_eq_true rfl) rfl (y_X6_kettle n M a1 a2 a3)
def m_X6_blowsOff_12 (n : Nat) : Nat → Mem → Int → Rs
  | 0, _, _ => none
  | t + 1, M, a2 => if I32 a2 then (if (rd M 137 3) ≤ a2 then (some (0, M)) else (if 0 ≤ (a2 + 1) ∧ (a2 + 1) < 6 then (if 0 ≤ a2 ∧ a2 < 6 then (wr M 138 (Int.toNat a2) (rd M 138 (Int.toNat (a2 + 1))) (fun M5 => wr M5 139 (Int.toNat a2) (rd M5 139 (Int.toNat (a2 + 1))) (fun M6 => wr M6 140 (Int.toNat a2) (rd M6 140 (Int.toNat (a2 + 1))) (fun M7 => (m_X6_blowsOff_12 n t) M7 (a2 + 1))))) else none) else none)) else none
theorem t_X6_blowsOff_12 (n : Nat) : ∀ (t : Nat) (M : Mem) (a2 : Int), Y RX6 cX6_blowsOff 3 0 3 none 12 [some (rv 137), none, some (iv a2)] [] M (m_X6_blowsOff_12 n t M a2) := by
  intro t
  induction t with
  | zero => intro M a2; exact y_none
  | succ t ih =>
    intro M a2
    rewrite [m_X6_blowsOff_12]
    refine y_iload_n (pc := 12) dX6_blowsOff_12 rfl ?_
    refine y_aload_n (pc := 13) dX6_blowsOff_13 rfl ?_
    refine y_getint (pc := 14) g_X6_79 dX6_blowsOff_14 ?_
    refine y_gd (fun h1 => ?_)
    refine y_icmp_ge (off := 51) (tgt := 68) (pc := 17) dX6_blowsOff_17 (by decide) h1 (rd_rng _ _ _) (fun h2 => ?_) (fun h2 => ?_)
    · exact y_vret (pc := 68) dX6_blowsOff_68
    · refine y_aload_n (pc := 20) dX6_blowsOff_20 rfl ?_
      refine y_getref (pc := 21) (x := 138) g_X6_13 dX6_blowsOff_21 ?_
      refine y_iload_n (pc := 24) dX6_blowsOff_24 rfl ?_
      refine y_aload_n (pc := 25) dX6_blowsOff_25 rfl ?_
      refine y_getref (pc := 26) (x := 138) g_X6_13 dX6_blowsOff_26 ?_
      refine y_iload_n (pc := 29) dX6_blowsOff_29 rfl ?_
      refine y_iconst (pc := 30) dX6_blowsOff_30 ?_
      refine y_iadd (pc := 31) dX6_blowsOff_31 ?_
      refine y_gd (fun h3 => ?_)
      refine y_iald (pc := 32) dX6_blowsOff_32 ar_138 h3 ?_
      refine y_gd (fun h4 => ?_)
      refine y_iastw (pc := 33) dX6_blowsOff_33 ar_138 h4 (fun M5 => ?_)
      refine y_aload_n (pc := 34) dX6_blowsOff_34 rfl ?_
      refine y_getref (pc := 35) (x := 139) g_X6_16 dX6_blowsOff_35 ?_
      refine y_iload_n (pc := 38) dX6_blowsOff_38 rfl ?_
      refine y_aload_n (pc := 39) dX6_blowsOff_39 rfl ?_
      refine y_getref (pc := 40) (x := 139) g_X6_16 dX6_blowsOff_40 ?_
      refine y_iload_n (pc := 43) dX6_blowsOff_43 rfl ?_
      refine y_iconst (pc := 44) dX6_blowsOff_44 ?_
      refine y_iadd (pc := 45) dX6_blowsOff_45 ?_
      refine y_iald (pc := 46) dX6_blowsOff_46 ar_139 h3 ?_
      refine y_iastw (pc := 47) dX6_blowsOff_47 ar_139 h4 (fun M6 => ?_)
      refine y_aload_n (pc := 48) dX6_blowsOff_48 rfl ?_
      refine y_getref (pc := 49) (x := 140) g_X6_19 dX6_blowsOff_49 ?_
      refine y_iload_n (pc := 52) dX6_blowsOff_52 rfl ?_
      refine y_aload_n (pc := 53) dX6_blowsOff_53 rfl ?_
      refine y_getref (pc := 54) (x := 140) g_X6_19 dX6_blowsOff_54 ?_
      refine y_iload_n (pc := 57) dX6_blowsOff_57 rfl ?_
      refine y_iconst (pc := 58) dX6_blowsOff_58 ?_
      refine y_iadd (pc := 59) dX6_blowsOff_59 ?_
      refine y_iald (pc := 60) dX6_blowsOff_60 ar_140 h3 ?_
      refine y_iastw (pc := 61) dX6_blowsOff_61 ar_140 h4 (fun M7 => ?_)
      refine y_iinc (L' := [some (rv 137), none, some (iv (a2 + 1))]) (pc := 62) dX6_blowsOff_62 rfl (by decide) rfl rfl ?_
      refine y_goto (tgt := 12) (pc := 65) dX6_blowsOff_65 (by decide) ?_
      exact y_sub (ls_s (ls_n (ls_s ls_0))) (ih M7 (a2 + 1))
def m_X6_blowsOff (n : Nat) (M : Mem) (a1 : Int) : Rs := wr M 137 3 ((rd M 137 3) - 1) (fun M8 => m_X6_blowsOff_12 n n M8 a1)
theorem y_X6_blowsOff (n : Nat) (M : Mem) (a1 : Int) : Y RX6 cX6_blowsOff 3 0 3 none 0 [some (rv 137), some (iv a1), none] [] M (m_X6_blowsOff n M a1) := by
  unfold m_X6_blowsOff
  refine y_aload_n (pc := 0) dX6_blowsOff_0 rfl ?_
  refine y_dup (pc := 1) dX6_blowsOff_1 rfl ?_
  refine y_getint (pc := 2) g_X6_79 dX6_blowsOff_2 ?_
  refine y_iconst (pc := 5) dX6_blowsOff_5 ?_
  refine y_isub (pc := 6) dX6_blowsOff_6 ?_
  refine y_putintw (pc := 7) pf_X6_79 dX6_blowsOff_7 (fun M8 => ?_)
  refine y_iload_n (pc := 10) dX6_blowsOff_10 rfl ?_
  refine y_istore_n (L' := [some (rv 137), some (iv a1), some (iv a1)]) (pc := 11) dX6_blowsOff_11 (by decide) rfl rfl ?_
  exact y_sub (ls_s (ls_n (ls_s ls_0))) (t_X6_blowsOff_12 n n M8 a1)
theorem c_X6_blowsOff (n : Nat) (M : Mem) (a1 : Int) : ∀ res : Int × Mem, m_X6_blowsOff n M a1 = some res → CTv yX6_blowsOff cX6_blowsOff 3 0 [rv 137, iv a1] M res := CTv_of (by decide +kernel) rfl (Nat.le_of_ble_eq_true rfl) rfl (y_X6_blowsOff n M a1)
