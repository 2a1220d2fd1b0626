def m_X5_islands_12 (n : Nat) (M : Mem) : Rs := bd (m_X5_refuse n M (-1)) (fun r2 M1 => some (r2, M1))
theorem t_X5_islands_12 (n : Nat) (M : Mem) : Y RX5 cX5_islands 3 5 0 none 12 [some (rv 130), none, none] [] M (m_X5_islands_12 n M) := by
  unfold m_X5_islands_12
  refine y_aload_n (pc := 12) dX5_islands_12 rfl ?_
  refine y_iconst (pc := 13) dX5_islands_13 ?_
  refine y_callVi (pc := 14) v_X5_refuse l_X5_60 dX5_islands_14 (c_X5_refuse n _ _) rfl rc_X5 rfl (by decide) (by decide) (Nat.le_of_ble_eq_true rfl) (fun r2 M1 _ => ?_)
  exact y_iret (pc := 17) dX5_islands_17
def m_X5_islands (n : Nat) (M : Mem) (a1 : Int) : Rs := if I32 a1 then (if a1 < (-2) then (m_X5_islands_12 n M) else (if a1 < 24 then (bd (m_X0_begin n M 0) (fun _ M6 => bd (m_X0_foggyCells n M6) (fun r8 M7 => if a1 < 0 then (if a1 = (-1) then (bd (m_X2_howMany n M7 r8) (fun r14 M13 => some (r14, M13))) else (bd (m_X2_greatest n M7 r8) (fun r12 M11 => some (r12, M11)))) else (bd (m_X2_pieceWith n M7 a1 r8) (fun r16 M15 => some (r16, M15)))))) else (m_X5_islands_12 n M))) else none
theorem y_X5_islands (n : Nat) (M : Mem) (a1 : Int) : Y RX5 cX5_islands 3 5 0 none 0 [some (rv 130), some (iv a1), none] [] M (m_X5_islands n M a1) := by
  unfold m_X5_islands
  refine y_iload_n (pc := 0) dX5_islands_0 rfl ?_
  refine y_bipush (pc := 1) dX5_islands_1 (by decide) ?_
  refine y_gd (fun h3 => ?_)
  refine y_icmp_lt (off := 9) (tgt := 12) (pc := 3) dX5_islands_3 (by decide) h3 (by decide) (fun h4 => ?_) (fun h4 => ?_)
  · exact y_sub (ls_s (ls_n (ls_n ls_0))) (t_X5_islands_12 n M)
  · refine y_iload_n (pc := 6) dX5_islands_6 rfl ?_
    refine y_bipush (pc := 7) dX5_islands_7 (by decide) ?_
    refine y_icmp_lt (off := 9) (tgt := 18) (pc := 9) dX5_islands_9 (by decide) h3 (by decide) (fun h5 => ?_) (fun h5 => ?_)
    · refine y_aload_n (pc := 18) dX5_islands_18 rfl ?_
      refine y_getref (pc := 19) (x := 129) g_X5_50 dX5_islands_19 ?_
      refine y_aload_n (pc := 22) dX5_islands_22 rfl ?_
      refine y_getref (pc := 23) (x := 0) g_X5_10 dX5_islands_23 ?_
      refine y_callVv (pc := 26) v_X0_begin l_X5_67 dX5_islands_26 (c_X0_begin n _ _) rfl rc_X0 rfl (by decide) (by decide) (Nat.le_of_ble_eq_true rfl) (fun _ M6 _ => ?_)
      refine y_aload_n (pc := 29) dX5_islands_29 rfl ?_
      refine y_getref (pc := 30) (x := 129) g_X5_50 dX5_islands_30 ?_
      refine y_callVi (pc := 33) v_X0_foggyCells l_X5_217 dX5_islands_33 (c_X0_foggyCells n _) rfl rc_X0 rfl (by decide) (by decide) (Nat.le_of_ble_eq_true rfl) (fun r8 M7 _ => ?_)
      refine y_istore_n (L' := [some (rv 130), some (iv a1), some (iv r8)]) (pc := 36) dX5_islands_36 (by decide) rfl rfl ?_
      refine y_iload_n (pc := 37) dX5_islands_37 rfl ?_
      refine y_if_lt (off := 9) (tgt := 47) (pc := 38) dX5_islands_38 (by decide) h3 (fun h9 => ?_) (fun h9 => ?_)
      · refine y_iload_n (pc := 47) dX5_islands_47 rfl ?_
        refine y_iconst (pc := 48) dX5_islands_48 ?_
        refine y_icmp_ne (off := 10) (tgt := 59) (pc := 49) dX5_islands_49 (by decide) h3 (by decide) (fun h10 => ?_) (fun h10 => ?_)
        · refine y_iload_n (pc := 59) dX5_islands_59 rfl ?_
          refine y_callSi (pc := 60) s_X2_greatest l_X5_287 dX5_islands_60 (c_X2_greatest n _ _) rfl rfl (by decide) (by decide) (Nat.le_of_ble_eq_true rfl) (fun r12 M11 _ => ?_)
          exact y_iret (pc := 63) dX5_islands_63
        · refine y_iload_n (pc := 52) dX5_islands_52 rfl ?_
          refine y_callSi (pc := 53) s_X2_howMany l_X5_284 dX5_islands_53 (c_X2_howMany n _ _) rfl rfl (by decide) (by decide) (Nat.le_of_ble_eq_true rfl) (fun r14 M13 _ => ?_)
          refine y_goto (tgt := 63) (pc := 56) dX5_islands_56 (by decide) ?_
          exact y_iret (pc := 63) dX5_islands_63
      · refine y_iload_n (pc := 41) dX5_islands_41 rfl ?_
        refine y_iload_n (pc := 42) dX5_islands_42 rfl ?_
        refine y_callSi (pc := 43) s_X2_pieceWith l_X5_279 dX5_islands_43 (c_X2_pieceWith n _ _ _) rfl rfl (by decide) (by decide) (Nat.le_of_ble_eq_true rfl) (fun r16 M15 _ => ?_)
        exact y_iret (pc := 46) dX5_islands_46
    · exact y_sub (ls_s (ls_n (ls_n ls_0))) (t_X5_islands_12 n M)
theorem c_X5_islands (n : Nat) (M : Mem) (a1 : Int) : ∀ res : Int × Mem, m_X5_islands n M a1 = some res → CTi yX5_islands cX5_islands 3 (some .int) 5 [rv 130, iv a1] M res := CTi_of (by decide +kernel) rfl (Nat.le_of_ble_eq_true rfl) rfl (y_X5_islands n M a1)
def m_X5_clearRun_48 (n : Nat) (k17 : Mem → Int → Int → Int → Rs) (M : Mem) (a1 : Int) (a3 : Int) (s0 : Int) : Rs := if I32 a1 then (if I32 s0 then (k17 M (mxZ a1 s0) s0 (a3 + 1)) else none) else none
theorem t_X5_clearRun_48 (n : Nat) (k17 : Mem → Int → Int → Int → Rs) (hk17 : ∀ (M : Mem) (a1 : Int) (a2 : Int) (a3 : Int), Y RX5 cX5_clearRun 4 5 0 none 17 [some (rv 130), some (iv a1), some (iv a2), some (iv a3)] [] M (k17 M a1 a2 a3)) (M : Mem) (a1 : Int) (a3 : Int) (s0 : Int) : Y RX5 cX5_clearRun 4 5 0 none 48 [some (rv 130), some (iv a1), none, some (iv a3)] [iv s0] M (m_X5_clearRun_48 n k17 M a1 a3 s0) := by
  unfold m_X5_clearRun_48
  refine y_istore_n (L' := [some (rv 130), some (iv a1), some (iv s0), some (iv a3)]) (pc := 48) dX5_clearRun_48 (by decide) rfl rfl ?_
  refine y_iload_n (pc := 49) dX5_clearRun_49 rfl ?_
  refine y_iload_n (pc := 50) dX5_clearRun_50 rfl ?_
  refine y_gd (fun h1 => ?_)
  refine y_gd (fun h2 => ?_)
  refine y_mmaxw (pc := 51) h1 h2 l_X5_290 dX5_clearRun_51 (Nat.le_of_ble_eq_true rfl) (by decide) ?_
  refine y_istore_n (L' := [some (rv 130), some (iv (mxZ a1 s0)), some (iv s0), some (iv a3)]) (pc := 54) dX5_clearRun_54 (by decide) rfl rfl ?_
  refine y_iinc (L' := [some (rv 130), some (iv (mxZ a1 s0)), some (iv s0), some (iv (a3 + 1))]) (pc := 55) dX5_clearRun_55 rfl (by decide) rfl rfl ?_
  refine y_goto (tgt := 17) (pc := 58) dX5_clearRun_58 (by decide) ?_
  exact y_sub (ls_s (ls_s (ls_s (ls_s ls_0)))) (hk17 M (mxZ a1 s0) s0 (a3 + 1))
def m_X5_clearRun_17 (n : Nat) : Nat → Mem → Int → Int → Int → Rs
  | 0, _, _, _, _ => none
  | t + 1, M, a1, a2, a3 => if I32 a3 then (if 60 ≤ a3 then (some (a1, M)) else (bd (m_X0_goOn n M 1) (fun _ M5 => bd (m_X0_foggyCells n M5) (fun r7 M6 => if I32 r7 then (if r7 = 0 then (m_X5_clearRun_48 n (m_X5_clearRun_17 n t) M6 a1 a3 (a2 + 1)) else (m_X5_clearRun_48 n (m_X5_clearRun_17 n t) M6 a1 a3 0)) else none)))) else none
theorem t_X5_clearRun_17 (n : Nat) : ∀ (t : Nat) (M : Mem) (a1 : Int) (a2 : Int) (a3 : Int), Y RX5 cX5_clearRun 4 5 0 none 17 [some (rv 130), some (iv a1), some (iv a2), some (iv a3)] [] M (m_X5_clearRun_17 n t M a1 a2 a3) := by
  intro t
  induction t with
  | zero => intro M a1 a2 a3; exact y_none
  | succ t ih =>
    intro M a1 a2 a3
    rewrite [m_X5_clearRun_17]
    refine y_iload_n (pc := 17) dX5_clearRun_17 rfl ?_
    refine y_bipush (pc := 18) dX5_clearRun_18 (by decide) ?_
    refine y_gd (fun h3 => ?_)
    refine y_icmp_ge (off := 41) (tgt := 61) (pc := 20) dX5_clearRun_20 (by decide) h3 (by decide) (fun h4 => ?_) (fun h4 => ?_)
    · refine y_iload_n (pc := 61) dX5_clearRun_61 rfl ?_
      exact y_iret (pc := 62) dX5_clearRun_62
    · refine y_aload_n (pc := 23) dX5_clearRun_23 rfl ?_
      refine y_getref (pc := 24) (x := 129) g_X5_50 dX5_clearRun_24 ?_
      refine y_iconst (pc := 27) dX5_clearRun_27 ?_
      refine y_callVv (pc := 28) v_X0_goOn l_X5_119 dX5_clearRun_28 (c_X0_goOn n _ _) rfl rc_X0 rfl (by decide) (by decide) (Nat.le_of_ble_eq_true rfl) (fun _ M5 _ => ?_)
      refine y_aload_n (pc := 31) dX5_clearRun_31 rfl ?_
      refine y_getref (pc := 32) (x := 129) g_X5_50 dX5_clearRun_32 ?_
      refine y_callVi (pc := 35) v_X0_foggyCells l_X5_217 dX5_clearRun_35 (c_X0_foggyCells n _) rfl rc_X0 rfl (by decide) (by decide) (Nat.le_of_ble_eq_true rfl) (fun r7 M6 _ => ?_)
      refine y_gd (fun h8 => ?_)
      refine y_if_ne (off := 9) (tgt := 47) (pc := 38) dX5_clearRun_38 (by decide) h8 (fun h9 => ?_) (fun h9 => ?_)
      · refine y_iconst (pc := 47) dX5_clearRun_47 ?_
        exact y_sub (ls_s (ls_s (ls_n (ls_s ls_0)))) (t_X5_clearRun_48 n (m_X5_clearRun_17 n t) ih M6 a1 a3 0)
      · refine y_iload_n (pc := 41) dX5_clearRun_41 rfl ?_
        refine y_iconst (pc := 42) dX5_clearRun_42 ?_
        refine y_iadd (pc := 43) dX5_clearRun_43 ?_
        refine y_goto (tgt := 48) (pc := 44) dX5_clearRun_44 (by decide) ?_
        exact y_sub (ls_s (ls_s (ls_n (ls_s ls_0)))) (t_X5_clearRun_48 n (m_X5_clearRun_17 n t) ih M6 a1 a3 (a2 + 1))
def m_X5_clearRun (n : Nat) (M : Mem) : Rs := bd (m_X0_begin n M 0) (fun _ M10 => m_X5_clearRun_17 n n M10 0 0 0)
theorem y_X5_clearRun (n : Nat) (M : Mem) : Y RX5 cX5_clearRun 4 5 0 none 0 [some (rv 130), none, none, none] [] M (m_X5_clearRun n M) := by
  unfold m_X5_clearRun
  refine y_aload_n (pc := 0) dX5_clearRun_0 rfl ?_
  refine y_getref (pc := 1) (x := 129) g_X5_50 dX5_clearRun_1 ?_
  refine y_aload_n (pc := 4) dX5_clearRun_4 rfl ?_
  refine y_getref (pc := 5) (x := 0) g_X5_10 dX5_clearRun_5 ?_
  refine y_callVv (pc := 8) v_X0_begin l_X5_67 dX5_clearRun_8 (c_X0_begin n _ _) rfl rc_X0 rfl (by decide) (by decide) (Nat.le_of_ble_eq_true rfl) (fun _ M10 _ => ?_)
  refine y_iconst (pc := 11) dX5_clearRun_11 ?_
  refine y_istore_n (L' := [some (rv 130), some (iv 0), none, none]) (pc := 12) dX5_clearRun_12 (by decide) rfl rfl ?_
  refine y_iconst (pc := 13) dX5_clearRun_13 ?_
  refine y_istore_n (L' := [some (rv 130), some (iv 0), some (iv 0), none]) (pc := 14) dX5_clearRun_14 (by decide) rfl rfl ?_
  refine y_iconst (pc := 15) dX5_clearRun_15 ?_
  refine y_istore_n (L' := [some (rv 130), some (iv 0), some (iv 0), some (iv 0)]) (pc := 16) dX5_clearRun_16 (by decide) rfl rfl ?_
  exact y_sub (ls_s (ls_s (ls_s (ls_s ls_0)))) (t_X5_clearRun_17 n n M10 0 0 0)
theorem c_X5_clearRun (n : Nat) (M : Mem) : ∀ res : Int × Mem, m_X5_clearRun n M = some res → CTi yX5_clearRun cX5_clearRun 4 (some .int) 5 [rv 130] M res := CTi_of (by decide +kernel) rfl (Nat.le_of_ble_eq_true rfl) rfl (y_X5_clearRun n M)
def m_X5_way_14 (n : Nat) (M : Mem) : Rs := bd (m_X5_refuse n M (-1)) (fun r2 M1 => some (r2, M1))
theorem t_X5_way_14 (n : Nat) (M : Mem) : Y RX5 cX5_way 3 5 0 none 14 [some (rv 130), none, none] [] M (m_X5_way_14 n M) := by
  unfold m_X5_way_14
  refine y_aload_n (pc := 14) dX5_way_14 rfl ?_
  refine y_iconst (pc := 15) dX5_way_15 ?_
  refine y_callVi (pc := 16) v_X5_refuse l_X5_60 dX5_way_16 (c_X5_refuse n _ _) rfl rc_X5 rfl (by decide) (by decide) (Nat.le_of_ble_eq_true rfl) (fun r2 M1 _ => ?_)
  exact y_iret (pc := 19) dX5_way_19
def m_X5_way (n : Nat) (M : Mem) (a1 : Int) (a2 : Int) : Rs := bd (m_X5_isCell n M a1) (fun r4 M3 => if I32 r4 then (if r4 = 0 then (m_X5_way_14 n M3) else (bd (m_X5_isCell n M3 a2) (fun r8 M7 => if I32 r8 then (if r8 = 0 then (m_X5_way_14 n M7) else (bd (m_X0_begin n M7 0) (fun _ M11 => bd (m_X0_foggyCells n M11) (fun r13 M12 => bd (m_X2_steps n M12 a1 a2 r13) (fun r15 M14 => some (r15, M14)))))) else none))) else none)
theorem y_X5_way (n : Nat) (M : Mem) (a1 : Int) (a2 : Int) : Y RX5 cX5_way 3 5 0 none 0 [some (rv 130), some (iv a1), some (iv a2)] [] M (m_X5_way n M a1 a2) := by
  unfold m_X5_way
  refine y_iload_n (pc := 0) dX5_way_0 rfl ?_
  refine y_callSi (pc := 1) s_X5_isCell l_X5_186 dX5_way_1 (c_X5_isCell n _ _) rfl rfl (by decide) (by decide) (Nat.le_of_ble_eq_true rfl) (fun r4 M3 _ => ?_)
  refine y_gd (fun h5 => ?_)
  refine y_if_eq (off := 10) (tgt := 14) (pc := 4) dX5_way_4 (by decide) h5 (fun h6 => ?_) (fun h6 => ?_)
  · exact y_sub (ls_s (ls_n (ls_n ls_0))) (t_X5_way_14 n M3)
  · refine y_iload_n (pc := 7) dX5_way_7 rfl ?_
    refine y_callSi (pc := 8) s_X5_isCell l_X5_186 dX5_way_8 (c_X5_isCell n _ _) rfl rfl (by decide) (by decide) (Nat.le_of_ble_eq_true rfl) (fun r8 M7 _ => ?_)
    refine y_gd (fun h9 => ?_)
    refine y_if_ne (off := 9) (tgt := 20) (pc := 11) dX5_way_11 (by decide) h9 (fun h10 => ?_) (fun h10 => ?_)
    · refine y_aload_n (pc := 20) dX5_way_20 rfl ?_
      refine y_getref (pc := 21) (x := 129) g_X5_50 dX5_way_21 ?_
      refine y_aload_n (pc := 24) dX5_way_24 rfl ?_
      refine y_getref (pc := 25) (x := 0) g_X5_10 dX5_way_25 ?_
      refine y_callVv (pc := 28) v_X0_begin l_X5_67 dX5_way_28 (c_X0_begin n _ _) rfl rc_X0 rfl (by decide) (by decide) (Nat.le_of_ble_eq_true rfl) (fun _ M11 _ => ?_)
      refine y_iload_n (pc := 31) dX5_way_31 rfl ?_
      refine y_iload_n (pc := 32) dX5_way_32 rfl ?_
      refine y_aload_n (pc := 33) dX5_way_33 rfl ?_
      refine y_getref (pc := 34) (x := 129) g_X5_50 dX5_way_34 ?_
      refine y_callVi (pc := 37) v_X0_foggyCells l_X5_217 dX5_way_37 (c_X0_foggyCells n _) rfl rc_X0 rfl (by decide) (by decide) (Nat.le_of_ble_eq_true rfl) (fun r13 M12 _ => ?_)
      refine y_callSi (pc := 40) s_X2_steps l_X5_295 dX5_way_40 (c_X2_steps n _ _ _ _) rfl rfl (by decide) (by decide) (Nat.le_of_ble_eq_true rfl) (fun r15 M14 _ => ?_)
      exact y_iret (pc := 43) dX5_way_43
    · exact y_sub (ls_s (ls_n (ls_n ls_0))) (t_X5_way_14 n M7)
theorem c_X5_way (n : Nat) (M : Mem) (a1 : Int) (a2 : Int) : ∀ res : Int × Mem, m_X5_way n M a1 a2 = some res → CTi yX5_way cX5_way 3 (some .int) 5 [rv 130, iv a1, iv a2] M res := CTi_of (by decide +kernel) rfl (Nat.le_of_ble_eq_true rfl) rfl (y_X5_way n M a1 a2)
def m_X5_share_38 (n : Nat) : Nat → Mem → Int → Int → Int → Int → Rs
  | 0, _, _, _, _, _ => none
  | t + 1, M, a1, a2, a3, a4 => if I32 a4 then (if (rd M 0 7) ≤ a4 then (bd (m_X4_worthsOf n M 0 a1) (fun r4 M3 => if I32 r4 then (if I32 a3 then (bd (m_X5_lowest n M3 r4 a3 a2) (fun r8 M7 => some (r8, M7))) else none) else none)) else (if 0 ≤ a4 ∧ a4 < 8 then (lt (a3 + (rd M 4 (Int.toNat a4))) (fun x10 => (m_X5_share_38 n t) M a1 a2 x10 (a4 + 1))) else none)) else none
theorem t_X5_share_38 (n : Nat) : ∀ (t : Nat) (M : Mem) (a1 : Int) (a2 : Int) (a3 : Int) (a4 : Int), Y RX5 cX5_share 5 2 2 none 38 [some (rv 130), some (iv a1), some (iv a2), some (iv a3), some (iv a4)] [] M (m_X5_share_38 n t M a1 a2 a3 a4) := by
  intro t
  induction t with
  | zero => intro M a1 a2 a3 a4; exact y_none
  | succ t ih =>
    intro M a1 a2 a3 a4
    rewrite [m_X5_share_38]
    refine y_iload (pc := 38) dX5_share_38 rfl ?_
    refine y_aload_n (pc := 40) dX5_share_40 rfl ?_
    refine y_getref (pc := 41) (x := 0) g_X5_10 dX5_share_41 ?_
    refine y_getint (pc := 44) (g_X5_207 (by decide)) dX5_share_44 ?_
    refine y_gd (fun h1 => ?_)
    refine y_icmp_ge (off := 22) (tgt := 69) (pc := 47) dX5_share_47 (by decide) h1 (rd_rng _ _ _) (fun h2 => ?_) (fun h2 => ?_)
    · refine y_aload_n (pc := 69) dX5_share_69 rfl ?_
      refine y_getref (pc := 70) (x := 0) g_X5_10 dX5_share_70 ?_
      refine y_iload_n (pc := 73) dX5_share_73 rfl ?_
      refine y_callVi (pc := 74) v_X4_worthsOf l_X5_156 dX5_share_74 (c_X4_worthsOf n _ _ _) rfl (rc_X4 (by decide)) rfl (by decide) (by decide) (Nat.le_of_ble_eq_true rfl) (fun r4 M3 _ => ?_)
      refine y_gd (fun h5 => ?_)
      refine y_i2l (pc := 77) dX5_share_77 h5 ?_
      refine y_iload_n (pc := 78) dX5_share_78 rfl ?_
      refine y_gd (fun h6 => ?_)
      refine y_i2l (pc := 79) dX5_share_79 h6 ?_
      refine y_iload_n (pc := 80) dX5_share_80 rfl ?_
      refine y_callSl (pc := 81) s_X5_lowest l_X5_272 dX5_share_81 (c_X5_lowest n _ _ _ _) rfl rfl (by decide) (by decide) (Nat.le_of_ble_eq_true rfl) (fun r8 M7 _ => ?_)
      exact y_lret (pc := 84) dX5_share_84
    · refine y_iload_n (pc := 50) dX5_share_50 rfl ?_
      refine y_aload_n (pc := 51) dX5_share_51 rfl ?_
      refine y_getref (pc := 52) (x := 0) g_X5_10 dX5_share_52 ?_
      refine y_getref (pc := 55) (x := 4) (g_X5_162 (by decide)) dX5_share_55 ?_
      refine y_iload (pc := 58) dX5_share_58 rfl ?_
      refine y_gd (fun h9 => ?_)
      refine y_iald (pc := 60) dX5_share_60 ar_4 h9 ?_
      refine y_iadd (pc := 61) dX5_share_61 ?_
      refine y_leti (fun x10 => ?_)
      refine y_istore_n (L' := [some (rv 130), some (iv a1), some (iv a2), some (iv x10), some (iv a4)]) (pc := 62) dX5_share_62 (by decide) rfl rfl ?_
      refine y_iinc (L' := [some (rv 130), some (iv a1), some (iv a2), some (iv x10), some (iv (a4 + 1))]) (pc := 63) dX5_share_63 rfl (by decide) rfl rfl ?_
      refine y_goto (tgt := 38) (pc := 66) dX5_share_66 (by decide) ?_
      exact y_sub (ls_s (ls_s (ls_s (ls_s (ls_s ls_0))))) (ih M a1 a2 x10 (a4 + 1))
def m_X5_share_33 (n : Nat) (M : Mem) (a1 : Int) (a2 : Int) : Rs := m_X5_share_38 n n M a1 a2 0 0
theorem t_X5_share_33 (n : Nat) (M : Mem) (a1 : Int) (a2 : Int) : Y RX5 cX5_share 5 2 2 none 33 [some (rv 130), some (iv a1), some (iv a2), none, none] [] M (m_X5_share_33 n M a1 a2) := by
  unfold m_X5_share_33
  refine y_iconst (pc := 33) dX5_share_33 ?_
  refine y_istore_n (L' := [some (rv 130), some (iv a1), some (iv a2), some (iv 0), none]) (pc := 34) dX5_share_34 (by decide) rfl rfl ?_
  refine y_iconst (pc := 35) dX5_share_35 ?_
  refine y_istore (L' := [some (rv 130), some (iv a1), some (iv a2), some (iv 0), some (iv 0)]) (pc := 36) dX5_share_36 (by decide) rfl rfl ?_
  exact y_sub (ls_s (ls_s (ls_s (ls_s (ls_s ls_0))))) (t_X5_share_38 n n M a1 a2 0 0)
def m_X5_share (n : Nat) (M : Mem) (a1 : Int) (a2 : Int) : Rs := bd (m_X4_hasPerson n M 0 a1) (fun r12 M11 => if I32 r12 then (if r12 = 0 then (bd (m_X5_refuseLong n M11 (-1)) (fun r21 M20 => some (r21, M20))) else (if I32 a2 then (if a2 = 0 then (m_X5_share_33 n M11 a1 a2) else (if a2 = 1 then (m_X5_share_33 n M11 a1 a2) else (bd (m_X5_refuseLong n M11 (-2)) (fun r19 M18 => some (r19, M18))))) else none)) else none)
theorem y_X5_share (n : Nat) (M : Mem) (a1 : Int) (a2 : Int) : Y RX5 cX5_share 5 2 2 none 0 [some (rv 130), some (iv a1), some (iv a2), none, none] [] M (m_X5_share n M a1 a2) := by
  unfold m_X5_share
  refine y_aload_n (pc := 0) dX5_share_0 rfl ?_
  refine y_getref (pc := 1) (x := 0) g_X5_10 dX5_share_1 ?_
  refine y_iload_n (pc := 4) dX5_share_4 rfl ?_
  refine y_callVi (pc := 5) v_X4_hasPerson l_X5_123 dX5_share_5 (c_X4_hasPerson n _ _ _) rfl (rc_X4 (by decide)) rfl (by decide) (by decide) (Nat.le_of_ble_eq_true rfl) (fun r12 M11 _ => ?_)
  refine y_gd (fun h13 => ?_)
  refine y_if_ne (off := 9) (tgt := 17) (pc := 8) dX5_share_8 (by decide) h13 (fun h14 => ?_) (fun h14 => ?_)
  · refine y_iload_n (pc := 17) dX5_share_17 rfl ?_
    refine y_gd (fun h15 => ?_)
    refine y_if_eq (off := 15) (tgt := 33) (pc := 18) dX5_share_18 (by decide) h15 (fun h16 => ?_) (fun h16 => ?_)
    · exact y_sub (ls_s (ls_s (ls_s (ls_n (ls_n ls_0))))) (t_X5_share_33 n M11 a1 a2)
    · refine y_iload_n (pc := 21) dX5_share_21 rfl ?_
      refine y_iconst (pc := 22) dX5_share_22 ?_
      refine y_icmp_eq (off := 10) (tgt := 33) (pc := 23) dX5_share_23 (by decide) h15 (by decide) (fun h17 => ?_) (fun h17 => ?_)
      · exact y_sub (ls_s (ls_s (ls_s (ls_n (ls_n ls_0))))) (t_X5_share_33 n M11 a1 a2)
      · refine y_aload_n (pc := 26) dX5_share_26 rfl ?_
        refine y_bipush (pc := 27) dX5_share_27 (by decide) ?_
        refine y_callVl (pc := 29) v_X5_refuseLong l_X5_260 dX5_share_29 (c_X5_refuseLong n _ _) rfl rc_X5 rfl (by decide) (by decide) (Nat.le_of_ble_eq_true rfl) (fun r19 M18 _ => ?_)
        exact y_lret (pc := 32) dX5_share_32
  · refine y_aload_n (pc := 11) dX5_share_11 rfl ?_
    refine y_iconst (pc := 12) dX5_share_12 ?_
    refine y_callVl (pc := 13) v_X5_refuseLong l_X5_260 dX5_share_13 (c_X5_refuseLong n _ _) rfl rc_X5 rfl (by decide) (by decide) (Nat.le_of_ble_eq_true rfl) (fun r21 M20 _ => ?_)
    exact y_lret (pc := 16) dX5_share_16
theorem c_X5_share (n : Nat) (M : Mem) (a1 : Int) (a2 : Int) : ∀ res : Int × Mem, m_X5_share n M a1 a2 = some res → CTl yX5_share cX5_share 5 2 [rv 130, iv a1, iv a2] M res := CTl_of (by decide +kernel) rfl (Nat.le_of_ble_eq_true rfl) rfl (y_X5_share n M a1 a2)
def m_X5_crowdedCell_7 (n : Nat) : Nat → Mem → Int → Int → Int → Rs
  | 0, _, _, _, _ => none
  | t + 1, M, a1, a2, a3 => if I32 a3 then (if 24 ≤ a3 then (some (a1, M)) else (bd (m_X4_peopleOn n M 0 a3) (fun r4 M3 => bd (m_J6_bitCount_0f7a4 n M3 r4) (fun r6 M5 => if I32 r6 then (if I32 a2 then (if r6 ≤ a2 then ((m_X5_crowdedCell_7 n t) M5 a1 a2 (a3 + 1)) else ((m_X5_crowdedCell_7 n t) M5 a3 r6 (a3 + 1))) else none) else none)))) else none
theorem t_X5_crowdedCell_7 (n : Nat) : ∀ (t : Nat) (M : Mem) (a1 : Int) (a2 : Int) (a3 : Int), Y RX5 cX5_crowdedCell 5 1 0 none 7 [some (rv 130), some (iv a1), some (iv a2), some (iv a3), none] [] M (m_X5_crowdedCell_7 n t M a1 a2 a3) := by
  intro t
  induction t with
  | zero => intro M a1 a2 a3; exact y_none
  | succ t ih =>
    intro M a1 a2 a3
    rewrite [m_X5_crowdedCell_7]
    refine y_iload_n (pc := 7) dX5_crowdedCell_7 rfl ?_
    refine y_bipush (pc := 8) dX5_crowdedCell_8 (by decide) ?_
    refine y_gd (fun h1 => ?_)
    refine y_icmp_ge (off := 33) (tgt := 43) (pc := 10) dX5_crowdedCell_10 (by decide) h1 (by decide) (fun h2 => ?_) (fun h2 => ?_)
    · refine y_iload_n (pc := 43) dX5_crowdedCell_43 rfl ?_
      exact y_iret (pc := 44) dX5_crowdedCell_44
    · refine y_aload_n (pc := 13) dX5_crowdedCell_13 rfl ?_
      refine y_getref (pc := 14) (x := 0) g_X5_10 dX5_crowdedCell_14 ?_
      refine y_iload_n (pc := 17) dX5_crowdedCell_17 rfl ?_
      refine y_callVi (pc := 18) v_X4_peopleOn l_X5_198 dX5_crowdedCell_18 (c_X4_peopleOn n _ _ _) rfl (rc_X4 (by decide)) rfl (by decide) (by decide) (Nat.le_of_ble_eq_true rfl) (fun r4 M3 _ => ?_)
      refine y_callSi (pc := 21) s_J6_bitCount_0f7a4 l_X5_242 dX5_crowdedCell_21 (c_J6_bitCount_0f7a4 n _ _) rfl rfl (by decide) (by decide) (Nat.le_of_ble_eq_true rfl) (fun r6 M5 _ => ?_)
      refine y_istore (L' := [some (rv 130), some (iv a1), some (iv a2), some (iv a3), some (iv r6)]) (pc := 24) dX5_crowdedCell_24 (by decide) rfl rfl ?_
      refine y_iload (pc := 26) dX5_crowdedCell_26 rfl ?_
      refine y_iload_n (pc := 28) dX5_crowdedCell_28 rfl ?_
      refine y_gd (fun h7 => ?_)
      refine y_gd (fun h8 => ?_)
      refine y_icmp_le (off := 8) (tgt := 37) (pc := 29) dX5_crowdedCell_29 (by decide) h7 h8 (fun h9 => ?_) (fun h9 => ?_)
      · refine y_iinc (L' := [some (rv 130), some (iv a1), some (iv a2), some (iv (a3 + 1)), some (iv r6)]) (pc := 37) dX5_crowdedCell_37 rfl (by decide) rfl rfl ?_
        refine y_goto (tgt := 7) (pc := 40) dX5_crowdedCell_40 (by decide) ?_
        exact y_sub (ls_s (ls_s (ls_s (ls_s (ls_n ls_0))))) (ih M5 a1 a2 (a3 + 1))
      · refine y_iload (pc := 32) dX5_crowdedCell_32 rfl ?_
        refine y_istore_n (L' := [some (rv 130), some (iv a1), some (iv r6), some (iv a3), some (iv r6)]) (pc := 34) dX5_crowdedCell_34 (by decide) rfl rfl ?_
        refine y_iload_n (pc := 35) dX5_crowdedCell_35 rfl ?_
        refine y_istore_n (L' := [some (rv 130), some (iv a3), some (iv r6), some (iv a3), some (iv r6)]) (pc := 36) dX5_crowdedCell_36 (by decide) rfl rfl ?_
        refine y_iinc (L' := [some (rv 130), some (iv a3), some (iv r6), some (iv (a3 + 1)), some (iv r6)]) (pc := 37) dX5_crowdedCell_37 rfl (by decide) rfl rfl ?_
        refine y_goto (tgt := 7) (pc := 40) dX5_crowdedCell_40 (by decide) ?_
        exact y_sub (ls_s (ls_s (ls_s (ls_s (ls_n ls_0))))) (ih M5 a3 r6 (a3 + 1))
def m_X5_crowdedCell (n : Nat) (M : Mem) : Rs := m_X5_crowdedCell_7 n n M (-9) 0 0
theorem y_X5_crowdedCell (n : Nat) (M : Mem) : Y RX5 cX5_crowdedCell 5 1 0 none 0 [some (rv 130), none, none, none, none] [] M (m_X5_crowdedCell n M) := by
  unfold m_X5_crowdedCell
  refine y_bipush (pc := 0) dX5_crowdedCell_0 (by decide) ?_
  refine y_istore_n (L' := [some (rv 130), some (iv (-9)), none, none, none]) (pc := 2) dX5_crowdedCell_2 (by decide) rfl rfl ?_
  refine y_iconst (pc := 3) dX5_crowdedCell_3 ?_
  refine y_istore_n (L' := [some (rv 130), some (iv (-9)), some (iv 0), none, none]) (pc := 4) dX5_crowdedCell_4 (by decide) rfl rfl ?_
  refine y_iconst (pc := 5) dX5_crowdedCell_5 ?_
  refine y_istore_n (L' := [some (rv 130), some (iv (-9)), some (iv 0), some (iv 0), none]) (pc := 6) dX5_crowdedCell_6 (by decide) rfl rfl ?_
  exact y_sub (ls_s (ls_s (ls_s (ls_s (ls_n ls_0))))) (t_X5_crowdedCell_7 n n M (-9) 0 0)
theorem c_X5_crowdedCell (n : Nat) (M : Mem) : ∀ res : Int × Mem, m_X5_crowdedCell n M = some res → CTi yX5_crowdedCell cX5_crowdedCell 5 (some .int) 1 [rv 130] M res := CTi_of (by decide +kernel) rfl (Nat.le_of_ble_eq_true rfl) rfl (y_X5_crowdedCell n M)
def m_X5_hoursAlike_26 (n : Nat) : Nat → Mem → Int → Int → Int → Rs
  | 0, _, _, _, _ => none
  | t + 1, M, a1, a2, a3 => if I32 a3 then (if 60 ≤ a3 then (some (a2, M)) else (bd (m_X0_goOn n M 1) (fun _ M3 => bd (m_X0_foggyCells n M3) (fun r5 M4 => bd (m_J6_bitCount_0f7a4 n M4 r5) (fun r7 M6 => if I32 r7 then (if I32 a1 then (if r7 = a1 then ((m_X5_hoursAlike_26 n t) M6 a1 (a2 + 1) (a3 + 1)) else ((m_X5_hoursAlike_26 n t) M6 a1 a2 (a3 + 1))) else none) else none))))) else none
theorem t_X5_hoursAlike_26 (n : Nat) : ∀ (t : Nat) (M : Mem) (a1 : Int) (a2 : Int) (a3 : Int), Y RX5 cX5_hoursAlike 4 5 0 none 26 [some (rv 130), some (iv a1), some (iv a2), some (iv a3)] [] M (m_X5_hoursAlike_26 n t M a1 a2 a3) := by
  intro t
  induction t with
  | zero => intro M a1 a2 a3; exact y_none
  | succ t ih =>
    intro M a1 a2 a3
    rewrite [m_X5_hoursAlike_26]
    refine y_iload_n (pc := 26) dX5_hoursAlike_26 rfl ?_
    refine y_bipush (pc := 27) dX5_hoursAlike_27 (by decide) ?_
    refine y_gd (fun h1 => ?_)
    refine y_icmp_ge (off := 34) (tgt := 63) (pc := 29) dX5_hoursAlike_29 (by decide) h1 (by decide) (fun h2 => ?_) (fun h2 => ?_)
    · refine y_iload_n (pc := 63) dX5_hoursAlike_63 rfl ?_
      exact y_iret (pc := 64) dX5_hoursAlike_64
    · refine y_aload_n (pc := 32) dX5_hoursAlike_32 rfl ?_
      refine y_getref (pc := 33) (x := 129) g_X5_50 dX5_hoursAlike_33 ?_
      refine y_iconst (pc := 36) dX5_hoursAlike_36 ?_
      refine y_callVv (pc := 37) v_X0_goOn l_X5_119 dX5_hoursAlike_37 (c_X0_goOn n _ _) rfl rc_X0 rfl (by decide) (by decide) (Nat.le_of_ble_eq_true rfl) (fun _ M3 _ => ?_)
      refine y_aload_n (pc := 40) dX5_hoursAlike_40 rfl ?_
      refine y_getref (pc := 41) (x := 129) g_X5_50 dX5_hoursAlike_41 ?_
      refine y_callVi (pc := 44) v_X0_foggyCells l_X5_217 dX5_hoursAlike_44 (c_X0_foggyCells n _) rfl rc_X0 rfl (by decide) (by decide) (Nat.le_of_ble_eq_true rfl) (fun r5 M4 _ => ?_)
      refine y_callSi (pc := 47) s_J6_bitCount_0f7a4 l_X5_242 dX5_hoursAlike_47 (c_J6_bitCount_0f7a4 n _ _) rfl rfl (by decide) (by decide) (Nat.le_of_ble_eq_true rfl) (fun r7 M6 _ => ?_)
      refine y_iload_n (pc := 50) dX5_hoursAlike_50 rfl ?_
      refine y_gd (fun h8 => ?_)
      refine y_gd (fun h9 => ?_)
      refine y_icmp_ne (off := 6) (tgt := 57) (pc := 51) dX5_hoursAlike_51 (by decide) h8 h9 (fun h10 => ?_) (fun h10 => ?_)
      · refine y_iinc (L' := [some (rv 130), some (iv a1), some (iv a2), some (iv (a3 + 1))]) (pc := 57) dX5_hoursAlike_57 rfl (by decide) rfl rfl ?_
        refine y_goto (tgt := 26) (pc := 60) dX5_hoursAlike_60 (by decide) ?_
        exact y_sub (ls_s (ls_s (ls_s (ls_s ls_0)))) (ih M6 a1 a2 (a3 + 1))
      · refine y_iinc (L' := [some (rv 130), some (iv a1), some (iv (a2 + 1)), some (iv a3)]) (pc := 54) dX5_hoursAlike_54 rfl (by decide) rfl rfl ?_
        refine y_iinc (L' := [some (rv 130), some (iv a1), some (iv (a2 + 1)), some (iv (a3 + 1))]) (pc := 57) dX5_hoursAlike_57 rfl (by decide) rfl rfl ?_
        refine y_goto (tgt := 26) (pc := 60) dX5_hoursAlike_60 (by decide) ?_
        exact y_sub (ls_s (ls_s (ls_s (ls_s ls_0)))) (ih M6 a1 (a2 + 1) (a3 + 1))
def m_X5_hoursAlike (n : Nat) (M : Mem) : Rs := bd (m_X0_begin n M 0) (fun _ M11 => bd (m_X0_foggyCells n M11) (fun r13 M12 => bd (m_J6_bitCount_0f7a4 n M12 r13) (fun r15 M14 => m_X5_hoursAlike_26 n n M14 r15 0 0)))
theorem y_X5_hoursAlike (n : Nat) (M : Mem) : Y RX5 cX5_hoursAlike 4 5 0 none 0 [some (rv 130), none, none, none] [] M (m_X5_hoursAlike n M) := by
  unfold m_X5_hoursAlike
  refine y_aload_n (pc := 0) dX5_hoursAlike_0 rfl ?_
  refine y_getref (pc := 1) (x := 129) g_X5_50 dX5_hoursAlike_1 ?_
  refine y_aload_n (pc := 4) dX5_hoursAlike_4 rfl ?_
  refine y_getref (pc := 5) (x := 0) g_X5_10 dX5_hoursAlike_5 ?_
  refine y_callVv (pc := 8) v_X0_begin l_X5_67 dX5_hoursAlike_8 (c_X0_begin n _ _) rfl rc_X0 rfl (by decide) (by decide) (Nat.le_of_ble_eq_true rfl) (fun _ M11 _ => ?_)
  refine y_aload_n (pc := 11) dX5_hoursAlike_11 rfl ?_
  refine y_getref (pc := 12) (x := 129) g_X5_50 dX5_hoursAlike_12 ?_
  refine y_callVi (pc := 15) v_X0_foggyCells l_X5_217 dX5_hoursAlike_15 (c_X0_foggyCells n _) rfl rc_X0 rfl (by decide) (by decide) (Nat.le_of_ble_eq_true rfl) (fun r13 M12 _ => ?_)
  refine y_callSi (pc := 18) s_J6_bitCount_0f7a4 l_X5_242 dX5_hoursAlike_18 (c_J6_bitCount_0f7a4 n _ _) rfl rfl (by decide) (by decide) (Nat.le_of_ble_eq_true rfl) (fun r15 M14 _ => ?_)
  refine y_istore_n (L' := [some (rv 130), some (iv r15), none, none]) (pc := 21) dX5_hoursAlike_21 (by decide) rfl rfl ?_
  refine y_iconst (pc := 22) dX5_hoursAlike_22 ?_
  refine y_istore_n (L' := [some (rv 130), some (iv r15), some (iv 0), none]) (pc := 23) dX5_hoursAlike_23 (by decide) rfl rfl ?_
  refine y_iconst (pc := 24) dX5_hoursAlike_24 ?_
  refine y_istore_n (L' := [some (rv 130), some (iv r15), some (iv 0), some (iv 0)]) (pc := 25) dX5_hoursAlike_25 (by decide) rfl rfl ?_
  exact y_sub (ls_s (ls_s (ls_s (ls_s ls_0)))) (t_X5_hoursAlike_26 n n M14 r15 0 0)
theorem c_X5_hoursAlike (n : Nat) (M : Mem) : ∀ res : Int × Mem, m_X5_hoursAlike n M = some res → CTi yX5_hoursAlike cX5_hoursAlike 4 (some .int) 5 [rv 130] M res := CTi_of (by decide +kernel) rfl (Nat.le_of_ble_eq_true rfl) rfl (y_X5_hoursAlike n M)
def m_X5_richest_7 (n : Nat) : Nat → Mem → Int → Int → Int → Rs
  | 0, _, _, _, _ => none
  | t + 1, M, a1, a2, a3 => if I32 a3 then (if (rd M 0 12) ≤ a3 then (some (a1, M)) else (bd (m_X4_worthsOf n M 0 a3) (fun r4 M3 => if I32 r4 then (if I32 a2 then (if r4 ≤ a2 then ((m_X5_richest_7 n t) M3 a1 a2 (a3 + 1)) else ((m_X5_richest_7 n t) M3 a3 r4 (a3 + 1))) else none) else none))) else none
theorem t_X5_richest_7 (n : Nat) : ∀ (t : Nat) (M : Mem) (a1 : Int) (a2 : Int) (a3 : Int), Y RX5 cX5_richest 5 1 0 none 7 [some (rv 130), some (iv a1), some (iv a2), some (iv a3), none] [] M (m_X5_richest_7 n t M a1 a2 a3) := by
  intro t
  induction t with
  | zero => intro M a1 a2 a3; exact y_none
  | succ t ih =>
    intro M a1 a2 a3
    rewrite [m_X5_richest_7]
    refine y_iload_n (pc := 7) dX5_richest_7 rfl ?_
    refine y_aload_n (pc := 8) dX5_richest_8 rfl ?_
    refine y_getref (pc := 9) (x := 0) g_X5_10 dX5_richest_9 ?_
    refine y_getint (pc := 12) (g_X5_204 (by decide)) dX5_richest_12 ?_
    refine y_gd (fun h1 => ?_)
    refine y_icmp_ge (off := 30) (tgt := 45) (pc := 15) dX5_richest_15 (by decide) h1 (rd_rng _ _ _) (fun h2 => ?_) (fun h2 => ?_)
    · refine y_iload_n (pc := 45) dX5_richest_45 rfl ?_
      exact y_iret (pc := 46) dX5_richest_46
    · refine y_aload_n (pc := 18) dX5_richest_18 rfl ?_
      refine y_getref (pc := 19) (x := 0) g_X5_10 dX5_richest_19 ?_
      refine y_iload_n (pc := 22) dX5_richest_22 rfl ?_
      refine y_callVi (pc := 23) v_X4_worthsOf l_X5_156 dX5_richest_23 (c_X4_worthsOf n _ _ _) rfl (rc_X4 (by decide)) rfl (by decide) (by decide) (Nat.le_of_ble_eq_true rfl) (fun r4 M3 _ => ?_)
      refine y_istore (L' := [some (rv 130), some (iv a1), some (iv a2), some (iv a3), some (iv r4)]) (pc := 26) dX5_richest_26 (by decide) rfl rfl ?_
      refine y_iload (pc := 28) dX5_richest_28 rfl ?_
      refine y_iload_n (pc := 30) dX5_richest_30 rfl ?_
      refine y_gd (fun h5 => ?_)
      refine y_gd (fun h6 => ?_)
      refine y_icmp_le (off := 8) (tgt := 39) (pc := 31) dX5_richest_31 (by decide) h5 h6 (fun h7 => ?_) (fun h7 => ?_)
      · refine y_iinc (L' := [some (rv 130), some (iv a1), some (iv a2), some (iv (a3 + 1)), some (iv r4)]) (pc := 39) dX5_richest_39 rfl (by decide) rfl rfl ?_
        refine y_goto (tgt := 7) (pc := 42) dX5_richest_42 (by decide) ?_
        exact y_sub (ls_s (ls_s (ls_s (ls_s (ls_n ls_0))))) (ih M3 a1 a2 (a3 + 1))
      · refine y_iload (pc := 34) dX5_richest_34 rfl ?_
        refine y_istore_n (L' := [some (rv 130), some (iv a1), some (iv r4), some (iv a3), some (iv r4)]) (pc := 36) dX5_richest_36 (by decide) rfl rfl ?_
        refine y_iload_n (pc := 37) dX5_richest_37 rfl ?_
        refine y_istore_n (L' := [some (rv 130), some (iv a3), some (iv r4), some (iv a3), some (iv r4)]) (pc := 38) dX5_richest_38 (by decide) rfl rfl ?_
        refine y_iinc (L' := [some (rv 130), some (iv a3), some (iv r4), some (iv (a3 + 1)), some (iv r4)]) (pc := 39) dX5_richest_39 rfl (by decide) rfl rfl ?_
        refine y_goto (tgt := 7) (pc := 42) dX5_richest_42 (by decide) ?_
        exact y_sub (ls_s (ls_s (ls_s (ls_s (ls_n ls_0))))) (ih M3 a3 r4 (a3 + 1))
def m_X5_richest (n : Nat) (M : Mem) : Rs := m_X5_richest_7 n n M (-9) (-1) 0
theorem y_X5_richest (n : Nat) (M : Mem) : Y RX5 cX5_richest 5 1 0 none 0 [some (rv 130), none, none, none, none] [] M (m_X5_richest n M) := by
  unfold m_X5_richest
  refine y_bipush (pc := 0) dX5_richest_0 (by decide) ?_
  refine y_istore_n (L' := [some (rv 130), some (iv (-9)), none, none, none]) (pc := 2) dX5_richest_2 (by decide) rfl rfl ?_
  refine y_iconst (pc := 3) dX5_richest_3 ?_
  refine y_istore_n (L' := [some (rv 130), some (iv (-9)), some (iv (-1)), none, none]) (pc := 4) dX5_richest_4 (by decide) rfl rfl ?_
  refine y_iconst (pc := 5) dX5_richest_5 ?_
  refine y_istore_n (L' := [some (rv 130), some (iv (-9)), some (iv (-1)), some (iv 0), none]) (pc := 6) dX5_richest_6 (by decide) rfl rfl ?_
  exact y_sub (ls_s (ls_s (ls_s (ls_s (ls_n ls_0))))) (t_X5_richest_7 n n M (-9) (-1) 0)
theorem c_X5_richest (n : Nat) (M : Mem) : ∀ res : Int × Mem, m_X5_richest n M = some res → CTi yX5_richest cX5_richest 5 (some .int) 1 [rv 130] M res := CTi_of (by decide +kernel) rfl (Nat.le_of_ble_eq_true rfl) rfl (y_X5_richest n M)
def m_X5_wetThings_15 (n : Nat) : Nat → Mem → Int → Int → Rs
  | 0, _, _, _ => none
  | t + 1, M, a1, a2 => if I32 a2 then (if (rd M 0 7) ≤ a2 then (some (a1, M)) else (if 0 ≤ a2 ∧ a2 < 8 then (bd (m_X0_isInFog n M (rd M 5 (Int.toNat a2))) (fun r5 M4 => if I32 r5 then (if r5 = 0 then ((m_X5_wetThings_15 n t) M4 a1 (a2 + 1)) else ((m_X5_wetThings_15 n t) M4 (bOr a1 (bShl 1 a2)) (a2 + 1))) else none)) else none)) else none
theorem t_X5_wetThings_15 (n : Nat) : ∀ (t : Nat) (M : Mem) (a1 : Int) (a2 : Int), Y RX5 cX5_wetThings 3 5 0 none 15 [some (rv 130), some (iv a1), some (iv a2)] [] M (m_X5_wetThings_15 n t M a1 a2) := by
  intro t
  induction t with
  | zero => intro M a1 a2; exact y_none
  | succ t ih =>
    intro M a1 a2
    rewrite [m_X5_wetThings_15]
    refine y_iload_n (pc := 15) dX5_wetThings_15 rfl ?_
    refine y_aload_n (pc := 16) dX5_wetThings_16 rfl ?_
    refine y_getref (pc := 17) (x := 0) g_X5_10 dX5_wetThings_17 ?_
    refine y_getint (pc := 20) (g_X5_207 (by decide)) dX5_wetThings_20 ?_
    refine y_gd (fun h1 => ?_)
    refine y_icmp_ge (off := 34) (tgt := 57) (pc := 23) dX5_wetThings_23 (by decide) h1 (rd_rng _ _ _) (fun h2 => ?_) (fun h2 => ?_)
    · refine y_iload_n (pc := 57) dX5_wetThings_57 rfl ?_
      exact y_iret (pc := 58) dX5_wetThings_58
    · refine y_aload_n (pc := 26) dX5_wetThings_26 rfl ?_
      refine y_getref (pc := 27) (x := 129) g_X5_50 dX5_wetThings_27 ?_
      refine y_aload_n (pc := 30) dX5_wetThings_30 rfl ?_
      refine y_getref (pc := 31) (x := 0) g_X5_10 dX5_wetThings_31 ?_
      refine y_getref (pc := 34) (x := 5) (g_X5_165 (by decide)) dX5_wetThings_34 ?_
      refine y_iload_n (pc := 37) dX5_wetThings_37 rfl ?_
      refine y_gd (fun h3 => ?_)
      refine y_iald (pc := 38) dX5_wetThings_38 ar_5 h3 ?_
      refine y_callVi (pc := 39) v_X0_isInFog l_X5_195 dX5_wetThings_39 (c_X0_isInFog n _ _) rfl rc_X0 rfl (by decide) (by decide) (Nat.le_of_ble_eq_true rfl) (fun r5 M4 _ => ?_)
      refine y_gd (fun h6 => ?_)
      refine y_if_eq (off := 9) (tgt := 51) (pc := 42) dX5_wetThings_42 (by decide) h6 (fun h7 => ?_) (fun h7 => ?_)
      · refine y_iinc (L' := [some (rv 130), some (iv a1), some (iv (a2 + 1))]) (pc := 51) dX5_wetThings_51 rfl (by decide) rfl rfl ?_
        refine y_goto (tgt := 15) (pc := 54) dX5_wetThings_54 (by decide) ?_
        exact y_sub (ls_s (ls_s (ls_s ls_0))) (ih M4 a1 (a2 + 1))
      · refine y_iload_n (pc := 45) dX5_wetThings_45 rfl ?_
        refine y_iconst (pc := 46) dX5_wetThings_46 ?_
        refine y_iload_n (pc := 47) dX5_wetThings_47 rfl ?_
        refine y_ishl (pc := 48) dX5_wetThings_48 ?_
        refine y_ior (pc := 49) dX5_wetThings_49 ?_
        refine y_istore_n (L' := [some (rv 130), some (iv (bOr a1 (bShl 1 a2))), some (iv a2)]) (pc := 50) dX5_wetThings_50 (by decide) rfl rfl ?_
        refine y_iinc (L' := [some (rv 130), some (iv (bOr a1 (bShl 1 a2))), some (iv (a2 + 1))]) (pc := 51) dX5_wetThings_51 rfl (by decide) rfl rfl ?_
        refine y_goto (tgt := 15) (pc := 54) dX5_wetThings_54 (by decide) ?_
        exact y_sub (ls_s (ls_s (ls_s ls_0))) (ih M4 (bOr a1 (bShl 1 a2)) (a2 + 1))
def m_X5_wetThings (n : Nat) (M : Mem) : Rs := bd (m_X0_begin n M 0) (fun _ M8 => m_X5_wetThings_15 n n M8 0 0)
theorem y_X5_wetThings (n : Nat) (M : Mem) : Y RX5 cX5_wetThings 3 5 0 none 0 [some (rv 130), none, none] [] M (m_X5_wetThings n M) := by
  unfold m_X5_wetThings
  refine y_aload_n (pc := 0) dX5_wetThings_0 rfl ?_
  refine y_getref (pc := 1) (x := 129) g_X5_50 dX5_wetThings_1 ?_
  refine y_aload_n (pc := 4) dX5_wetThings_4 rfl ?_
  refine y_getref (pc := 5) (x := 0) g_X5_10 dX5_wetThings_5 ?_
  refine y_callVv (pc := 8) v_X0_begin l_X5_67 dX5_wetThings_8 (c_X0_begin n _ _) rfl rc_X0 rfl (by decide) (by decide) (Nat.le_of_ble_eq_true rfl) (fun _ M8 _ => ?_)
  refine y_iconst (pc := 11) dX5_wetThings_11 ?_
  refine y_istore_n (L' := [some (rv 130), some (iv 0), none]) (pc := 12) dX5_wetThings_12 (by decide) rfl rfl ?_
  refine y_iconst (pc := 13) dX5_wetThings_13 ?_
  refine y_istore_n (L' := [some (rv 130), some (iv 0), some (iv 0)]) (pc := 14) dX5_wetThings_14 (by decide) rfl rfl ?_
  exact y_sub (ls_s (ls_s (ls_s ls_0))) (t_X5_wetThings_15 n n M8 0 0)
theorem c_X5_wetThings (n : Nat) (M : Mem) : ∀ res : Int × Mem, m_X5_wetThings n M = some res → CTi yX5_wetThings cX5_wetThings 3 (some .int) 5 [rv 130] M res := CTi_of (by decide +kernel) rfl (Nat.le_of_ble_eq_true rfl) rfl (y_X5_wetThings n M)
def m_X5_sight (n : Nat) (M : Mem) (a1 : Int) : Rs := if I32 a1 then (if a1 = 0 then (bd (m_X5_richest n M) (fun r4 M3 => some (r4, M3))) else (if a1 = 1 then (bd (m_X4_nobodysThings n M 0) (fun r7 M6 => some (r7, M6))) else (if a1 = 2 then (bd (m_X5_wetThings n M) (fun r10 M9 => some (r10, M9))) else (if a1 = 3 then (bd (m_X5_crowdedCell n M) (fun r13 M12 => some (r13, M12))) else (if a1 = 4 then (bd (m_X5_hoursAlike n M) (fun r16 M15 => some (r16, M15))) else (bd (m_X5_refuse n M (-2)) (fun r18 M17 => some (r18, M17)))))))) else none
theorem y_X5_sight (n : Nat) (M : Mem) (a1 : Int) : Y RX5 cX5_sight 2 6 0 none 0 [some (rv 130), some (iv a1)] [] M (m_X5_sight n M a1) := by
  unfold m_X5_sight
  refine y_iload_n (pc := 0) dX5_sight_0 rfl ?_
  refine y_gd (fun h1 => ?_)
  refine y_br (fun h2 => ?_) (fun h2 => ?_)
  · refine y_tableIn (off := 35) (tgt := 36) (pc := 1) dX5_sight_1 h2 (by decide) (by decide) (by decide) rfl (by decide) ?_
    refine y_aload_n (pc := 36) dX5_sight_36 rfl ?_
    refine y_callVi (pc := 37) v_X5_richest l_X5_298 dX5_sight_37 (c_X5_richest n _) rfl rc_X5 rfl (by decide) (by decide) (Nat.le_of_ble_eq_true rfl) (fun r4 M3 _ => ?_)
    exact y_iret (pc := 40) dX5_sight_40
  · refine y_br (fun h5 => ?_) (fun h5 => ?_)
    · refine y_tableIn (off := 40) (tgt := 41) (pc := 1) dX5_sight_1 h5 (by decide) (by decide) (by decide) rfl (by decide) ?_
      refine y_aload_n (pc := 41) dX5_sight_41 rfl ?_
      refine y_getref (pc := 42) (x := 0) g_X5_10 dX5_sight_42 ?_
      refine y_callVi (pc := 45) v_X4_nobodysThings l_X5_230 dX5_sight_45 (c_X4_nobodysThings n _ _) rfl (rc_X4 (by decide)) rfl (by decide) (by decide) (Nat.le_of_ble_eq_true rfl) (fun r7 M6 _ => ?_)
      exact y_iret (pc := 48) dX5_sight_48
    · refine y_br (fun h8 => ?_) (fun h8 => ?_)
      · refine y_tableIn (off := 48) (tgt := 49) (pc := 1) dX5_sight_1 h8 (by decide) (by decide) (by decide) rfl (by decide) ?_
        refine y_aload_n (pc := 49) dX5_sight_49 rfl ?_
        refine y_callVi (pc := 50) v_X5_wetThings l_X5_301 dX5_sight_50 (c_X5_wetThings n _) rfl rc_X5 rfl (by decide) (by decide) (Nat.le_of_ble_eq_true rfl) (fun r10 M9 _ => ?_)
        exact y_iret (pc := 53) dX5_sight_53
      · refine y_br (fun h11 => ?_) (fun h11 => ?_)
        · refine y_tableIn (off := 53) (tgt := 54) (pc := 1) dX5_sight_1 h11 (by decide) (by decide) (by decide) rfl (by decide) ?_
          refine y_aload_n (pc := 54) dX5_sight_54 rfl ?_
          refine y_callVi (pc := 55) v_X5_crowdedCell l_X5_304 dX5_sight_55 (c_X5_crowdedCell n _) rfl rc_X5 rfl (by decide) (by decide) (Nat.le_of_ble_eq_true rfl) (fun r13 M12 _ => ?_)
          exact y_iret (pc := 58) dX5_sight_58
        · refine y_br (fun h14 => ?_) (fun h14 => ?_)
          · refine y_tableIn (off := 58) (tgt := 59) (pc := 1) dX5_sight_1 h14 (by decide) (by decide) (by decide) rfl (by decide) ?_
            refine y_aload_n (pc := 59) dX5_sight_59 rfl ?_
            refine y_callVi (pc := 60) v_X5_hoursAlike l_X5_307 dX5_sight_60 (c_X5_hoursAlike n _) rfl rc_X5 rfl (by decide) (by decide) (Nat.le_of_ble_eq_true rfl) (fun r16 M15 _ => ?_)
            exact y_iret (pc := 63) dX5_sight_63
          · refine y_tableOut (tgt := 64) (pc := 1) dX5_sight_1 h1 (by omega) (by decide) ?_
            refine y_aload_n (pc := 64) dX5_sight_64 rfl ?_
            refine y_bipush (pc := 65) dX5_sight_65 (by decide) ?_
            refine y_callVi (pc := 67) v_X5_refuse l_X5_60 dX5_sight_67 (c_X5_refuse n _ _) rfl rc_X5 rfl (by decide) (by decide) (Nat.le_of_ble_eq_true rfl) (fun r18 M17 _ => ?_)
            exact y_iret (pc := 70) dX5_sight_70
theorem c_X5_sight (n : Nat) (M : Mem) (a1 : Int) : ∀ res : Int × Mem, m_X5_sight n M a1 = some res → CTi yX5_sight cX5_sight 2 (some .int) 6 [rv 130, iv a1] M res := CTi_of (by decide +kernel) rfl (Nat.le_of_ble_eq_true rfl) rfl (y_X5_sight n M a1)
def m_X5_kinds_21 (n : Nat) : Nat → Mem → Int → Int → Int → Rs
  | 0, _, _, _, _ => none
  | t + 1, M, a1, a2, a3 => if I32 a3 then (if (rd M 0 12) ≤ a3 then (some (a2, M)) else (if 0 ≤ a3 ∧ a3 < 5 then (if I32 a1 then (if (rd M 7 (Int.toNat a3)) = a1 then ((m_X5_kinds_21 n t) M a1 (a2 + 1) (a3 + 1)) else ((m_X5_kinds_21 n t) M a1 a2 (a3 + 1))) else none) else none)) else none
theorem t_X5_kinds_21 (n : Nat) : ∀ (t : Nat) (M : Mem) (a1 : Int) (a2 : Int) (a3 : Int), Y RX5 cX5_kinds 4 1 0 none 21 [some (rv 130), some (iv a1), some (iv a2), some (iv a3)] [] M (m_X5_kinds_21 n t M a1 a2 a3) := by
  intro t
  induction t with
  | zero => intro M a1 a2 a3; exact y_none
  | succ t ih =>
    intro M a1 a2 a3
    rewrite [m_X5_kinds_21]
    refine y_iload_n (pc := 21) dX5_kinds_21 rfl ?_
    refine y_aload_n (pc := 22) dX5_kinds_22 rfl ?_
    refine y_getref (pc := 23) (x := 0) g_X5_10 dX5_kinds_23 ?_
    refine y_getint (pc := 26) (g_X5_204 (by decide)) dX5_kinds_26 ?_
    refine y_gd (fun h1 => ?_)
    refine y_icmp_ge (off := 25) (tgt := 54) (pc := 29) dX5_kinds_29 (by decide) h1 (rd_rng _ _ _) (fun h2 => ?_) (fun h2 => ?_)
    · refine y_iload_n (pc := 54) dX5_kinds_54 rfl ?_
      exact y_iret (pc := 55) dX5_kinds_55
    · refine y_aload_n (pc := 32) dX5_kinds_32 rfl ?_
      refine y_getref (pc := 33) (x := 0) g_X5_10 dX5_kinds_33 ?_
      refine y_getref (pc := 36) (x := 7) (g_X5_126 (by decide)) dX5_kinds_36 ?_
      refine y_iload_n (pc := 39) dX5_kinds_39 rfl ?_
      refine y_gd (fun h3 => ?_)
      refine y_iald (pc := 40) dX5_kinds_40 ar_7 h3 ?_
      refine y_iload_n (pc := 41) dX5_kinds_41 rfl ?_
      refine y_gd (fun h4 => ?_)
      refine y_icmp_ne (off := 6) (tgt := 48) (pc := 42) dX5_kinds_42 (by decide) (rd_rng _ _ _) h4 (fun h5 => ?_) (fun h5 => ?_)
      · refine y_iinc (L' := [some (rv 130), some (iv a1), some (iv a2), some (iv (a3 + 1))]) (pc := 48) dX5_kinds_48 rfl (by decide) rfl rfl ?_
        refine y_goto (tgt := 21) (pc := 51) dX5_kinds_51 (by decide) ?_
        exact y_sub (ls_s (ls_s (ls_s (ls_s ls_0)))) (ih M a1 a2 (a3 + 1))
      · refine y_iinc (L' := [some (rv 130), some (iv a1), some (iv (a2 + 1)), some (iv a3)]) (pc := 45) dX5_kinds_45 rfl (by decide) rfl rfl ?_
        refine y_iinc (L' := [some (rv 130), some (iv a1), some (iv (a2 + 1)), some (iv (a3 + 1))]) (pc := 48) dX5_kinds_48 rfl (by decide) rfl rfl ?_
        refine y_goto (tgt := 21) (pc := 51) dX5_kinds_51 (by decide) ?_
        exact y_sub (ls_s (ls_s (ls_s (ls_s ls_0)))) (ih M a1 (a2 + 1) (a3 + 1))
def m_X5_kinds_10 (n : Nat) (M : Mem) : Rs := bd (m_X5_refuse n M (-2)) (fun r7 M6 => some (r7, M6))
theorem t_X5_kinds_10 (n : Nat) (M : Mem) : Y RX5 cX5_kinds 4 1 0 none 10 [some (rv 130), none, none, none] [] M (m_X5_kinds_10 n M) := by
  unfold m_X5_kinds_10
  refine y_aload_n (pc := 10) dX5_kinds_10 rfl ?_
  refine y_bipush (pc := 11) dX5_kinds_11 (by decide) ?_
  refine y_callVi (pc := 13) v_X5_refuse l_X5_60 dX5_kinds_13 (c_X5_refuse n _ _) rfl rc_X5 rfl (by decide) (by decide) (Nat.le_of_ble_eq_true rfl) (fun r7 M6 _ => ?_)
  exact y_iret (pc := 16) dX5_kinds_16
def m_X5_kinds (n : Nat) (M : Mem) (a1 : Int) : Rs := if I32 a1 then (if a1 < 0 then (m_X5_kinds_10 n M) else (if a1 < 8 then (m_X5_kinds_21 n n M a1 0 0) else (m_X5_kinds_10 n M))) else none
theorem y_X5_kinds (n : Nat) (M : Mem) (a1 : Int) : Y RX5 cX5_kinds 4 1 0 none 0 [some (rv 130), some (iv a1), none, none] [] M (m_X5_kinds n M a1) := by
  unfold m_X5_kinds
  refine y_iload_n (pc := 0) dX5_kinds_0 rfl ?_
  refine y_gd (fun h8 => ?_)
  refine y_if_lt (off := 9) (tgt := 10) (pc := 1) dX5_kinds_1 (by decide) h8 (fun h9 => ?_) (fun h9 => ?_)
  · exact y_sub (ls_s (ls_n (ls_n (ls_n ls_0)))) (t_X5_kinds_10 n M)
  · refine y_iload_n (pc := 4) dX5_kinds_4 rfl ?_
    refine y_bipush (pc := 5) dX5_kinds_5 (by decide) ?_
    refine y_icmp_lt (off := 10) (tgt := 17) (pc := 7) dX5_kinds_7 (by decide) h8 (by decide) (fun h10 => ?_) (fun h10 => ?_)
    · refine y_iconst (pc := 17) dX5_kinds_17 ?_
      refine y_istore_n (L' := [some (rv 130), some (iv a1), some (iv 0), none]) (pc := 18) dX5_kinds_18 (by decide) rfl rfl ?_
      refine y_iconst (pc := 19) dX5_kinds_19 ?_
      refine y_istore_n (L' := [some (rv 130), some (iv a1), some (iv 0), some (iv 0)]) (pc := 20) dX5_kinds_20 (by decide) rfl rfl ?_
      exact y_sub (ls_s (ls_s (ls_s (ls_s ls_0)))) (t_X5_kinds_21 n n M a1 0 0)
    · exact y_sub (ls_s (ls_n (ls_n (ls_n ls_0)))) (t_X5_kinds_10 n M)
theorem c_X5_kinds (n : Nat) (M : Mem) (a1 : Int) : ∀ res : Int × Mem, m_X5_kinds n M a1 = some res → CTi yX5_kinds cX5_kinds 4 (some .int) 1 [rv 130, iv a1] M res := CTi_of (by decide +kernel) rfl (Nat.le_of_ble_eq_true rfl) rfl (y_X5_kinds n M a1)
def m_X5_row (n : Nat) (M : Mem) (a1 : Int) : Rs := bd (m_X5_outOfRange n M a1 0 99) (fun r2 M1 => if I32 r2 then (if r2 = 0 then (if (rd M1 130 8) < 12 then (if 0 ≤ (rd M1 130 8) ∧ (rd M1 130 8) < 12 then (wr M1 133 (Int.toNat (rd M1 130 8)) a1 (fun M7 => wr M7 130 8 ((rd M7 130 8) + 1) (fun M8 => some ((rd M8 130 8), M8)))) else none) else (bd (m_X5_refuse n M1 (-6)) (fun r10 M9 => some (r10, M9)))) else (bd (m_X5_refuse n M1 r2) (fun r12 M11 => some (r12, M11)))) else none)
theorem y_X5_row (n : Nat) (M : Mem) (a1 : Int) : Y RX5 cX5_row 3 1 0 none 0 [some (rv 130), some (iv a1), none] [] M (m_X5_row n M a1) := by
  unfold m_X5_row
  refine y_iload_n (pc := 0) dX5_row_0 rfl ?_
  refine y_iconst (pc := 1) dX5_row_1 ?_
  refine y_bipush (pc := 2) dX5_row_2 (by decide) ?_
  refine y_callSi (pc := 4) s_X5_outOfRange l_X5_220 dX5_row_4 (c_X5_outOfRange n _ _ _ _) rfl rfl (by decide) (by decide) (Nat.le_of_ble_eq_true rfl) (fun r2 M1 _ => ?_)
  refine y_istore_n (L' := [some (rv 130), some (iv a1), some (iv r2)]) (pc := 7) dX5_row_7 (by decide) rfl rfl ?_
  refine y_iload_n (pc := 8) dX5_row_8 rfl ?_
  refine y_gd (fun h3 => ?_)
  refine y_if_eq (off := 9) (tgt := 18) (pc := 9) dX5_row_9 (by decide) h3 (fun h4 => ?_) (fun h4 => ?_)
  · refine y_aload_n (pc := 18) dX5_row_18 rfl ?_
    refine y_getint (pc := 19) g_X5_41 dX5_row_19 ?_
    refine y_bipush (pc := 22) dX5_row_22 (by decide) ?_
    refine y_icmp_lt (off := 10) (tgt := 34) (pc := 24) dX5_row_24 (by decide) (rd_rng _ _ _) (by decide) (fun h5 => ?_) (fun h5 => ?_)
    · refine y_aload_n (pc := 34) dX5_row_34 rfl ?_
      refine y_getref (pc := 35) (x := 133) g_X5_38 dX5_row_35 ?_
      refine y_aload_n (pc := 38) dX5_row_38 rfl ?_
      refine y_getint (pc := 39) g_X5_41 dX5_row_39 ?_
      refine y_iload_n (pc := 42) dX5_row_42 rfl ?_
      refine y_gd (fun h6 => ?_)
      refine y_iastw (pc := 43) dX5_row_43 ar_133 h6 (fun M7 => ?_)
      refine y_aload_n (pc := 44) dX5_row_44 rfl ?_
      refine y_dup (pc := 45) dX5_row_45 rfl ?_
      refine y_getint (pc := 46) g_X5_41 dX5_row_46 ?_
      refine y_iconst (pc := 49) dX5_row_49 ?_
      refine y_iadd (pc := 50) dX5_row_50 ?_
      refine y_putintw (pc := 51) pf_X5_41 dX5_row_51 (fun M8 => ?_)
      refine y_aload_n (pc := 54) dX5_row_54 rfl ?_
      refine y_getint (pc := 55) g_X5_41 dX5_row_55 ?_
      exact y_iret (pc := 58) dX5_row_58
    · refine y_aload_n (pc := 27) dX5_row_27 rfl ?_
      refine y_bipush (pc := 28) dX5_row_28 (by decide) ?_
      refine y_callVi (pc := 30) v_X5_refuse l_X5_60 dX5_row_30 (c_X5_refuse n _ _) rfl rc_X5 rfl (by decide) (by decide) (Nat.le_of_ble_eq_true rfl) (fun r10 M9 _ => ?_)
      exact y_iret (pc := 33) dX5_row_33
  · refine y_aload_n (pc := 12) dX5_row_12 rfl ?_
    refine y_iload_n (pc := 13) dX5_row_13 rfl ?_
    refine y_callVi (pc := 14) v_X5_refuse l_X5_60 dX5_row_14 (c_X5_refuse n _ _) rfl rc_X5 rfl (by decide) (by decide) (Nat.le_of_ble_eq_true rfl) (fun r12 M11 _ => ?_)
    exact y_iret (pc := 17) dX5_row_17
theorem c_X5_row (n : Nat) (M : Mem) (a1 : Int) : ∀ res : Int × Mem, m_X5_row n M a1 = some res → CTi yX5_row cX5_row 3 (some .int) 1 [rv 130, iv a1] M res := CTi_of (by decide +kernel) rfl (Nat.le_of_ble_eq_true rfl) rfl (y_X5_row n M a1)
def m_X5_judge_57 (n : Nat) (k12 : Mem → Int → Int → Rs) (M : Mem) (a1 : Int) (a2 : Int) (s0 : Int) : Rs := if 0 ≤ a2 ∧ a2 < 12 then (if I32 s0 then (if (rd M 133 (Int.toNat a2)) = s0 then (k12 M a1 (a2 + 1)) else (some (a2, M))) else none) else none
theorem t_X5_judge_57 (n : Nat) (k12 : Mem → Int → Int → Rs) (hk12 : ∀ (M : Mem) (a1 : Int) (a2 : Int), Y RX5 cX5_judge 4 0 0 none 12 [some (rv 130), some (iv a1), some (iv a2), none] [] M (k12 M a1 a2)) (M : Mem) (a1 : Int) (a2 : Int) (s0 : Int) : Y RX5 cX5_judge 4 0 0 none 57 [some (rv 130), some (iv a1), some (iv a2), none] [iv s0] M (m_X5_judge_57 n k12 M a1 a2 s0) := by
  unfold m_X5_judge_57
  refine y_istore_n (L' := [some (rv 130), some (iv a1), some (iv a2), some (iv s0)]) (pc := 57) dX5_judge_57 (by decide) rfl rfl ?_
  refine y_aload_n (pc := 58) dX5_judge_58 rfl ?_
  refine y_getref (pc := 59) (x := 133) g_X5_38 dX5_judge_59 ?_
  refine y_iload_n (pc := 62) dX5_judge_62 rfl ?_
  refine y_gd (fun h1 => ?_)
  refine y_iald (pc := 63) dX5_judge_63 ar_133 h1 ?_
  refine y_iload_n (pc := 64) dX5_judge_64 rfl ?_
  refine y_gd (fun h2 => ?_)
  refine y_icmp_eq (off := 5) (tgt := 70) (pc := 65) dX5_judge_65 (by decide) (rd_rng _ _ _) h2 (fun h3 => ?_) (fun h3 => ?_)
  · refine y_iinc (L' := [some (rv 130), some (iv a1), some (iv (a2 + 1)), some (iv s0)]) (pc := 70) dX5_judge_70 rfl (by decide) rfl rfl ?_
    refine y_goto (tgt := 12) (pc := 73) dX5_judge_73 (by decide) ?_
    exact y_sub (ls_s (ls_s (ls_s (ls_n ls_0)))) (hk12 M a1 (a2 + 1))
  · refine y_iload_n (pc := 68) dX5_judge_68 rfl ?_
    exact y_iret (pc := 69) dX5_judge_69
def m_X5_judge_12 (n : Nat) : Nat → Mem → Int → Int → Rs
  | 0, _, _, _ => none
  | t + 1, M, a1, a2 => if I32 a2 then (if I32 a1 then (if a1 ≤ a2 then (some ((-9), M)) else (if a2 < (rd M 0 7) then (if 0 ≤ a2 ∧ a2 < 8 then (if (rd M 6 (Int.toNat a2)) = (-1) then (m_X5_judge_57 n (m_X5_judge_12 n t) M a1 a2 9) else (m_X5_judge_57 n (m_X5_judge_12 n t) M a1 a2 (rd M 6 (Int.toNat a2)))) else none) else (some (a2, M)))) else none) else none
theorem t_X5_judge_12 (n : Nat) : ∀ (t : Nat) (M : Mem) (a1 : Int) (a2 : Int), Y RX5 cX5_judge 4 0 0 none 12 [some (rv 130), some (iv a1), some (iv a2), none] [] M (m_X5_judge_12 n t M a1 a2) := by
  intro t
  induction t with
  | zero => intro M a1 a2; exact y_none
  | succ t ih =>
    intro M a1 a2
    rewrite [m_X5_judge_12]
    refine y_iload_n (pc := 12) dX5_judge_12 rfl ?_
    refine y_iload_n (pc := 13) dX5_judge_13 rfl ?_
    refine y_gd (fun h4 => ?_)
    refine y_gd (fun h5 => ?_)
    refine y_icmp_ge (off := 62) (tgt := 76) (pc := 14) dX5_judge_14 (by decide) h4 h5 (fun h6 => ?_) (fun h6 => ?_)
    · refine y_bipush (pc := 76) dX5_judge_76 (by decide) ?_
      exact y_iret (pc := 78) dX5_judge_78
    · refine y_iload_n (pc := 17) dX5_judge_17 rfl ?_
      refine y_aload_n (pc := 18) dX5_judge_18 rfl ?_
      refine y_getref (pc := 19) (x := 0) g_X5_10 dX5_judge_19 ?_
      refine y_getint (pc := 22) (g_X5_207 (by decide)) dX5_judge_22 ?_
      refine y_icmp_lt (off := 5) (tgt := 30) (pc := 25) dX5_judge_25 (by decide) h4 (rd_rng _ _ _) (fun h7 => ?_) (fun h7 => ?_)
      · refine y_aload_n (pc := 30) dX5_judge_30 rfl ?_
        refine y_getref (pc := 31) (x := 0) g_X5_10 dX5_judge_31 ?_
        refine y_getref (pc := 34) (x := 6) (g_X5_168 (by decide)) dX5_judge_34 ?_
        refine y_iload_n (pc := 37) dX5_judge_37 rfl ?_
        refine y_gd (fun h8 => ?_)
        refine y_iald (pc := 38) dX5_judge_38 ar_6 h8 ?_
        refine y_iconst (pc := 39) dX5_judge_39 ?_
        refine y_icmp_ne (off := 8) (tgt := 48) (pc := 40) dX5_judge_40 (by decide) (rd_rng _ _ _) (by decide) (fun h9 => ?_) (fun h9 => ?_)
        · refine y_aload_n (pc := 48) dX5_judge_48 rfl ?_
          refine y_getref (pc := 49) (x := 0) g_X5_10 dX5_judge_49 ?_
          refine y_getref (pc := 52) (x := 6) (g_X5_168 (by decide)) dX5_judge_52 ?_
          refine y_iload_n (pc := 55) dX5_judge_55 rfl ?_
          refine y_iald (pc := 56) dX5_judge_56 ar_6 h8 ?_
          exact y_sub (ls_s (ls_s (ls_s (ls_n ls_0)))) (t_X5_judge_57 n (m_X5_judge_12 n t) ih M a1 a2 (rd M 6 (Int.toNat a2)))
        · refine y_bipush (pc := 43) dX5_judge_43 (by decide) ?_
          refine y_goto (tgt := 57) (pc := 45) dX5_judge_45 (by decide) ?_
          exact y_sub (ls_s (ls_s (ls_s (ls_n ls_0)))) (t_X5_judge_57 n (m_X5_judge_12 n t) ih M a1 a2 9)
      · refine y_iload_n (pc := 28) dX5_judge_28 rfl ?_
        exact y_iret (pc := 29) dX5_judge_29
def m_X5_judge (n : Nat) (M : Mem) : Rs := wr M 130 8 0 (fun M10 => m_X5_judge_12 n n M10 (rd M 130 8) 0)
theorem y_X5_judge (n : Nat) (M : Mem) : Y RX5 cX5_judge 4 0 0 none 0 [some (rv 130), none, none, none] [] M (m_X5_judge n M) := by
  unfold m_X5_judge
  refine y_aload_n (pc := 0) dX5_judge_0 rfl ?_
  refine y_getint (pc := 1) g_X5_41 dX5_judge_1 ?_
  refine y_istore_n (L' := [some (rv 130), some (iv (rd M 130 8)), none, none]) (pc := 4) dX5_judge_4 (by decide) rfl rfl ?_
  refine y_aload_n (pc := 5) dX5_judge_5 rfl ?_
  refine y_iconst (pc := 6) dX5_judge_6 ?_
  refine y_putintw (pc := 7) pf_X5_41 dX5_judge_7 (fun M10 => ?_)
  refine y_iconst (pc := 10) dX5_judge_10 ?_
  refine y_istore_n (L' := [some (rv 130), some (iv (rd M 130 8)), some (iv 0), none]) (pc := 11) dX5_judge_11 (by decide) rfl rfl ?_
  exact y_sub (ls_s (ls_s (ls_s (ls_n ls_0)))) (t_X5_judge_12 n n M10 (rd M 130 8) 0)
theorem c_X5_judge (n : Nat) (M : Mem) : ∀ res : Int × Mem, m_X5_judge n M = some res → CTi yX5_judge cX5_judge 4 (some .int) 0 [rv 130] M res := CTi_of (by decide +kernel) rfl (Nat.le_of_ble_eq_true rfl) rfl (y_X5_judge n M)
def m_X5_clear (n : Nat) (M : Mem) : Rs := wr M 130 8 0 (fun M1 => some ((rd M 130 8), M1))
theorem y_X5_clear (n : Nat) (M : Mem) : Y RX5 cX5_clear 2 0 0 none 0 [some (rv 130), none] [] M (m_X5_clear n M) := by
  unfold m_X5_clear
  refine y_aload_n (pc := 0) dX5_clear_0 rfl ?_
  refine y_getint (pc := 1) g_X5_41 dX5_clear_1 ?_
  refine y_istore_n (L' := [some (rv 130), some (iv (rd M 130 8))]) (pc := 4) dX5_clear_4 (by decide) rfl rfl ?_
  refine y_aload_n (pc := 5) dX5_clear_5 rfl ?_
  refine y_iconst (pc := 6) dX5_clear_6 ?_
  refine y_putintw (pc := 7) pf_X5_41 dX5_clear_7 (fun M1 => ?_)
  refine y_iload_n (pc := 10) dX5_clear_10 rfl ?_
  exact y_iret (pc := 11) dX5_clear_11
theorem c_X5_clear (n : Nat) (M : Mem) : ∀ res : Int × Mem, m_X5_clear n M = some res → CTi yX5_clear cX5_clear 2 (some .int) 0 [rv 130] M res := CTi_of (by decide +kernel) rfl (Nat.le_of_ble_eq_true rfl) rfl (y_X5_clear n M)
