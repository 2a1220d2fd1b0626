def m_X5_lots_160 (n : Nat) (k46 : Mem → Int → Int → Int → Int → Int → Rs) (M : Mem) (a1 : Int) (a3 : Int) (a5 : Int) (a7 : Int) (s0 : Int) (s1 : Int) : Rs := k46 M a1 a3 a5 (s1 + s0) (a7 + 1)
theorem t_X5_lots_160 (n : Nat) (k46 : Mem → Int → Int → Int → Int → Int → Rs) (hk46 : ∀ (M : Mem) (a1 : Int) (a3 : Int) (a5 : Int) (a6 : Int) (a7 : Int), Y RX5 cX5_lots 10 5 0 none 46 [some (rv 130), some (iv a1), none, some (iv a3), none, some (iv a5), some (iv a6), some (iv a7), none, none] [] M (k46 M a1 a3 a5 a6 a7)) (M : Mem) (a1 : Int) (a3 : Int) (a5 : Int) (a7 : Int) (s0 : Int) (s1 : Int) : Y RX5 cX5_lots 10 5 0 none 160 [some (rv 130), some (iv a1), none, some (iv a3), none, some (iv a5), none, some (iv a7), none, none] [iv s0, iv s1] M (m_X5_lots_160 n k46 M a1 a3 a5 a7 s0 s1) := by
  unfold m_X5_lots_160
  refine y_iadd (pc := 160) dX5_lots_160 ?_
  refine y_istore (L' := [some (rv 130), some (iv a1), none, some (iv a3), none, some (iv a5), some (iv (s1 + s0)), some (iv a7), none, none]) (pc := 161) dX5_lots_161 (by decide) rfl rfl ?_
  refine y_iinc (L' := [some (rv 130), some (iv a1), none, some (iv a3), none, some (iv a5), some (iv (s1 + s0)), some (iv (a7 + 1)), none, none]) (pc := 163) dX5_lots_163 rfl (by decide) rfl rfl ?_
  refine y_goto (tgt := 46) (pc := 166) dX5_lots_166 (by decide) ?_
  exact y_sub (ls_s (ls_s (ls_n (ls_s (ls_n (ls_s (ls_s (ls_s (ls_n (ls_n ls_0)))))))))) (hk46 M a1 a3 a5 (s1 + s0) (a7 + 1))
def m_X5_lots_75 (n : Nat) (k46 : Mem → Int → Int → Int → Int → Int → Rs) : Nat → Mem → Int → Int → Int → Int → Int → Int → Rs
  | 0, _, _, _, _, _, _, _ => none
  | t + 1, M, a1, a3, a5, a6, a7, a9 => if I32 a9 then (if (rd M 22 7) ≤ a9 then (bd (m_X0_goOn n M 10) (fun _ M3 => if I32 a3 then (if a3 = 0 then (bd (m_X4_ownedThings n M3 22) (fun r9 M8 => m_X5_lots_160 n k46 M8 a1 a3 a5 a7 r9 a6)) else (bd (m_X4_ownedWorths n M3 22) (fun r7 M6 => m_X5_lots_160 n k46 M6 a1 a3 a5 a7 r7 a6))) else none)) else (lt ((a5 * 1103515245) + 12345) (fun x10 => if I32 (bShr (bAnd x10 2147483647) 16) then (if 0 ≤ a9 ∧ a9 < 8 then (wr M 27 (Int.toNat a9) (Int.tmod (bShr (bAnd x10 2147483647) 16) 24) (fun M13 => wr M13 28 (Int.toNat a9) (-1) (fun M14 => (m_X5_lots_75 n k46 t) M14 a1 a3 x10 a6 a7 (a9 + 1)))) else none) else none))) else none
theorem t_X5_lots_75 (n : Nat) (k46 : Mem → Int → Int → Int → Int → Int → Rs) (hk46 : ∀ (M : Mem) (a1 : Int) (a3 : Int) (a5 : Int) (a6 : Int) (a7 : Int), Y RX5 cX5_lots 10 5 0 none 46 [some (rv 130), some (iv a1), none, some (iv a3), none, some (iv a5), some (iv a6), some (iv a7), none, none] [] M (k46 M a1 a3 a5 a6 a7)) : ∀ (t : Nat) (M : Mem) (a1 : Int) (a3 : Int) (a5 : Int) (a6 : Int) (a7 : Int) (a9 : Int), Y RX5 cX5_lots 10 5 0 none 75 [some (rv 130), some (iv a1), none, some (iv a3), none, some (iv a5), some (iv a6), some (iv a7), some (rv 22), some (iv a9)] [] M (m_X5_lots_75 n k46 t M a1 a3 a5 a6 a7 a9) := by
  intro t
  induction t with
  | zero => intro M a1 a3 a5 a6 a7 a9; exact y_none
  | succ t ih =>
    intro M a1 a3 a5 a6 a7 a9
    rewrite [m_X5_lots_75]
    refine y_iload (pc := 75) dX5_lots_75 rfl ?_
    refine y_aload (pc := 77) dX5_lots_77 rfl ?_
    refine y_getint (pc := 79) (g_X5_207 (by decide)) dX5_lots_79 ?_
    refine y_gd (fun h1 => ?_)
    refine y_icmp_ge (off := 50) (tgt := 132) (pc := 82) dX5_lots_82 (by decide) h1 (rd_rng _ _ _) (fun h2 => ?_) (fun h2 => ?_)
    · refine y_aload_n (pc := 132) dX5_lots_132 rfl ?_
      refine y_getref (pc := 133) (x := 129) g_X5_50 dX5_lots_133 ?_
      refine y_bipush (pc := 136) dX5_lots_136 (by decide) ?_
      refine y_callVv (pc := 138) v_X0_goOn l_X5_119 dX5_lots_138 (c_X0_goOn n _ _) rfl rc_X0 rfl (by decide) (by decide) (Nat.le_of_ble_eq_true rfl) (fun _ M3 _ => ?_)
      refine y_iload (pc := 141) dX5_lots_141 rfl ?_
      refine y_iload_n (pc := 143) dX5_lots_143 rfl ?_
      refine y_gd (fun h4 => ?_)
      refine y_if_ne (off := 11) (tgt := 155) (pc := 144) dX5_lots_144 (by decide) h4 (fun h5 => ?_) (fun h5 => ?_)
      · refine y_aload (pc := 155) dX5_lots_155 rfl ?_
        refine y_callVi (pc := 157) v_X4_ownedWorths l_X5_312 dX5_lots_157 (c_X4_ownedWorths n _ _) rfl (rc_X4 (by decide)) rfl (by decide) (by decide) (Nat.le_of_ble_eq_true rfl) (fun r7 M6 _ => ?_)
        exact y_sub (ls_s (ls_s (ls_n (ls_s (ls_n (ls_s (ls_n (ls_s (ls_n (ls_n ls_0)))))))))) (t_X5_lots_160 n k46 hk46 M6 a1 a3 a5 a7 r7 a6)
      · refine y_aload (pc := 147) dX5_lots_147 rfl ?_
        refine y_callVi (pc := 149) v_X4_ownedThings l_X5_213 dX5_lots_149 (c_X4_ownedThings n _ _) rfl (rc_X4 (by decide)) rfl (by decide) (by decide) (Nat.le_of_ble_eq_true rfl) (fun r9 M8 _ => ?_)
        refine y_goto (tgt := 160) (pc := 152) dX5_lots_152 (by decide) ?_
        exact y_sub (ls_s (ls_s (ls_n (ls_s (ls_n (ls_s (ls_n (ls_s (ls_n (ls_n ls_0)))))))))) (t_X5_lots_160 n k46 hk46 M8 a1 a3 a5 a7 r9 a6)
    · refine y_iload (pc := 85) dX5_lots_85 rfl ?_
      refine y_ldcw (pc := 87) (n := 1103515245) k_X5_310 (by decide) dX5_lots_87 ?_
      refine y_imul (pc := 90) dX5_lots_90 ?_
      refine y_sipush (pc := 91) dX5_lots_91 (by decide) ?_
      refine y_iadd (pc := 94) dX5_lots_94 ?_
      refine y_leti (fun x10 => ?_)
      refine y_istore (L' := [some (rv 130), some (iv a1), none, some (iv a3), none, some (iv x10), some (iv a6), some (iv a7), some (rv 22), some (iv a9)]) (pc := 95) dX5_lots_95 (by decide) rfl rfl ?_
      refine y_aload (pc := 97) dX5_lots_97 rfl ?_
      refine y_getref (pc := 99) (x := 27) (g_X5_165 (by decide)) dX5_lots_99 ?_
      refine y_iload (pc := 102) dX5_lots_102 rfl ?_
      refine y_iload (pc := 104) dX5_lots_104 rfl ?_
      refine y_ldcw (pc := 106) (n := 2147483647) k_X5_311 (by decide) dX5_lots_106 ?_
      refine y_iand (pc := 109) dX5_lots_109 ?_
      refine y_bipush (pc := 110) dX5_lots_110 (by decide) ?_
      refine y_ishr (pc := 112) dX5_lots_112 ?_
      refine y_bipush (pc := 113) dX5_lots_113 (by decide) ?_
      refine y_gd (fun h11 => ?_)
      refine y_irem (pc := 115) dX5_lots_115 h11 (by decide) (by decide) ?_
      refine y_gd (fun h12 => ?_)
      refine y_iastw (pc := 116) dX5_lots_116 ar_27 h12 (fun M13 => ?_)
      refine y_aload (pc := 117) dX5_lots_117 rfl ?_
      refine y_getref (pc := 119) (x := 28) (g_X5_168 (by decide)) dX5_lots_119 ?_
      refine y_iload (pc := 122) dX5_lots_122 rfl ?_
      refine y_iconst (pc := 124) dX5_lots_124 ?_
      refine y_iastw (pc := 125) dX5_lots_125 ar_28 h12 (fun M14 => ?_)
      refine y_iinc (L' := [some (rv 130), some (iv a1), none, some (iv a3), none, some (iv x10), some (iv a6), some (iv a7), some (rv 22), some (iv (a9 + 1))]) (pc := 126) dX5_lots_126 rfl (by decide) rfl rfl ?_
      refine y_goto (tgt := 75) (pc := 129) dX5_lots_129 (by decide) ?_
      exact y_sub (ls_s (ls_s (ls_n (ls_s (ls_n (ls_s (ls_s (ls_s (ls_s (ls_s ls_0)))))))))) (ih M14 a1 a3 x10 a6 a7 (a9 + 1))
def m_X5_lots_46 (n : Nat) : Nat → Mem → Int → Int → Int → Int → Int → Rs
  | 0, _, _, _, _, _, _ => none
  | t + 1, M, a1, a3, a5, a6, a7 => if I32 a7 then (if I32 a1 then (if a1 ≤ a7 then (some (a6, M)) else (bd (m_X0_begin n M 0) (fun _ M18 => m_X5_lots_75 n (m_X5_lots_46 n t) n M18 a1 a3 a5 a6 a7 0))) else none) else none
theorem t_X5_lots_46 (n : Nat) : ∀ (t : Nat) (M : Mem) (a1 : Int) (a3 : Int) (a5 : Int) (a6 : Int) (a7 : Int), Y RX5 cX5_lots 10 5 0 none 46 [some (rv 130), some (iv a1), none, some (iv a3), none, some (iv a5), some (iv a6), some (iv a7), none, none] [] M (m_X5_lots_46 n t M a1 a3 a5 a6 a7) := by
  intro t
  induction t with
  | zero => intro M a1 a3 a5 a6 a7; exact y_none
  | succ t ih =>
    intro M a1 a3 a5 a6 a7
    rewrite [m_X5_lots_46]
    refine y_iload (pc := 46) dX5_lots_46 rfl ?_
    refine y_iload_n (pc := 48) dX5_lots_48 rfl ?_
    refine y_gd (fun h15 => ?_)
    refine y_gd (fun h16 => ?_)
    refine y_icmp_ge (off := 120) (tgt := 169) (pc := 49) dX5_lots_49 (by decide) h15 h16 (fun h17 => ?_) (fun h17 => ?_)
    · refine y_iload (pc := 169) dX5_lots_169 rfl ?_
      exact y_iret (pc := 171) dX5_lots_171
    · refine y_aload_n (pc := 52) dX5_lots_52 rfl ?_
      refine y_getref (pc := 53) (x := 129) g_X5_50 dX5_lots_53 ?_
      refine y_aload_n (pc := 56) dX5_lots_56 rfl ?_
      refine y_getref (pc := 57) (x := 0) g_X5_10 dX5_lots_57 ?_
      refine y_callVv (pc := 60) v_X0_begin l_X5_67 dX5_lots_60 (c_X0_begin n _ _) rfl rc_X0 rfl (by decide) (by decide) (Nat.le_of_ble_eq_true rfl) (fun _ M18 _ => ?_)
      refine y_aload_n (pc := 63) dX5_lots_63 rfl ?_
      refine y_getref (pc := 64) (x := 129) g_X5_50 dX5_lots_64 ?_
      refine y_getref (pc := 67) (x := 22) g_X5_81 dX5_lots_67 ?_
      refine y_astore (L' := [some (rv 130), some (iv a1), none, some (iv a3), none, some (iv a5), some (iv a6), some (iv a7), some (rv 22), none]) (pc := 70) dX5_lots_70 (by decide) rfl rfl ?_
      refine y_iconst (pc := 72) dX5_lots_72 ?_
      refine y_istore (L' := [some (rv 130), some (iv a1), none, some (iv a3), none, some (iv a5), some (iv a6), some (iv a7), some (rv 22), some (iv 0)]) (pc := 73) dX5_lots_73 (by decide) rfl rfl ?_
      exact y_sub (ls_s (ls_s (ls_n (ls_s (ls_n (ls_s (ls_s (ls_s (ls_s (ls_s ls_0)))))))))) (t_X5_lots_75 n (m_X5_lots_46 n t) ih n M18 a1 a3 a5 a6 a7 0)
def m_X5_lots_37 (n : Nat) (M : Mem) (a1 : Int) (a2 : Int) (a3 : Int) : Rs := m_X5_lots_46 n n M a1 a3 a2 0 0
theorem t_X5_lots_37 (n : Nat) (M : Mem) (a1 : Int) (a2 : Int) (a3 : Int) : Y RX5 cX5_lots 10 5 0 none 37 [some (rv 130), some (iv a1), some (iv a2), some (iv a3), none, none, none, none, none, none] [] M (m_X5_lots_37 n M a1 a2 a3) := by
  unfold m_X5_lots_37
  refine y_iload_n (pc := 37) dX5_lots_37 rfl ?_
  refine y_istore (L' := [some (rv 130), some (iv a1), some (iv a2), some (iv a3), none, some (iv a2), none, none, none, none]) (pc := 38) dX5_lots_38 (by decide) rfl rfl ?_
  refine y_iconst (pc := 40) dX5_lots_40 ?_
  refine y_istore (L' := [some (rv 130), some (iv a1), some (iv a2), some (iv a3), none, some (iv a2), some (iv 0), none, none, none]) (pc := 41) dX5_lots_41 (by decide) rfl rfl ?_
  refine y_iconst (pc := 43) dX5_lots_43 ?_
  refine y_istore (L' := [some (rv 130), some (iv a1), some (iv a2), some (iv a3), none, some (iv a2), some (iv 0), some (iv 0), none, none]) (pc := 44) dX5_lots_44 (by decide) rfl rfl ?_
  exact y_sub (ls_s (ls_s (ls_n (ls_s (ls_n (ls_s (ls_s (ls_s (ls_n (ls_n ls_0)))))))))) (t_X5_lots_46 n n M a1 a3 a2 0 0)
def m_X5_lots (n : Nat) (M : Mem) (a1 : Int) (a2 : Int) (a3 : Int) : Rs := bd (m_X5_outOfRange n M a1 1 20) (fun r20 M19 => if I32 r20 then (if r20 = 0 then (if I32 a3 then (if a3 = 0 then (m_X5_lots_37 n M19 a1 a2 a3) else (if a3 = 1 then (m_X5_lots_37 n M19 a1 a2 a3) else (bd (m_X5_refuse n M19 (-2)) (fun r27 M26 => some (r27, M26))))) else none) else (bd (m_X5_refuse n M19 r20) (fun r29 M28 => some (r29, M28)))) else none)
theorem y_X5_lots (n : Nat) (M : Mem) (a1 : Int) (a2 : Int) (a3 : Int) : Y RX5 cX5_lots 10 5 0 none 0 [some (rv 130), some (iv a1), some (iv a2), some (iv a3), none, none, none, none, none, none] [] M (m_X5_lots n M a1 a2 a3) := by
  unfold m_X5_lots
  refine y_iload_n (pc := 0) dX5_lots_0 rfl ?_
  refine y_iconst (pc := 1) dX5_lots_1 ?_
  refine y_bipush (pc := 2) dX5_lots_2 (by decide) ?_
  refine y_callSi (pc := 4) s_X5_outOfRange l_X5_220 dX5_lots_4 (c_X5_outOfRange n _ _ _ _) rfl rfl (by decide) (by decide) (Nat.le_of_ble_eq_true rfl) (fun r20 M19 _ => ?_)
  refine y_istore (L' := [some (rv 130), some (iv a1), some (iv a2), some (iv a3), some (iv r20), none, none, none, none, none]) (pc := 7) dX5_lots_7 (by decide) rfl rfl ?_
  refine y_iload (pc := 9) dX5_lots_9 rfl ?_
  refine y_gd (fun h21 => ?_)
  refine y_if_eq (off := 10) (tgt := 21) (pc := 11) dX5_lots_11 (by decide) h21 (fun h22 => ?_) (fun h22 => ?_)
  · refine y_iload_n (pc := 21) dX5_lots_21 rfl ?_
    refine y_gd (fun h23 => ?_)
    refine y_if_eq (off := 15) (tgt := 37) (pc := 22) dX5_lots_22 (by decide) h23 (fun h24 => ?_) (fun h24 => ?_)
    · exact y_sub (ls_s (ls_s (ls_s (ls_s (ls_n (ls_n (ls_n (ls_n (ls_n (ls_n ls_0)))))))))) (t_X5_lots_37 n M19 a1 a2 a3)
    · refine y_iload_n (pc := 25) dX5_lots_25 rfl ?_
      refine y_iconst (pc := 26) dX5_lots_26 ?_
      refine y_icmp_eq (off := 10) (tgt := 37) (pc := 27) dX5_lots_27 (by decide) h23 (by decide) (fun h25 => ?_) (fun h25 => ?_)
      · exact y_sub (ls_s (ls_s (ls_s (ls_s (ls_n (ls_n (ls_n (ls_n (ls_n (ls_n ls_0)))))))))) (t_X5_lots_37 n M19 a1 a2 a3)
      · refine y_aload_n (pc := 30) dX5_lots_30 rfl ?_
        refine y_bipush (pc := 31) dX5_lots_31 (by decide) ?_
        refine y_callVi (pc := 33) v_X5_refuse l_X5_60 dX5_lots_33 (c_X5_refuse n _ _) rfl rc_X5 rfl (by decide) (by decide) (Nat.le_of_ble_eq_true rfl) (fun r27 M26 _ => ?_)
        exact y_iret (pc := 36) dX5_lots_36
  · refine y_aload_n (pc := 14) dX5_lots_14 rfl ?_
    refine y_iload (pc := 15) dX5_lots_15 rfl ?_
    refine y_callVi (pc := 17) v_X5_refuse l_X5_60 dX5_lots_17 (c_X5_refuse n _ _) rfl rc_X5 rfl (by decide) (by decide) (Nat.le_of_ble_eq_true rfl) (fun r29 M28 _ => ?_)
    exact y_iret (pc := 20) dX5_lots_20
theorem c_X5_lots (n : Nat) (M : Mem) (a1 : Int) (a2 : Int) (a3 : Int) : ∀ res : Int × Mem, m_X5_lots n M a1 a2 a3 = some res → CTi yX5_lots cX5_lots 10 (some .int) 5 [rv 130, iv a1, iv a2, iv a3] M res := CTi_of (by decide +kernel) rfl (Nat.le_of_ble_eq_true rfl) rfl (y_X5_lots n M a1 a2 a3)
def m_X5_image (n : Nat) (M : Mem) : Rs := bd (m_X4_become n M 11 0) (fun _ M1 => wr M1 130 2 1 (fun M2 => some ((rd M2 0 13), M2)))
theorem y_X5_image (n : Nat) (M : Mem) : Y RX5 cX5_image 1 2 0 none 0 [some (rv 130)] [] M (m_X5_image n M) := by
  unfold m_X5_image
  refine y_aload_n (pc := 0) dX5_image_0 rfl ?_
  refine y_getref (pc := 1) (x := 11) g_X5_16 dX5_image_1 ?_
  refine y_aload_n (pc := 4) dX5_image_4 rfl ?_
  refine y_getref (pc := 5) (x := 0) g_X5_10 dX5_image_5 ?_
  refine y_callVv (pc := 8) v_X4_become l_X5_84 dX5_image_8 (c_X4_become n _ _ _) rfl (rc_X4 (by decide)) rfl (by decide) (by decide) (Nat.le_of_ble_eq_true rfl) (fun _ M1 _ => ?_)
  refine y_aload_n (pc := 11) dX5_image_11 rfl ?_
  refine y_iconst (pc := 12) dX5_image_12 ?_
  refine y_putboolw (pc := 13) pf_X5_19 (by decide) dX5_image_13 (fun M2 => ?_)
  refine y_aload_n (pc := 16) dX5_image_16 rfl ?_
  refine y_getref (pc := 17) (x := 0) g_X5_10 dX5_image_17 ?_
  refine y_getint (pc := 20) (g_X5_116 (by decide)) dX5_image_20 ?_
  exact y_iret (pc := 23) dX5_image_23
theorem c_X5_image (n : Nat) (M : Mem) : ∀ res : Int × Mem, m_X5_image n M = some res → CTi yX5_image cX5_image 1 (some .int) 2 [rv 130] M res := CTi_of (by decide +kernel) rfl (Nat.le_of_ble_eq_true rfl) rfl (y_X5_image n M)
def m_X5_restore (n : Nat) (M : Mem) : Rs := if (rd M 130 2) = 0 then (bd (m_X5_refuse n M (-3)) (fun r5 M4 => some (r5, M4))) else (bd (m_X4_become n M 0 11) (fun _ M2 => wr M2 130 4 0 (fun M3 => some ((rd M3 0 13), M3))))
theorem y_X5_restore (n : Nat) (M : Mem) : Y RX5 cX5_restore 1 2 0 none 0 [some (rv 130)] [] M (m_X5_restore n M) := by
  unfold m_X5_restore
  refine y_aload_n (pc := 0) dX5_restore_0 rfl ?_
  refine y_getint (pc := 1) g_X5_19 dX5_restore_1 ?_
  refine y_if_ne (off := 10) (tgt := 14) (pc := 4) dX5_restore_4 (by decide) (rd_rng _ _ _) (fun h1 => ?_) (fun h1 => ?_)
  · refine y_aload_n (pc := 14) dX5_restore_14 rfl ?_
    refine y_getref (pc := 15) (x := 0) g_X5_10 dX5_restore_15 ?_
    refine y_aload_n (pc := 18) dX5_restore_18 rfl ?_
    refine y_getref (pc := 19) (x := 11) g_X5_16 dX5_restore_19 ?_
    refine y_callVv (pc := 22) v_X4_become l_X5_84 dX5_restore_22 (c_X4_become n _ _ _) rfl (rc_X4 (by decide)) rfl (by decide) (by decide) (Nat.le_of_ble_eq_true rfl) (fun _ M2 _ => ?_)
    refine y_aload_n (pc := 25) dX5_restore_25 rfl ?_
    refine y_iconst (pc := 26) dX5_restore_26 ?_
    refine y_putintw (pc := 27) pf_X5_27 dX5_restore_27 (fun M3 => ?_)
    refine y_aload_n (pc := 30) dX5_restore_30 rfl ?_
    refine y_getref (pc := 31) (x := 0) g_X5_10 dX5_restore_31 ?_
    refine y_getint (pc := 34) (g_X5_116 (by decide)) dX5_restore_34 ?_
    exact y_iret (pc := 37) dX5_restore_37
  · refine y_aload_n (pc := 7) dX5_restore_7 rfl ?_
    refine y_bipush (pc := 8) dX5_restore_8 (by decide) ?_
    refine y_callVi (pc := 10) v_X5_refuse l_X5_60 dX5_restore_10 (c_X5_refuse n _ _) rfl rc_X5 rfl (by decide) (by decide) (Nat.le_of_ble_eq_true rfl) (fun r5 M4 _ => ?_)
    exact y_iret (pc := 13) dX5_restore_13
theorem c_X5_restore (n : Nat) (M : Mem) : ∀ res : Int × Mem, m_X5_restore n M = some res → CTi yX5_restore cX5_restore 1 (some .int) 2 [rv 130] M res := CTi_of (by decide +kernel) rfl (Nat.le_of_ble_eq_true rfl) rfl (y_X5_restore n M)
def m_X6_no (n : Nat) (M : Mem) (a1 : Int) : Rs := if 0 ≤ (-a1) ∧ (-a1) < 7 then (wr M 148 (Int.toNat (-a1)) ((rd M 148 (Int.toNat (-a1))) + 1) (fun M2 => some (a1, M2))) else none
theorem y_X6_no (n : Nat) (M : Mem) (a1 : Int) : Y RX6 cX6_no 2 0 0 none 0 [some (rv 137), some (iv a1)] [] M (m_X6_no n M a1) := by
  unfold m_X6_no
  refine y_aload_n (pc := 0) dX6_no_0 rfl ?_
  refine y_getref (pc := 1) (x := 148) g_X6_7 dX6_no_1 ?_
  refine y_iload_n (pc := 4) dX6_no_4 rfl ?_
  refine y_ineg (pc := 5) dX6_no_5 ?_
  refine y_dup2 (pc := 6) dX6_no_6 rfl rfl ?_
  refine y_gd (fun h1 => ?_)
  refine y_iald (pc := 7) dX6_no_7 ar_148 h1 ?_
  refine y_iconst (pc := 8) dX6_no_8 ?_
  refine y_iadd (pc := 9) dX6_no_9 ?_
  refine y_iastw (pc := 10) dX6_no_10 ar_148 h1 (fun M2 => ?_)
  refine y_iload_n (pc := 11) dX6_no_11 rfl ?_
  exact y_iret (pc := 12) dX6_no_12
theorem c_X6_no (n : Nat) (M : Mem) (a1 : Int) : ∀ res : Int × Mem, m_X6_no n M a1 = some res → CTi yX6_no cX6_no 2 (some .int) 0 [rv 137, iv a1] M res := CTi_of (by decide +kernel) rfl (Nat.le_of_ble_eq_true rfl) rfl (y_X6_no n M a1)
def m_X6_lowestOf (n : Nat) (M : Mem) (a1 : Int) : Rs := if 0 ≤ (-a1) ∧ (-a1) < 7 then (wr M 148 (Int.toNat (-a1)) ((rd M 148 (Int.toNat (-a1))) + 1) (fun M2 => if I32 a1 then (some ((4000000000000000000 - a1), M2)) else none)) else none
theorem y_X6_lowestOf (n : Nat) (M : Mem) (a1 : Int) : Y RX6 cX6_lowestOf 2 0 2 none 0 [some (rv 137), some (iv a1)] [] M (m_X6_lowestOf n M a1) := by
  unfold m_X6_lowestOf
  refine y_aload_n (pc := 0) dX6_lowestOf_0 rfl ?_
  refine y_getref (pc := 1) (x := 148) g_X6_7 dX6_lowestOf_1 ?_
  refine y_iload_n (pc := 4) dX6_lowestOf_4 rfl ?_
  refine y_ineg (pc := 5) dX6_lowestOf_5 ?_
  refine y_dup2 (pc := 6) dX6_lowestOf_6 rfl rfl ?_
  refine y_gd (fun h1 => ?_)
  refine y_iald (pc := 7) dX6_lowestOf_7 ar_148 h1 ?_
  refine y_iconst (pc := 8) dX6_lowestOf_8 ?_
  refine y_iadd (pc := 9) dX6_lowestOf_9 ?_
  refine y_iastw (pc := 10) dX6_lowestOf_10 ar_148 h1 (fun M2 => ?_)
  refine y_ldc2 (pc := 11) (n := 4000000000000000000) k_X6_77 (by decide) dX6_lowestOf_11 ?_
  refine y_iload_n (pc := 14) dX6_lowestOf_14 rfl ?_
  refine y_gd (fun h3 => ?_)
  refine y_i2l (pc := 15) dX6_lowestOf_15 h3 ?_
  refine y_lsub (pc := 16) dX6_lowestOf_16 ?_
  exact y_lret (pc := 17) dX6_lowestOf_17
theorem c_X6_lowestOf (n : Nat) (M : Mem) (a1 : Int) : ∀ res : Int × Mem, m_X6_lowestOf n M a1 = some res → CTl yX6_lowestOf cX6_lowestOf 2 0 [rv 137, iv a1] M res := CTl_of (by decide +kernel) rfl (Nat.le_of_ble_eq_true rfl) rfl (y_X6_lowestOf n M a1)
def m_X6_isIn (n : Nat) (M : Mem) (a0 : Int) (a1 : Int) (a2 : Int) : Rs := if I32 a0 then (if I32 a1 then (if a0 < a1 then (some (0, M)) else (if I32 a2 then (if a2 < a0 then (some (0, M)) else (some (1, M))) else none)) else none) else none
theorem y_X6_isIn (n : Nat) (M : Mem) (a0 : Int) (a1 : Int) (a2 : Int) : Y RX6 cX6_isIn 3 0 1 none 0 [some (iv a0), some (iv a1), some (iv a2)] [] M (m_X6_isIn n M a0 a1 a2) := by
  unfold m_X6_isIn
  refine y_iload_n (pc := 0) dX6_isIn_0 rfl ?_
  refine y_iload_n (pc := 1) dX6_isIn_1 rfl ?_
  refine y_gd (fun h1 => ?_)
  refine y_gd (fun h2 => ?_)
  refine y_icmp_lt (off := 12) (tgt := 14) (pc := 2) dX6_isIn_2 (by decide) h1 h2 (fun h3 => ?_) (fun h3 => ?_)
  · refine y_iconst (pc := 14) dX6_isIn_14 ?_
    exact y_zret (pc := 15) dX6_isIn_15 (by decide)
  · refine y_iload_n (pc := 5) dX6_isIn_5 rfl ?_
    refine y_iload_n (pc := 6) dX6_isIn_6 rfl ?_
    refine y_gd (fun h4 => ?_)
    refine y_icmp_gt (off := 7) (tgt := 14) (pc := 7) dX6_isIn_7 (by decide) h1 h4 (fun h5 => ?_) (fun h5 => ?_)
    · refine y_iconst (pc := 14) dX6_isIn_14 ?_
      exact y_zret (pc := 15) dX6_isIn_15 (by decide)
    · refine y_iconst (pc := 10) dX6_isIn_10 ?_
      refine y_goto (tgt := 15) (pc := 11) dX6_isIn_11 (by decide) ?_
      exact y_zret (pc := 15) dX6_isIn_15 (by decide)
theorem c_X6_isIn (n : Nat) (M : Mem) (a0 : Int) (a1 : Int) (a2 : Int) : ∀ res : Int × Mem, m_X6_isIn n M a0 a1 a2 = some res → CTi yX6_isIn cX6_isIn 3 (some .boolean) 0 [iv a0, iv a1, iv a2] M res := CTz_of (by decide +kernel) rfl (Nat.le_of_ble_eq_true rfl) rfl (y_X6_isIn n M a0 a1 a2)
def m_X6_bound (n : Nat) (M : Mem) (a0 : Int) (a1 : Int) (a2 : Int) : Rs := if I32 a0 then (if I32 a1 then (if a1 ≤ a0 then (if I32 a2 then (if a0 ≤ a2 then (some (0, M)) else (some ((-6), M))) else none) else (some ((-4), M))) else none) else none
theorem y_X6_bound (n : Nat) (M : Mem) (a0 : Int) (a1 : Int) (a2 : Int) : Y RX6 cX6_bound 3 0 0 none 0 [some (iv a0), some (iv a1), some (iv a2)] [] M (m_X6_bound n M a0 a1 a2) := by
  unfold m_X6_bound
  refine y_iload_n (pc := 0) dX6_bound_0 rfl ?_
  refine y_iload_n (pc := 1) dX6_bound_1 rfl ?_
  refine y_gd (fun h1 => ?_)
  refine y_gd (fun h2 => ?_)
  refine y_icmp_ge (off := 8) (tgt := 10) (pc := 2) dX6_bound_2 (by decide) h1 h2 (fun h3 => ?_) (fun h3 => ?_)
  · refine y_iload_n (pc := 10) dX6_bound_10 rfl ?_
    refine y_iload_n (pc := 11) dX6_bound_11 rfl ?_
    refine y_gd (fun h4 => ?_)
    refine y_icmp_le (off := 8) (tgt := 20) (pc := 12) dX6_bound_12 (by decide) h1 h4 (fun h5 => ?_) (fun h5 => ?_)
    · refine y_iconst (pc := 20) dX6_bound_20 ?_
      exact y_iret (pc := 21) dX6_bound_21
    · refine y_bipush (pc := 15) dX6_bound_15 (by decide) ?_
      refine y_goto (tgt := 21) (pc := 17) dX6_bound_17 (by decide) ?_
      exact y_iret (pc := 21) dX6_bound_21
  · refine y_bipush (pc := 5) dX6_bound_5 (by decide) ?_
    refine y_goto (tgt := 21) (pc := 7) dX6_bound_7 (by decide) ?_
    exact y_iret (pc := 21) dX6_bound_21
theorem c_X6_bound (n : Nat) (M : Mem) (a0 : Int) (a1 : Int) (a2 : Int) : ∀ res : Int × Mem, m_X6_bound n M a0 a1 a2 = some res → CTi yX6_bound cX6_bound 3 (some .int) 0 [iv a0, iv a1, iv a2] M res := CTi_of (by decide +kernel) rfl (Nat.le_of_ble_eq_true rfl) rfl (y_X6_bound n M a0 a1 a2)
def m_X6_has (n : Nat) (M : Mem) (a0 : Int) (a1 : Int) : Rs := if I32 (bAnd (bShr a0 a1) 1) then (if (bAnd (bShr a0 a1) 1) = 1 then (some (1, M)) else (some (0, M))) else none
theorem y_X6_has (n : Nat) (M : Mem) (a0 : Int) (a1 : Int) : Y RX6 cX6_has 2 0 1 none 0 [some (iv a0), some (iv a1)] [] M (m_X6_has n M a0 a1) := by
  unfold m_X6_has
  refine y_iload_n (pc := 0) dX6_has_0 rfl ?_
  refine y_iload_n (pc := 1) dX6_has_1 rfl ?_
  refine y_ishr (pc := 2) dX6_has_2 ?_
  refine y_iconst (pc := 3) dX6_has_3 ?_
  refine y_iand (pc := 4) dX6_has_4 ?_
  refine y_iconst (pc := 5) dX6_has_5 ?_
  refine y_gd (fun h1 => ?_)
  refine y_icmp_ne (off := 7) (tgt := 13) (pc := 6) dX6_has_6 (by decide) h1 (by decide) (fun h2 => ?_) (fun h2 => ?_)
  · refine y_iconst (pc := 13) dX6_has_13 ?_
    exact y_zret (pc := 14) dX6_has_14 (by decide)
  · refine y_iconst (pc := 9) dX6_has_9 ?_
    refine y_goto (tgt := 14) (pc := 10) dX6_has_10 (by decide) ?_
    exact y_zret (pc := 14) dX6_has_14 (by decide)
theorem c_X6_has (n : Nat) (M : Mem) (a0 : Int) (a1 : Int) : ∀ res : Int × Mem, m_X6_has n M a0 a1 = some res → CTi yX6_has cX6_has 2 (some .boolean) 0 [iv a0, iv a1] M res := CTz_of (by decide +kernel) rfl (Nat.le_of_ble_eq_true rfl) rfl (y_X6_has n M a0 a1)
def m_X6_apart (n : Nat) (M : Mem) (a0 : Int) (a1 : Int) : Rs := if I32 a0 then (if I32 a1 then (if a1 ≤ a0 then (some ((a0 - a1), M)) else (some ((a1 - a0), M))) else none) else none
theorem y_X6_apart (n : Nat) (M : Mem) (a0 : Int) (a1 : Int) : Y RX6 cX6_apart 2 0 0 none 0 [some (iv a0), some (iv a1)] [] M (m_X6_apart n M a0 a1) := by
  unfold m_X6_apart
  refine y_iload_n (pc := 0) dX6_apart_0 rfl ?_
  refine y_iload_n (pc := 1) dX6_apart_1 rfl ?_
  refine y_gd (fun h1 => ?_)
  refine y_gd (fun h2 => ?_)
  refine y_icmp_ge (off := 9) (tgt := 11) (pc := 2) dX6_apart_2 (by decide) h1 h2 (fun h3 => ?_) (fun h3 => ?_)
  · refine y_iload_n (pc := 11) dX6_apart_11 rfl ?_
    refine y_iload_n (pc := 12) dX6_apart_12 rfl ?_
    refine y_isub (pc := 13) dX6_apart_13 ?_
    exact y_iret (pc := 14) dX6_apart_14
  · refine y_iload_n (pc := 5) dX6_apart_5 rfl ?_
    refine y_iload_n (pc := 6) dX6_apart_6 rfl ?_
    refine y_isub (pc := 7) dX6_apart_7 ?_
    refine y_goto (tgt := 14) (pc := 8) dX6_apart_8 (by decide) ?_
    exact y_iret (pc := 14) dX6_apart_14
theorem c_X6_apart (n : Nat) (M : Mem) (a0 : Int) (a1 : Int) : ∀ res : Int × Mem, m_X6_apart n M a0 a1 = some res → CTi yX6_apart cX6_apart 2 (some .int) 0 [iv a0, iv a1] M res := CTi_of (by decide +kernel) rfl (Nat.le_of_ble_eq_true rfl) rfl (y_X6_apart n M a0 a1)
def m_X6_bits_4 (n : Nat) : Nat → Mem → Int → Int → Int → Rs
  | 0, _, _, _, _ => none
  | t + 1, M, a0, a1, a2 => if I32 a2 then (if 31 ≤ a2 then (some (a1, M)) else (lt (a1 + (bAnd (bShr a0 a2) 1)) (fun x3 => (m_X6_bits_4 n t) M a0 x3 (a2 + 1)))) else none
theorem t_X6_bits_4 (n : Nat) : ∀ (t : Nat) (M : Mem) (a0 : Int) (a1 : Int) (a2 : Int), Y RX6 cX6_bits 3 0 0 none 4 [some (iv a0), some (iv a1), some (iv a2)] [] M (m_X6_bits_4 n t M a0 a1 a2) := by
  intro t
  induction t with
  | zero => intro M a0 a1 a2; exact y_none
  | succ t ih =>
    intro M a0 a1 a2
    rewrite [m_X6_bits_4]
    refine y_iload_n (pc := 4) dX6_bits_4 rfl ?_
    refine y_bipush (pc := 5) dX6_bits_5 (by decide) ?_
    refine y_gd (fun h1 => ?_)
    refine y_icmp_ge (off := 17) (tgt := 24) (pc := 7) dX6_bits_7 (by decide) h1 (by decide) (fun h2 => ?_) (fun h2 => ?_)
    · refine y_iload_n (pc := 24) dX6_bits_24 rfl ?_
      exact y_iret (pc := 25) dX6_bits_25
    · refine y_iload_n (pc := 10) dX6_bits_10 rfl ?_
      refine y_iload_n (pc := 11) dX6_bits_11 rfl ?_
      refine y_iload_n (pc := 12) dX6_bits_12 rfl ?_
      refine y_ishr (pc := 13) dX6_bits_13 ?_
      refine y_iconst (pc := 14) dX6_bits_14 ?_
      refine y_iand (pc := 15) dX6_bits_15 ?_
      refine y_iadd (pc := 16) dX6_bits_16 ?_
      refine y_leti (fun x3 => ?_)
      refine y_istore_n (L' := [some (iv a0), some (iv x3), some (iv a2)]) (pc := 17) dX6_bits_17 (by decide) rfl rfl ?_
      refine y_iinc (L' := [some (iv a0), some (iv x3), some (iv (a2 + 1))]) (pc := 18) dX6_bits_18 rfl (by decide) rfl rfl ?_
      refine y_goto (tgt := 4) (pc := 21) dX6_bits_21 (by decide) ?_
      exact y_sub (ls_s (ls_s (ls_s ls_0))) (ih M a0 x3 (a2 + 1))
def m_X6_bits (n : Nat) (M : Mem) (a0 : Int) : Rs := m_X6_bits_4 n n M a0 0 0
theorem y_X6_bits (n : Nat) (M : Mem) (a0 : Int) : Y RX6 cX6_bits 3 0 0 none 0 [some (iv a0), none, none] [] M (m_X6_bits n M a0) := by
  unfold m_X6_bits
  refine y_iconst (pc := 0) dX6_bits_0 ?_
  refine y_istore_n (L' := [some (iv a0), some (iv 0), none]) (pc := 1) dX6_bits_1 (by decide) rfl rfl ?_
  refine y_iconst (pc := 2) dX6_bits_2 ?_
  refine y_istore_n (L' := [some (iv a0), some (iv 0), some (iv 0)]) (pc := 3) dX6_bits_3 (by decide) rfl rfl ?_
  exact y_sub (ls_s (ls_s (ls_s ls_0))) (t_X6_bits_4 n n M a0 0 0)
theorem c_X6_bits (n : Nat) (M : Mem) (a0 : Int) : ∀ res : Int × Mem, m_X6_bits n M a0 = some res → CTi yX6_bits cX6_bits 3 (some .int) 0 [iv a0] M res := CTi_of (by decide +kernel) rfl (Nat.le_of_ble_eq_true rfl) rfl (y_X6_bits n M a0)
def m_X6_isFront (n : Nat) (M : Mem) (a1 : Int) : Rs := bd (m_X6_isIn n M a1 0 ((rd M 137 3) - 1)) (fun r2 M1 => if r2 = 0 ∨ r2 = 1 then (some (r2, M1)) else none)
theorem y_X6_isFront (n : Nat) (M : Mem) (a1 : Int) : Y RX6 cX6_isFront 2 1 1 none 0 [some (rv 137), some (iv a1)] [] M (m_X6_isFront n M a1) := by
  unfold m_X6_isFront
  refine y_iload_n (pc := 0) dX6_isFront_0 rfl ?_
  refine y_iconst (pc := 1) dX6_isFront_1 ?_
  refine y_aload_n (pc := 2) dX6_isFront_2 rfl ?_
  refine y_getint (pc := 3) g_X6_79 dX6_isFront_3 ?_
  refine y_iconst (pc := 6) dX6_isFront_6 ?_
  refine y_isub (pc := 7) dX6_isFront_7 ?_
  refine y_callSi (pc := 8) s_X6_isIn l_X6_82 dX6_isFront_8 (c_X6_isIn n _ _ _ _) rfl rfl (by decide) (by decide) (Nat.le_of_ble_eq_true rfl) (fun r2 M1 _ => ?_)
  refine y_gd (fun h3 => ?_)
  exact y_zret (pc := 11) dX6_isFront_11 h3
theorem c_X6_isFront (n : Nat) (M : Mem) (a1 : Int) : ∀ res : Int × Mem, m_X6_isFront n M a1 = some res → CTi yX6_isFront cX6_isFront 2 (some .boolean) 1 [rv 137, iv a1] M res := CTz_of (by decide +kernel) rfl (Nat.le_of_ble_eq_true rfl) rfl (y_X6_isFront n M a1)
def m_X6_isThing (n : Nat) (M : Mem) (a1 : Int) : Rs := bd (m_X6_isIn n M a1 0 ((rd M 137 7) - 1)) (fun r2 M1 => if r2 = 0 ∨ r2 = 1 then (some (r2, M1)) else none)
theorem y_X6_isThing (n : Nat) (M : Mem) (a1 : Int) : Y RX6 cX6_isThing 2 1 1 none 0 [some (rv 137), some (iv a1)] [] M (m_X6_isThing n M a1) := by
  unfold m_X6_isThing
  refine y_iload_n (pc := 0) dX6_isThing_0 rfl ?_
  refine y_iconst (pc := 1) dX6_isThing_1 ?_
  refine y_aload_n (pc := 2) dX6_isThing_2 rfl ?_
  refine y_getint (pc := 3) g_X6_86 dX6_isThing_3 ?_
  refine y_iconst (pc := 6) dX6_isThing_6 ?_
  refine y_isub (pc := 7) dX6_isThing_7 ?_
  refine y_callSi (pc := 8) s_X6_isIn l_X6_82 dX6_isThing_8 (c_X6_isIn n _ _ _ _) rfl rfl (by decide) (by decide) (Nat.le_of_ble_eq_true rfl) (fun r2 M1 _ => ?_)
  refine y_gd (fun h3 => ?_)
  exact y_zret (pc := 11) dX6_isThing_11 h3
theorem c_X6_isThing (n : Nat) (M : Mem) (a1 : Int) : ∀ res : Int × Mem, m_X6_isThing n M a1 = some res → CTi yX6_isThing cX6_isThing 2 (some .boolean) 1 [rv 137, iv a1] M res := CTz_of (by decide +kernel) rfl (Nat.le_of_ble_eq_true rfl) rfl (y_X6_isThing n M a1)
def m_X6_isPerson (n : Nat) (M : Mem) (a1 : Int) : Rs := bd (m_X6_isIn n M a1 0 ((rd M 137 12) - 1)) (fun r2 M1 => if r2 = 0 ∨ r2 = 1 then (some (r2, M1)) else none)
theorem y_X6_isPerson (n : Nat) (M : Mem) (a1 : Int) : Y RX6 cX6_isPerson 2 1 1 none 0 [some (rv 137), some (iv a1)] [] M (m_X6_isPerson n M a1) := by
  unfold m_X6_isPerson
  refine y_iload_n (pc := 0) dX6_isPerson_0 rfl ?_
  refine y_iconst (pc := 1) dX6_isPerson_1 ?_
  refine y_aload_n (pc := 2) dX6_isPerson_2 rfl ?_
  refine y_getint (pc := 3) g_X6_89 dX6_isPerson_3 ?_
  refine y_iconst (pc := 6) dX6_isPerson_6 ?_
  refine y_isub (pc := 7) dX6_isPerson_7 ?_
  refine y_callSi (pc := 8) s_X6_isIn l_X6_82 dX6_isPerson_8 (c_X6_isIn n _ _ _ _) rfl rfl (by decide) (by decide) (Nat.le_of_ble_eq_true rfl) (fun r2 M1 _ => ?_)
  refine y_gd (fun h3 => ?_)
  exact y_zret (pc := 11) dX6_isPerson_11 h3
theorem c_X6_isPerson (n : Nat) (M : Mem) (a1 : Int) : ∀ res : Int × Mem, m_X6_isPerson n M a1 = some res → CTi yX6_isPerson cX6_isPerson 2 (some .boolean) 1 [rv 137, iv a1] M res := CTz_of (by decide +kernel) rfl (Nat.le_of_ble_eq_true rfl) rfl (y_X6_isPerson n M a1)
def m_X6_isCell (n : Nat) (M : Mem) (a0 : Int) : Rs := bd (m_X6_isIn n M a0 0 23) (fun r2 M1 => if r2 = 0 ∨ r2 = 1 then (some (r2, M1)) else none)
theorem y_X6_isCell (n : Nat) (M : Mem) (a0 : Int) : Y RX6 cX6_isCell 1 1 1 none 0 [some (iv a0)] [] M (m_X6_isCell n M a0) := by
  unfold m_X6_isCell
  refine y_iload_n (pc := 0) dX6_isCell_0 rfl ?_
  refine y_iconst (pc := 1) dX6_isCell_1 ?_
  refine y_bipush (pc := 2) dX6_isCell_2 (by decide) ?_
  refine y_callSi (pc := 4) s_X6_isIn l_X6_82 dX6_isCell_4 (c_X6_isIn n _ _ _ _) rfl rfl (by decide) (by decide) (Nat.le_of_ble_eq_true rfl) (fun r2 M1 _ => ?_)
  refine y_gd (fun h3 => ?_)
  exact y_zret (pc := 7) dX6_isCell_7 h3
theorem c_X6_isCell (n : Nat) (M : Mem) (a0 : Int) : ∀ res : Int × Mem, m_X6_isCell n M a0 = some res → CTi yX6_isCell cX6_isCell 1 (some .boolean) 1 [iv a0] M res := CTz_of (by decide +kernel) rfl (Nat.le_of_ble_eq_true rfl) rfl (y_X6_isCell n M a0)
def m_X6_areTwo (n : Nat) (M : Mem) (a1 : Int) (a2 : Int) : Rs := bd (m_X6_isPerson n M a1) (fun r2 M1 => if I32 r2 then (if r2 = 0 then (some (0, M1)) else (bd (m_X6_isPerson n M1 a2) (fun r6 M5 => if I32 r6 then (if r6 = 0 then (some (0, M5)) else (if I32 a1 then (if I32 a2 then (if a1 = a2 then (some (0, M5)) else (some (1, M5))) else none) else none)) else none))) else none)
theorem y_X6_areTwo (n : Nat) (M : Mem) (a1 : Int) (a2 : Int) : Y RX6 cX6_areTwo 3 2 1 none 0 [some (rv 137), some (iv a1), some (iv a2)] [] M (m_X6_areTwo n M a1 a2) := by
  unfold m_X6_areTwo
  refine y_aload_n (pc := 0) dX6_areTwo_0 rfl ?_
  refine y_iload_n (pc := 1) dX6_areTwo_1 rfl ?_
  refine y_callVi (pc := 2) v_X6_isPerson l_X6_92 dX6_areTwo_2 (c_X6_isPerson n _ _) rfl rc_X6 rfl (by decide) (by decide) (Nat.le_of_ble_eq_true rfl) (fun r2 M1 _ => ?_)
  refine y_gd (fun h3 => ?_)
  refine y_if_eq (off := 20) (tgt := 25) (pc := 5) dX6_areTwo_5 (by decide) h3 (fun h4 => ?_) (fun h4 => ?_)
  · refine y_iconst (pc := 25) dX6_areTwo_25 ?_
    exact y_zret (pc := 26) dX6_areTwo_26 (by decide)
  · refine y_aload_n (pc := 8) dX6_areTwo_8 rfl ?_
    refine y_iload_n (pc := 9) dX6_areTwo_9 rfl ?_
    refine y_callVi (pc := 10) v_X6_isPerson l_X6_92 dX6_areTwo_10 (c_X6_isPerson n _ _) rfl rc_X6 rfl (by decide) (by decide) (Nat.le_of_ble_eq_true rfl) (fun r6 M5 _ => ?_)
    refine y_gd (fun h7 => ?_)
    refine y_if_eq (off := 12) (tgt := 25) (pc := 13) dX6_areTwo_13 (by decide) h7 (fun h8 => ?_) (fun h8 => ?_)
    · refine y_iconst (pc := 25) dX6_areTwo_25 ?_
      exact y_zret (pc := 26) dX6_areTwo_26 (by decide)
    · refine y_iload_n (pc := 16) dX6_areTwo_16 rfl ?_
      refine y_iload_n (pc := 17) dX6_areTwo_17 rfl ?_
      refine y_gd (fun h9 => ?_)
      refine y_gd (fun h10 => ?_)
      refine y_icmp_eq (off := 7) (tgt := 25) (pc := 18) dX6_areTwo_18 (by decide) h9 h10 (fun h11 => ?_) (fun h11 => ?_)
      · refine y_iconst (pc := 25) dX6_areTwo_25 ?_
        exact y_zret (pc := 26) dX6_areTwo_26 (by decide)
      · refine y_iconst (pc := 21) dX6_areTwo_21 ?_
        refine y_goto (tgt := 26) (pc := 22) dX6_areTwo_22 (by decide) ?_
        exact y_zret (pc := 26) dX6_areTwo_26 (by decide)
theorem c_X6_areTwo (n : Nat) (M : Mem) (a1 : Int) (a2 : Int) : ∀ res : Int × Mem, m_X6_areTwo n M a1 a2 = some res → CTi yX6_areTwo cX6_areTwo 3 (some .boolean) 2 [rv 137, iv a1, iv a2] M res := CTz_of (by decide +kernel) rfl (Nat.le_of_ble_eq_true rfl) rfl (y_X6_areTwo n M a1 a2)
def m_X6_asksBack_99 (n : Nat) (k13 : Mem → Int → Int → Int → Rs) (M : Mem) (a3 : Int) (a5 : Int) (s0 : Int) : Rs := k13 M a3 s0 (a5 + (-1))
theorem t_X6_asksBack_99 (n : Nat) (k13 : Mem → Int → Int → Int → Rs) (hk13 : ∀ (M : Mem) (a3 : Int) (a4 : Int) (a5 : Int), Y RX6 cX6_asksBack 6 0 3 none 13 [some (rv 137), none, none, some (iv a3), some (iv a4), some (iv a5)] [] M (k13 M a3 a4 a5)) (M : Mem) (a3 : Int) (a5 : Int) (s0 : Int) : Y RX6 cX6_asksBack 6 0 3 none 99 [some (rv 137), none, none, some (iv a3), none, some (iv a5)] [iv s0] M (m_X6_asksBack_99 n k13 M a3 a5 s0) := by
  unfold m_X6_asksBack_99
  refine y_istore (L' := [some (rv 137), none, none, some (iv a3), some (iv s0), some (iv a5)]) (pc := 99) dX6_asksBack_99 (by decide) rfl rfl ?_
  refine y_iinc (L' := [some (rv 137), none, none, some (iv a3), some (iv s0), some (iv (a5 + (-1)))]) (pc := 101) dX6_asksBack_101 rfl (by decide) rfl rfl ?_
  refine y_goto (tgt := 13) (pc := 104) dX6_asksBack_104 (by decide) ?_
  exact y_sub (ls_s (ls_n (ls_n (ls_s (ls_s (ls_s ls_0)))))) (hk13 M a3 s0 (a5 + (-1)))
def m_X6_asksBack_61 (n : Nat) (k13 : Mem → Int → Int → Int → Rs) (M : Mem) (a3 : Int) (a4 : Int) (a5 : Int) : Rs := if 0 ≤ a5 ∧ a5 < 6 then (if (rd M 138 (Int.toNat a5)) = 6 then (if I32 a4 then (if a4 ≤ (rd M 140 (Int.toNat a5)) then (m_X6_asksBack_99 n k13 M a3 a5 0) else (m_X6_asksBack_99 n k13 M a3 a5 (a4 - (rd M 140 (Int.toNat a5))))) else none) else (k13 M a3 a4 (a5 + (-1)))) else none
theorem t_X6_asksBack_61 (n : Nat) (k13 : Mem → Int → Int → Int → Rs) (hk13 : ∀ (M : Mem) (a3 : Int) (a4 : Int) (a5 : Int), Y RX6 cX6_asksBack 6 0 3 none 13 [some (rv 137), none, none, some (iv a3), some (iv a4), some (iv a5)] [] M (k13 M a3 a4 a5)) (M : Mem) (a3 : Int) (a4 : Int) (a5 : Int) : Y RX6 cX6_asksBack 6 0 3 none 61 [some (rv 137), none, none, some (iv a3), some (iv a4), some (iv a5)] [] M (m_X6_asksBack_61 n k13 M a3 a4 a5) := by
  unfold m_X6_asksBack_61
  refine y_aload_n (pc := 61) dX6_asksBack_61 rfl ?_
  refine y_getref (pc := 62) (x := 138) g_X6_13 dX6_asksBack_62 ?_
  refine y_iload (pc := 65) dX6_asksBack_65 rfl ?_
  refine y_gd (fun h1 => ?_)
  refine y_iald (pc := 67) dX6_asksBack_67 ar_138 h1 ?_
  refine y_bipush (pc := 68) dX6_asksBack_68 (by decide) ?_
  refine y_icmp_ne (off := 31) (tgt := 101) (pc := 70) dX6_asksBack_70 (by decide) (rd_rng _ _ _) (by decide) (fun h2 => ?_) (fun h2 => ?_)
  · refine y_iinc (L' := [some (rv 137), none, none, some (iv a3), some (iv a4), some (iv (a5 + (-1)))]) (pc := 101) dX6_asksBack_101 rfl (by decide) rfl rfl ?_
    refine y_goto (tgt := 13) (pc := 104) dX6_asksBack_104 (by decide) ?_
    exact y_sub (ls_s (ls_n (ls_n (ls_s (ls_s (ls_s ls_0)))))) (hk13 M a3 a4 (a5 + (-1)))
  · refine y_iload (pc := 73) dX6_asksBack_73 rfl ?_
    refine y_aload_n (pc := 75) dX6_asksBack_75 rfl ?_
    refine y_getref (pc := 76) (x := 140) g_X6_19 dX6_asksBack_76 ?_
    refine y_iload (pc := 79) dX6_asksBack_79 rfl ?_
    refine y_iald (pc := 81) dX6_asksBack_81 ar_140 h1 ?_
    refine y_gd (fun h3 => ?_)
    refine y_icmp_le (off := 16) (tgt := 98) (pc := 82) dX6_asksBack_82 (by decide) h3 (rd_rng _ _ _) (fun h4 => ?_) (fun h4 => ?_)
    · refine y_iconst (pc := 98) dX6_asksBack_98 ?_
      exact y_sub (ls_s (ls_n (ls_n (ls_s (ls_n (ls_s ls_0)))))) (t_X6_asksBack_99 n k13 hk13 M a3 a5 0)
    · refine y_iload (pc := 85) dX6_asksBack_85 rfl ?_
      refine y_aload_n (pc := 87) dX6_asksBack_87 rfl ?_
      refine y_getref (pc := 88) (x := 140) g_X6_19 dX6_asksBack_88 ?_
      refine y_iload (pc := 91) dX6_asksBack_91 rfl ?_
      refine y_iald (pc := 93) dX6_asksBack_93 ar_140 h1 ?_
      refine y_isub (pc := 94) dX6_asksBack_94 ?_
      refine y_goto (tgt := 99) (pc := 95) dX6_asksBack_95 (by decide) ?_
      exact y_sub (ls_s (ls_n (ls_n (ls_s (ls_n (ls_s ls_0)))))) (t_X6_asksBack_99 n k13 hk13 M a3 a5 (a4 - (rd M 140 (Int.toNat a5))))
def m_X6_asksBack_13 (n : Nat) : Nat → Mem → Int → Int → Int → Rs
  | 0, _, _, _, _ => none
  | t + 1, M, a3, a4, a5 => if I32 a5 then (if a5 < 0 then (some (0, M)) else (if 0 ≤ a5 ∧ a5 < 6 then (wr M 149 (Int.toNat a5) a3 (fun M8 => wr M8 150 (Int.toNat a5) a4 (fun M9 => if (rd M9 138 (Int.toNat a5)) = 5 then (if I32 a3 then (lt ((((Int.tdiv a3 6) * 6) + 5) - (Int.tmod a3 6)) (fun x12 => m_X6_asksBack_61 n (m_X6_asksBack_13 n t) M9 x12 a4 a5)) else none) else (m_X6_asksBack_61 n (m_X6_asksBack_13 n t) M9 a3 a4 a5)))) else none)) else none
theorem t_X6_asksBack_13 (n : Nat) : ∀ (t : Nat) (M : Mem) (a3 : Int) (a4 : Int) (a5 : Int), Y RX6 cX6_asksBack 6 0 3 none 13 [some (rv 137), none, none, some (iv a3), some (iv a4), some (iv a5)] [] M (m_X6_asksBack_13 n t M a3 a4 a5) := by
  intro t
  induction t with
  | zero => intro M a3 a4 a5; exact y_none
  | succ t ih =>
    intro M a3 a4 a5
    rewrite [m_X6_asksBack_13]
    refine y_iload (pc := 13) dX6_asksBack_13 rfl ?_
    refine y_gd (fun h5 => ?_)
    refine y_if_lt (off := 92) (tgt := 107) (pc := 15) dX6_asksBack_15 (by decide) h5 (fun h6 => ?_) (fun h6 => ?_)
    · exact y_vret (pc := 107) dX6_asksBack_107
    · refine y_aload_n (pc := 18) dX6_asksBack_18 rfl ?_
      refine y_getref (pc := 19) (x := 149) g_X6_43 dX6_asksBack_19 ?_
      refine y_iload (pc := 22) dX6_asksBack_22 rfl ?_
      refine y_iload_n (pc := 24) dX6_asksBack_24 rfl ?_
      refine y_gd (fun h7 => ?_)
      refine y_iastw (pc := 25) dX6_asksBack_25 ar_149 h7 (fun M8 => ?_)
      refine y_aload_n (pc := 26) dX6_asksBack_26 rfl ?_
      refine y_getref (pc := 27) (x := 150) g_X6_46 dX6_asksBack_27 ?_
      refine y_iload (pc := 30) dX6_asksBack_30 rfl ?_
      refine y_iload (pc := 32) dX6_asksBack_32 rfl ?_
      refine y_iastw (pc := 34) dX6_asksBack_34 ar_150 h7 (fun M9 => ?_)
      refine y_aload_n (pc := 35) dX6_asksBack_35 rfl ?_
      refine y_getref (pc := 36) (x := 138) g_X6_13 dX6_asksBack_36 ?_
      refine y_iload (pc := 39) dX6_asksBack_39 rfl ?_
      refine y_iald (pc := 41) dX6_asksBack_41 ar_138 h7 ?_
      refine y_iconst (pc := 42) dX6_asksBack_42 ?_
      refine y_icmp_ne (off := 18) (tgt := 61) (pc := 43) dX6_asksBack_43 (by decide) (rd_rng _ _ _) (by decide) (fun h10 => ?_) (fun h10 => ?_)
      · exact y_sub (ls_s (ls_n (ls_n (ls_s (ls_s (ls_s ls_0)))))) (t_X6_asksBack_61 n (m_X6_asksBack_13 n t) ih M9 a3 a4 a5)
      · refine y_iload_n (pc := 46) dX6_asksBack_46 rfl ?_
        refine y_bipush (pc := 47) dX6_asksBack_47 (by decide) ?_
        refine y_gd (fun h11 => ?_)
        refine y_idiv (pc := 49) dX6_asksBack_49 h11 (by decide) (by decide) ?_
        refine y_bipush (pc := 50) dX6_asksBack_50 (by decide) ?_
        refine y_imul (pc := 52) dX6_asksBack_52 ?_
        refine y_iconst (pc := 53) dX6_asksBack_53 ?_
        refine y_iadd (pc := 54) dX6_asksBack_54 ?_
        refine y_iload_n (pc := 55) dX6_asksBack_55 rfl ?_
        refine y_bipush (pc := 56) dX6_asksBack_56 (by decide) ?_
        refine y_irem (pc := 58) dX6_asksBack_58 h11 (by decide) (by decide) ?_
        refine y_isub (pc := 59) dX6_asksBack_59 ?_
        refine y_leti (fun x12 => ?_)
        refine y_istore_n (L' := [some (rv 137), none, none, some (iv x12), some (iv a4), some (iv a5)]) (pc := 60) dX6_asksBack_60 (by decide) rfl rfl ?_
        exact y_sub (ls_s (ls_n (ls_n (ls_s (ls_s (ls_s ls_0)))))) (t_X6_asksBack_61 n (m_X6_asksBack_13 n t) ih M9 x12 a4 a5)
def m_X6_asksBack (n : Nat) (M : Mem) (a1 : Int) (a2 : Int) : Rs := m_X6_asksBack_13 n n M a1 a2 ((rd M 137 3) - 1)
theorem y_X6_asksBack (n : Nat) (M : Mem) (a1 : Int) (a2 : Int) : Y RX6 cX6_asksBack 6 0 3 none 0 [some (rv 137), some (iv a1), some (iv a2), none, none, none] [] M (m_X6_asksBack n M a1 a2) := by
  unfold m_X6_asksBack
  refine y_iload_n (pc := 0) dX6_asksBack_0 rfl ?_
  refine y_istore_n (L' := [some (rv 137), some (iv a1), some (iv a2), some (iv a1), none, none]) (pc := 1) dX6_asksBack_1 (by decide) rfl rfl ?_
  refine y_iload_n (pc := 2) dX6_asksBack_2 rfl ?_
  refine y_istore (L' := [some (rv 137), some (iv a1), some (iv a2), some (iv a1), some (iv a2), none]) (pc := 3) dX6_asksBack_3 (by decide) rfl rfl ?_
  refine y_aload_n (pc := 5) dX6_asksBack_5 rfl ?_
  refine y_getint (pc := 6) g_X6_79 dX6_asksBack_6 ?_
  refine y_iconst (pc := 9) dX6_asksBack_9 ?_
  refine y_isub (pc := 10) dX6_asksBack_10 ?_
  refine y_istore (L' := [some (rv 137), some (iv a1), some (iv a2), some (iv a1), some (iv a2), some (iv ((rd M 137 3) - 1))]) (pc := 11) dX6_asksBack_11 (by decide) rfl rfl ?_
  exact y_sub (ls_s (ls_n (ls_n (ls_s (ls_s (ls_s ls_0)))))) (t_X6_asksBack_13 n n M a1 a2 ((rd M 137 3) - 1))
theorem c_X6_asksBack (n : Nat) (M : Mem) (a1 : Int) (a2 : Int) : ∀ res : Int × Mem, m_X6_asksBack n M a1 a2 = some res → CTv yX6_asksBack cX6_asksBack 6 0 [rv 137, iv a1, iv a2] M res := CTv_of (by decide +kernel) rfl (Nat.le_of_ble_eq_true rfl) rfl (y_X6_asksBack n M a1 a2)
def m_X6_greater (n : Nat) (M : Mem) (a0 : Int) (a1 : Int) : Rs := if I32 a0 then (if I32 a1 then (if a0 ≤ a1 then (some (a1, M)) else (some (a0, M))) else none) else none
theorem y_X6_greater (n : Nat) (M : Mem) (a0 : Int) (a1 : Int) : Y RX6 cX6_greater 2 0 0 none 0 [some (iv a0), some (iv a1)] [] M (m_X6_greater n M a0 a1) := by
  unfold m_X6_greater
  refine y_iload_n (pc := 0) dX6_greater_0 rfl ?_
  refine y_iload_n (pc := 1) dX6_greater_1 rfl ?_
  refine y_gd (fun h1 => ?_)
  refine y_gd (fun h2 => ?_)
  refine y_icmp_le (off := 7) (tgt := 9) (pc := 2) dX6_greater_2 (by decide) h1 h2 (fun h3 => ?_) (fun h3 => ?_)
  · refine y_iload_n (pc := 9) dX6_greater_9 rfl ?_
    exact y_iret (pc := 10) dX6_greater_10
  · refine y_iload_n (pc := 5) dX6_greater_5 rfl ?_
    refine y_goto (tgt := 10) (pc := 6) dX6_greater_6 (by decide) ?_
    exact y_iret (pc := 10) dX6_greater_10
theorem c_X6_greater (n : Nat) (M : Mem) (a0 : Int) (a1 : Int) : ∀ res : Int × Mem, m_X6_greater n M a0 a1 = some res → CTi yX6_greater cX6_greater 2 (some .int) 0 [iv a0, iv a1] M res := CTi_of (by decide +kernel) rfl (Nat.le_of_ble_eq_true rfl) rfl (y_X6_greater n M a0 a1)
def m_X6_airBy (n : Nat) (M : Mem) (a1 : Int) (a2 : Int) : Rs := if 0 ≤ a1 ∧ a1 < 6 then (lt (rd M 149 (Int.toNat a1)) (fun x2 => lt (rd M 150 (Int.toNat a1)) (fun x3 => lt (rd M 139 (Int.toNat a1)) (fun x4 => lt (rd M 140 (Int.toNat a1)) (fun x5 => if (rd M 138 (Int.toNat a1)) = 0 then (if I32 x2 then (if I32 x3 then (if I32 (x5 + 2) then (if (x5 + 2) ≠ 0 then (if I32 (Int.tmod x2 6) then (if I32 (Int.tmod x3 (x5 + 2)) then (if (Int.tmod x3 (x5 + 2)) < (Int.tmod x2 6) then (some (a2, M)) else (bd (m_X6_greater n M a2 x4) (fun r15 M14 => some (r15, M14)))) else none) else none) else none) else none) else none) else none) else (if (rd M 138 (Int.toNat a1)) = 1 then (if I32 x2 then (if I32 x5 then (if I32 (Int.tdiv x2 6) then (if I32 (Int.tmod x5 4) then (if (Int.tdiv x2 6) = (Int.tmod x5 4) then (bd (m_X6_greater n M a2 x4) (fun r23 M22 => some (r23, M22))) else (some (a2, M))) else none) else none) else none) else none) else (if (rd M 138 (Int.toNat a1)) = 2 then (if I32 x3 then (if I32 (x5 + 1) then (if (x5 + 1) ≠ 0 then (if I32 (Int.tmod x3 (x5 + 1)) then (if (Int.tmod x3 (x5 + 1)) = 0 then (bd (m_X6_greater n M a2 x4) (fun r31 M30 => some (r31, M30))) else (some (a2, M))) else none) else none) else none) else none) else (if (rd M 138 (Int.toNat a1)) = 3 then (if I32 x2 then (if I32 x3 then (bd (m_X6_apart n M (Int.tmod x2 6) (Int.tmod x3 6)) (fun r36 M35 => bd (m_X6_greater n M35 a2 (x4 - r36)) (fun r38 M37 => some (r38, M37)))) else none) else none) else (if (rd M 138 (Int.toNat a1)) = 4 then (bd (m_X6_greater n M 0 (a2 - x4)) (fun r41 M40 => some (r41, M40))) else (some (a2, M))))))))))) else none
theorem y_X6_airBy (n : Nat) (M : Mem) (a1 : Int) (a2 : Int) : Y RX6 cX6_airBy 7 1 0 none 0 [some (rv 137), some (iv a1), some (iv a2), none, none, none, none] [] M (m_X6_airBy n M a1 a2) := by
  unfold m_X6_airBy
  refine y_aload_n (pc := 0) dX6_airBy_0 rfl ?_
  refine y_getref (pc := 1) (x := 149) g_X6_43 dX6_airBy_1 ?_
  refine y_iload_n (pc := 4) dX6_airBy_4 rfl ?_
  refine y_gd (fun h1 => ?_)
  refine y_iald (pc := 5) dX6_airBy_5 ar_149 h1 ?_
  refine y_leti (fun x2 => ?_)
  refine y_istore_n (L' := [some (rv 137), some (iv a1), some (iv a2), some (iv x2), none, none, none]) (pc := 6) dX6_airBy_6 (by decide) rfl rfl ?_
  refine y_aload_n (pc := 7) dX6_airBy_7 rfl ?_
  refine y_getref (pc := 8) (x := 150) g_X6_46 dX6_airBy_8 ?_
  refine y_iload_n (pc := 11) dX6_airBy_11 rfl ?_
  refine y_iald (pc := 12) dX6_airBy_12 ar_150 h1 ?_
  refine y_leti (fun x3 => ?_)
  refine y_istore (L' := [some (rv 137), some (iv a1), some (iv a2), some (iv x2), some (iv x3), none, none]) (pc := 13) dX6_airBy_13 (by decide) rfl rfl ?_
  refine y_aload_n (pc := 15) dX6_airBy_15 rfl ?_
  refine y_getref (pc := 16) (x := 139) g_X6_16 dX6_airBy_16 ?_
  refine y_iload_n (pc := 19) dX6_airBy_19 rfl ?_
  refine y_iald (pc := 20) dX6_airBy_20 ar_139 h1 ?_
  refine y_leti (fun x4 => ?_)
  refine y_istore (L' := [some (rv 137), some (iv a1), some (iv a2), some (iv x2), some (iv x3), some (iv x4), none]) (pc := 21) dX6_airBy_21 (by decide) rfl rfl ?_
  refine y_aload_n (pc := 23) dX6_airBy_23 rfl ?_
  refine y_getref (pc := 24) (x := 140) g_X6_19 dX6_airBy_24 ?_
  refine y_iload_n (pc := 27) dX6_airBy_27 rfl ?_
  refine y_iald (pc := 28) dX6_airBy_28 ar_140 h1 ?_
  refine y_leti (fun x5 => ?_)
  refine y_istore (L' := [some (rv 137), some (iv a1), some (iv a2), some (iv x2), some (iv x3), some (iv x4), some (iv x5)]) (pc := 29) dX6_airBy_29 (by decide) rfl rfl ?_
  refine y_aload_n (pc := 31) dX6_airBy_31 rfl ?_
  refine y_getref (pc := 32) (x := 138) g_X6_13 dX6_airBy_32 ?_
  refine y_iload_n (pc := 35) dX6_airBy_35 rfl ?_
  refine y_iald (pc := 36) dX6_airBy_36 ar_138 h1 ?_
  refine y_br (fun h6 => ?_) (fun h6 => ?_)
  · refine y_tableIn (off := 35) (tgt := 72) (pc := 37) dX6_airBy_37 h6 (by decide) (by decide) (by decide) rfl (by decide) ?_
    refine y_iload_n (pc := 72) dX6_airBy_72 rfl ?_
    refine y_bipush (pc := 73) dX6_airBy_73 (by decide) ?_
    refine y_gd (fun h7 => ?_)
    refine y_irem (pc := 75) dX6_airBy_75 h7 (by decide) (by decide) ?_
    refine y_iload (pc := 76) dX6_airBy_76 rfl ?_
    refine y_iload (pc := 78) dX6_airBy_78 rfl ?_
    refine y_iconst (pc := 80) dX6_airBy_80 ?_
    refine y_iadd (pc := 81) dX6_airBy_81 ?_
    refine y_gd (fun h8 => ?_)
    refine y_gd (fun h9 => ?_)
    refine y_gd (fun h10 => ?_)
    refine y_irem (pc := 82) dX6_airBy_82 h8 h9 h10 ?_
    refine y_gd (fun h11 => ?_)
    refine y_gd (fun h12 => ?_)
    refine y_icmp_gt (off := 12) (tgt := 95) (pc := 83) dX6_airBy_83 (by decide) h11 h12 (fun h13 => ?_) (fun h13 => ?_)
    · refine y_iload_n (pc := 95) dX6_airBy_95 rfl ?_
      exact y_iret (pc := 96) dX6_airBy_96
    · refine y_iload_n (pc := 86) dX6_airBy_86 rfl ?_
      refine y_iload (pc := 87) dX6_airBy_87 rfl ?_
      refine y_callSi (pc := 89) s_X6_greater l_X6_96 dX6_airBy_89 (c_X6_greater n _ _ _) rfl rfl (by decide) (by decide) (Nat.le_of_ble_eq_true rfl) (fun r15 M14 _ => ?_)
      refine y_goto (tgt := 96) (pc := 92) dX6_airBy_92 (by decide) ?_
      exact y_iret (pc := 96) dX6_airBy_96
  · refine y_br (fun h16 => ?_) (fun h16 => ?_)
    · refine y_tableIn (off := 60) (tgt := 97) (pc := 37) dX6_airBy_37 h16 (by decide) (by decide) (by decide) rfl (by decide) ?_
      refine y_iload_n (pc := 97) dX6_airBy_97 rfl ?_
      refine y_bipush (pc := 98) dX6_airBy_98 (by decide) ?_
      refine y_gd (fun h17 => ?_)
      refine y_idiv (pc := 100) dX6_airBy_100 h17 (by decide) (by decide) ?_
      refine y_iload (pc := 101) dX6_airBy_101 rfl ?_
      refine y_iconst (pc := 103) dX6_airBy_103 ?_
      refine y_gd (fun h18 => ?_)
      refine y_irem (pc := 104) dX6_airBy_104 h18 (by decide) (by decide) ?_
      refine y_gd (fun h19 => ?_)
      refine y_gd (fun h20 => ?_)
      refine y_icmp_ne (off := 12) (tgt := 117) (pc := 105) dX6_airBy_105 (by decide) h19 h20 (fun h21 => ?_) (fun h21 => ?_)
      · refine y_iload_n (pc := 117) dX6_airBy_117 rfl ?_
        exact y_iret (pc := 118) dX6_airBy_118
      · refine y_iload_n (pc := 108) dX6_airBy_108 rfl ?_
        refine y_iload (pc := 109) dX6_airBy_109 rfl ?_
        refine y_callSi (pc := 111) s_X6_greater l_X6_96 dX6_airBy_111 (c_X6_greater n _ _ _) rfl rfl (by decide) (by decide) (Nat.le_of_ble_eq_true rfl) (fun r23 M22 _ => ?_)
        refine y_goto (tgt := 118) (pc := 114) dX6_airBy_114 (by decide) ?_
        exact y_iret (pc := 118) dX6_airBy_118
    · refine y_br (fun h24 => ?_) (fun h24 => ?_)
      · refine y_tableIn (off := 82) (tgt := 119) (pc := 37) dX6_airBy_37 h24 (by decide) (by decide) (by decide) rfl (by decide) ?_
        refine y_iload (pc := 119) dX6_airBy_119 rfl ?_
        refine y_iload (pc := 121) dX6_airBy_121 rfl ?_
        refine y_iconst (pc := 123) dX6_airBy_123 ?_
        refine y_iadd (pc := 124) dX6_airBy_124 ?_
        refine y_gd (fun h25 => ?_)
        refine y_gd (fun h26 => ?_)
        refine y_gd (fun h27 => ?_)
        refine y_irem (pc := 125) dX6_airBy_125 h25 h26 h27 ?_
        refine y_gd (fun h28 => ?_)
        refine y_if_ne (off := 12) (tgt := 138) (pc := 126) dX6_airBy_126 (by decide) h28 (fun h29 => ?_) (fun h29 => ?_)
        · refine y_iload_n (pc := 138) dX6_airBy_138 rfl ?_
          exact y_iret (pc := 139) dX6_airBy_139
        · refine y_iload_n (pc := 129) dX6_airBy_129 rfl ?_
          refine y_iload (pc := 130) dX6_airBy_130 rfl ?_
          refine y_callSi (pc := 132) s_X6_greater l_X6_96 dX6_airBy_132 (c_X6_greater n _ _ _) rfl rfl (by decide) (by decide) (Nat.le_of_ble_eq_true rfl) (fun r31 M30 _ => ?_)
          refine y_goto (tgt := 139) (pc := 135) dX6_airBy_135 (by decide) ?_
          exact y_iret (pc := 139) dX6_airBy_139
      · refine y_br (fun h32 => ?_) (fun h32 => ?_)
        · refine y_tableIn (off := 103) (tgt := 140) (pc := 37) dX6_airBy_37 h32 (by decide) (by decide) (by decide) rfl (by decide) ?_
          refine y_iload_n (pc := 140) dX6_airBy_140 rfl ?_
          refine y_iload (pc := 141) dX6_airBy_141 rfl ?_
          refine y_iload_n (pc := 143) dX6_airBy_143 rfl ?_
          refine y_bipush (pc := 144) dX6_airBy_144 (by decide) ?_
          refine y_gd (fun h33 => ?_)
          refine y_irem (pc := 146) dX6_airBy_146 h33 (by decide) (by decide) ?_
          refine y_iload (pc := 147) dX6_airBy_147 rfl ?_
          refine y_bipush (pc := 149) dX6_airBy_149 (by decide) ?_
          refine y_gd (fun h34 => ?_)
          refine y_irem (pc := 151) dX6_airBy_151 h34 (by decide) (by decide) ?_
          refine y_callSi (pc := 152) s_X6_apart l_X6_100 dX6_airBy_152 (c_X6_apart n _ _ _) rfl rfl (by decide) (by decide) (Nat.le_of_ble_eq_true rfl) (fun r36 M35 _ => ?_)
          refine y_isub (pc := 155) dX6_airBy_155 ?_
          refine y_callSi (pc := 156) s_X6_greater l_X6_96 dX6_airBy_156 (c_X6_greater n _ _ _) rfl rfl (by decide) (by decide) (Nat.le_of_ble_eq_true rfl) (fun r38 M37 _ => ?_)
          exact y_iret (pc := 159) dX6_airBy_159
        · refine y_br (fun h39 => ?_) (fun h39 => ?_)
          · refine y_tableIn (off := 123) (tgt := 160) (pc := 37) dX6_airBy_37 h39 (by decide) (by decide) (by decide) rfl (by decide) ?_
            refine y_iconst (pc := 160) dX6_airBy_160 ?_
            refine y_iload_n (pc := 161) dX6_airBy_161 rfl ?_
            refine y_iload (pc := 162) dX6_airBy_162 rfl ?_
            refine y_isub (pc := 164) dX6_airBy_164 ?_
            refine y_callSi (pc := 165) s_X6_greater l_X6_96 dX6_airBy_165 (c_X6_greater n _ _ _) rfl rfl (by decide) (by decide) (Nat.le_of_ble_eq_true rfl) (fun r41 M40 _ => ?_)
            exact y_iret (pc := 168) dX6_airBy_168
          · refine y_tableOut (tgt := 169) (pc := 37) dX6_airBy_37 (rd_rng _ _ _) (by omega) (by decide) ?_
            refine y_iload_n (pc := 169) dX6_airBy_169 rfl ?_
            exact y_iret (pc := 170) dX6_airBy_170
theorem c_X6_airBy (n : Nat) (M : Mem) (a1 : Int) (a2 : Int) : ∀ res : Int × Mem, m_X6_airBy n M a1 a2 = some res → CTi yX6_airBy cX6_airBy 7 (some .int) 1 [rv 137, iv a1, iv a2] M res := CTi_of (by decide +kernel) rfl (Nat.le_of_ble_eq_true rfl) rfl (y_X6_airBy n M a1 a2)
def m_X6_airIn_20 (n : Nat) : Nat → Mem → Int → Int → Rs
  | 0, _, _, _ => none
  | t + 1, M, a3, a4 => if I32 a4 then (if (rd M 137 3) ≤ a4 then (some (a3, M)) else (bd (m_X6_airBy n M a4 a3) (fun r4 M3 => (m_X6_airIn_20 n t) M3 r4 (a4 + 1)))) else none
theorem t_X6_airIn_20 (n : Nat) : ∀ (t : Nat) (M : Mem) (a3 : Int) (a4 : Int), Y RX6 cX6_airIn 5 2 0 none 20 [some (rv 137), none, none, some (iv a3), some (iv a4)] [] M (m_X6_airIn_20 n t M a3 a4) := by
  intro t
  induction t with
  | zero => intro M a3 a4; exact y_none
  | succ t ih =>
    intro M a3 a4
    rewrite [m_X6_airIn_20]
    refine y_iload (pc := 20) dX6_airIn_20 rfl ?_
    refine y_aload_n (pc := 22) dX6_airIn_22 rfl ?_
    refine y_getint (pc := 23) g_X6_79 dX6_airIn_23 ?_
    refine y_gd (fun h1 => ?_)
    refine y_icmp_ge (off := 17) (tgt := 43) (pc := 26) dX6_airIn_26 (by decide) h1 (rd_rng _ _ _) (fun h2 => ?_) (fun h2 => ?_)
    · refine y_iload_n (pc := 43) dX6_airIn_43 rfl ?_
      exact y_iret (pc := 44) dX6_airIn_44
    · refine y_aload_n (pc := 29) dX6_airIn_29 rfl ?_
      refine y_iload (pc := 30) dX6_airIn_30 rfl ?_
      refine y_iload_n (pc := 32) dX6_airIn_32 rfl ?_
      refine y_callVi (pc := 33) v_X6_airBy l_X6_111 dX6_airIn_33 (c_X6_airBy n _ _ _) rfl rc_X6 rfl (by decide) (by decide) (Nat.le_of_ble_eq_true rfl) (fun r4 M3 _ => ?_)
      refine y_istore_n (L' := [some (rv 137), none, none, some (iv r4), some (iv a4)]) (pc := 36) dX6_airIn_36 (by decide) rfl rfl ?_
      refine y_iinc (L' := [some (rv 137), none, none, some (iv r4), some (iv (a4 + 1))]) (pc := 37) dX6_airIn_37 rfl (by decide) rfl rfl ?_
      refine y_goto (tgt := 20) (pc := 40) dX6_airIn_40 (by decide) ?_
      exact y_sub (ls_s (ls_n (ls_n (ls_s (ls_s ls_0))))) (ih M3 r4 (a4 + 1))
def m_X6_airIn (n : Nat) (M : Mem) (a1 : Int) (a2 : Int) : Rs := if (rd M 137 21) = 0 then (bd (m_X6_asksBack n M a1 a2) (fun _ M6 => m_X6_airIn_20 n n M6 0 0)) else (some (0, M))
theorem y_X6_airIn (n : Nat) (M : Mem) (a1 : Int) (a2 : Int) : Y RX6 cX6_airIn 5 2 0 none 0 [some (rv 137), some (iv a1), some (iv a2), none, none] [] M (m_X6_airIn n M a1 a2) := by
  unfold m_X6_airIn
  refine y_aload_n (pc := 0) dX6_airIn_0 rfl ?_
  refine y_getint (pc := 1) g_X6_103 dX6_airIn_1 ?_
  refine y_if_eq (off := 5) (tgt := 9) (pc := 4) dX6_airIn_4 (by decide) (rd_rng _ _ _) (fun h5 => ?_) (fun h5 => ?_)
  · refine y_aload_n (pc := 9) dX6_airIn_9 rfl ?_
    refine y_iload_n (pc := 10) dX6_airIn_10 rfl ?_
    refine y_iload_n (pc := 11) dX6_airIn_11 rfl ?_
    refine y_callVv (pc := 12) v_X6_asksBack l_X6_107 dX6_airIn_12 (c_X6_asksBack n _ _ _) rfl rc_X6 rfl (by decide) (by decide) (Nat.le_of_ble_eq_true rfl) (fun _ M6 _ => ?_)
    refine y_iconst (pc := 15) dX6_airIn_15 ?_
    refine y_istore_n (L' := [some (rv 137), some (iv a1), some (iv a2), some (iv 0), none]) (pc := 16) dX6_airIn_16 (by decide) rfl rfl ?_
    refine y_iconst (pc := 17) dX6_airIn_17 ?_
    refine y_istore (L' := [some (rv 137), some (iv a1), some (iv a2), some (iv 0), some (iv 0)]) (pc := 18) dX6_airIn_18 (by decide) rfl rfl ?_
    exact y_sub (ls_s (ls_n (ls_n (ls_s (ls_s ls_0))))) (t_X6_airIn_20 n n M6 0 0)
  · refine y_iconst (pc := 7) dX6_airIn_7 ?_
    exact y_iret (pc := 8) dX6_airIn_8
theorem c_X6_airIn (n : Nat) (M : Mem) (a1 : Int) (a2 : Int) : ∀ res : Int × Mem, m_X6_airIn n M a1 a2 = some res → CTi yX6_airIn cX6_airIn 5 (some .int) 2 [rv 137, iv a1, iv a2] M res := CTi_of (by decide +kernel) rfl (Nat.le_of_ble_eq_true rfl) rfl (y_X6_airIn n M a1 a2)
