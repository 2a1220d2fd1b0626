def m_X5_thick (n : Nat) (M : Mem) (a1 : Int) : Rs := bd (m_X5_outOfRange n M a1 1 9) (fun r2 M1 => if I32 r2 then (if r2 = 0 then (bd (m_X5_keepForBack n M1) (fun _ M5 => wr M5 0 14 a1 (fun M6 => some ((rd M5 0 14), M6)))) else (bd (m_X5_refuse n M1 r2) (fun r8 M7 => some (r8, M7)))) else none)
theorem y_X5_thick (n : Nat) (M : Mem) (a1 : Int) : Y RX5 cX5_thick 4 3 0 none 0 [some (rv 130), some (iv a1), none, none] [] M (m_X5_thick n M a1) := by
  unfold m_X5_thick
  refine y_iload_n (pc := 0) dX5_thick_0 rfl ?_
  refine y_iconst (pc := 1) dX5_thick_1 ?_
  refine y_bipush (pc := 2) dX5_thick_2 (by decide) ?_
  refine y_callSi (pc := 4) s_X5_outOfRange l_X5_220 dX5_thick_4 (c_X5_outOfRange n _ _ _ _) rfl rfl (by decide) (by decide) (Nat.le_of_ble_eq_true rfl) (fun r2 M1 _ => ?_)
  refine y_istore_n (L' := [some (rv 130), some (iv a1), some (iv r2), none]) (pc := 7) dX5_thick_7 (by decide) rfl rfl ?_
  refine y_iload_n (pc := 8) dX5_thick_8 rfl ?_
  refine y_gd (fun h3 => ?_)
  refine y_if_eq (off := 9) (tgt := 18) (pc := 9) dX5_thick_9 (by decide) h3 (fun h4 => ?_) (fun h4 => ?_)
  · refine y_aload_n (pc := 18) dX5_thick_18 rfl ?_
    refine y_callVv (pc := 19) v_X5_keepForBack l_X5_224 dX5_thick_19 (c_X5_keepForBack n _) rfl rc_X5 rfl (by decide) (by decide) (Nat.le_of_ble_eq_true rfl) (fun _ M5 _ => ?_)
    refine y_aload_n (pc := 22) dX5_thick_22 rfl ?_
    refine y_getref (pc := 23) (x := 0) g_X5_10 dX5_thick_23 ?_
    refine y_getint (pc := 26) (g_X5_107 (by decide)) dX5_thick_26 ?_
    refine y_istore_n (L' := [some (rv 130), some (iv a1), some (iv r2), some (iv (rd M5 0 14))]) (pc := 29) dX5_thick_29 (by decide) rfl rfl ?_
    refine y_aload_n (pc := 30) dX5_thick_30 rfl ?_
    refine y_getref (pc := 31) (x := 0) g_X5_10 dX5_thick_31 ?_
    refine y_iload_n (pc := 34) dX5_thick_34 rfl ?_
    refine y_putintw (pc := 35) (pf_X5_107 (by decide)) dX5_thick_35 (fun M6 => ?_)
    refine y_iload_n (pc := 38) dX5_thick_38 rfl ?_
    exact y_iret (pc := 39) dX5_thick_39
  · refine y_aload_n (pc := 12) dX5_thick_12 rfl ?_
    refine y_iload_n (pc := 13) dX5_thick_13 rfl ?_
    refine y_callVi (pc := 14) v_X5_refuse l_X5_60 dX5_thick_14 (c_X5_refuse n _ _) rfl rc_X5 rfl (by decide) (by decide) (Nat.le_of_ble_eq_true rfl) (fun r8 M7 _ => ?_)
    exact y_iret (pc := 17) dX5_thick_17
theorem c_X5_thick (n : Nat) (M : Mem) (a1 : Int) : ∀ res : Int × Mem, m_X5_thick n M a1 = some res → CTi yX5_thick cX5_thick 4 (some .int) 3 [rv 130, iv a1] M res := CTi_of (by decide +kernel) rfl (Nat.le_of_ble_eq_true rfl) rfl (y_X5_thick n M a1)
def m_X5_owns_33 (n : Nat) (M : Mem) (a1 : Int) (a2 : Int) : Rs := bd (m_X5_keepForBack n M) (fun _ M1 => if 0 ≤ a1 ∧ a1 < 8 then (lt (rd M1 6 (Int.toNat a1)) (fun x3 => wr M1 6 (Int.toNat a1) a2 (fun M4 => bd (m_X5_orNone n M4 x3) (fun r6 M5 => some (r6, M5))))) else none)
theorem t_X5_owns_33 (n : Nat) (M : Mem) (a1 : Int) (a2 : Int) : Y RX5 cX5_owns 4 3 0 none 33 [some (rv 130), some (iv a1), some (iv a2), none] [] M (m_X5_owns_33 n M a1 a2) := by
  unfold m_X5_owns_33
  refine y_aload_n (pc := 33) dX5_owns_33 rfl ?_
  refine y_callVv (pc := 34) v_X5_keepForBack l_X5_224 dX5_owns_34 (c_X5_keepForBack n _) rfl rc_X5 rfl (by decide) (by decide) (Nat.le_of_ble_eq_true rfl) (fun _ M1 _ => ?_)
  refine y_aload_n (pc := 37) dX5_owns_37 rfl ?_
  refine y_getref (pc := 38) (x := 0) g_X5_10 dX5_owns_38 ?_
  refine y_getref (pc := 41) (x := 6) (g_X5_168 (by decide)) dX5_owns_41 ?_
  refine y_iload_n (pc := 44) dX5_owns_44 rfl ?_
  refine y_gd (fun h2 => ?_)
  refine y_iald (pc := 45) dX5_owns_45 ar_6 h2 ?_
  refine y_leti (fun x3 => ?_)
  refine y_istore_n (L' := [some (rv 130), some (iv a1), some (iv a2), some (iv x3)]) (pc := 46) dX5_owns_46 (by decide) rfl rfl ?_
  refine y_aload_n (pc := 47) dX5_owns_47 rfl ?_
  refine y_getref (pc := 48) (x := 0) g_X5_10 dX5_owns_48 ?_
  refine y_getref (pc := 51) (x := 6) (g_X5_168 (by decide)) dX5_owns_51 ?_
  refine y_iload_n (pc := 54) dX5_owns_54 rfl ?_
  refine y_iload_n (pc := 55) dX5_owns_55 rfl ?_
  refine y_iastw (pc := 56) dX5_owns_56 ar_6 h2 (fun M4 => ?_)
  refine y_iload_n (pc := 57) dX5_owns_57 rfl ?_
  refine y_callSi (pc := 58) s_X5_orNone l_X5_171 dX5_owns_58 (c_X5_orNone n _ _) rfl rfl (by decide) (by decide) (Nat.le_of_ble_eq_true rfl) (fun r6 M5 _ => ?_)
  exact y_iret (pc := 61) dX5_owns_61
def m_X5_owns_27 (n : Nat) (M : Mem) : Rs := bd (m_X5_refuse n M (-1)) (fun r8 M7 => some (r8, M7))
theorem t_X5_owns_27 (n : Nat) (M : Mem) : Y RX5 cX5_owns 4 3 0 none 27 [some (rv 130), none, none, none] [] M (m_X5_owns_27 n M) := by
  unfold m_X5_owns_27
  refine y_aload_n (pc := 27) dX5_owns_27 rfl ?_
  refine y_iconst (pc := 28) dX5_owns_28 ?_
  refine y_callVi (pc := 29) v_X5_refuse l_X5_60 dX5_owns_29 (c_X5_refuse n _ _) rfl rc_X5 rfl (by decide) (by decide) (Nat.le_of_ble_eq_true rfl) (fun r8 M7 _ => ?_)
  exact y_iret (pc := 32) dX5_owns_32
def m_X5_owns (n : Nat) (M : Mem) (a1 : Int) (a2 : Int) : Rs := bd (m_X4_hasThing n M 0 a1) (fun r10 M9 => if I32 r10 then (if r10 = 0 then (m_X5_owns_27 n M9) else (if I32 a2 then (if a2 = (-1) then (m_X5_owns_33 n M9 a1 a2) else (bd (m_X4_hasPerson n M9 0 a2) (fun r16 M15 => if I32 r16 then (if r16 = 0 then (m_X5_owns_27 n M15) else (m_X5_owns_33 n M15 a1 a2)) else none))) else none)) else none)
theorem y_X5_owns (n : Nat) (M : Mem) (a1 : Int) (a2 : Int) : Y RX5 cX5_owns 4 3 0 none 0 [some (rv 130), some (iv a1), some (iv a2), none] [] M (m_X5_owns n M a1 a2) := by
  unfold m_X5_owns
  refine y_aload_n (pc := 0) dX5_owns_0 rfl ?_
  refine y_getref (pc := 1) (x := 0) g_X5_10 dX5_owns_1 ?_
  refine y_iload_n (pc := 4) dX5_owns_4 rfl ?_
  refine y_callVi (pc := 5) v_X4_hasThing l_X5_159 dX5_owns_5 (c_X4_hasThing n _ _ _) rfl (rc_X4 (by decide)) rfl (by decide) (by decide) (Nat.le_of_ble_eq_true rfl) (fun r10 M9 _ => ?_)
  refine y_gd (fun h11 => ?_)
  refine y_if_eq (off := 19) (tgt := 27) (pc := 8) dX5_owns_8 (by decide) h11 (fun h12 => ?_) (fun h12 => ?_)
  · exact y_sub (ls_s (ls_n (ls_n (ls_n ls_0)))) (t_X5_owns_27 n M9)
  · refine y_iload_n (pc := 11) dX5_owns_11 rfl ?_
    refine y_iconst (pc := 12) dX5_owns_12 ?_
    refine y_gd (fun h13 => ?_)
    refine y_icmp_eq (off := 20) (tgt := 33) (pc := 13) dX5_owns_13 (by decide) h13 (by decide) (fun h14 => ?_) (fun h14 => ?_)
    · exact y_sub (ls_s (ls_s (ls_s (ls_n ls_0)))) (t_X5_owns_33 n M9 a1 a2)
    · refine y_aload_n (pc := 16) dX5_owns_16 rfl ?_
      refine y_getref (pc := 17) (x := 0) g_X5_10 dX5_owns_17 ?_
      refine y_iload_n (pc := 20) dX5_owns_20 rfl ?_
      refine y_callVi (pc := 21) v_X4_hasPerson l_X5_123 dX5_owns_21 (c_X4_hasPerson n _ _ _) rfl (rc_X4 (by decide)) rfl (by decide) (by decide) (Nat.le_of_ble_eq_true rfl) (fun r16 M15 _ => ?_)
      refine y_gd (fun h17 => ?_)
      refine y_if_ne (off := 9) (tgt := 33) (pc := 24) dX5_owns_24 (by decide) h17 (fun h18 => ?_) (fun h18 => ?_)
      · exact y_sub (ls_s (ls_s (ls_s (ls_n ls_0)))) (t_X5_owns_33 n M15 a1 a2)
      · exact y_sub (ls_s (ls_n (ls_n (ls_n ls_0)))) (t_X5_owns_27 n M15)
theorem c_X5_owns (n : Nat) (M : Mem) (a1 : Int) (a2 : Int) : ∀ res : Int × Mem, m_X5_owns n M a1 a2 = some res → CTi yX5_owns cX5_owns 4 (some .int) 3 [rv 130, iv a1, iv a2] M res := CTi_of (by decide +kernel) rfl (Nat.le_of_ble_eq_true rfl) rfl (y_X5_owns n M a1 a2)
def m_X5_stands_18 (n : Nat) (M : Mem) : Rs := bd (m_X5_refuse n M (-1)) (fun r2 M1 => some (r2, M1))
theorem t_X5_stands_18 (n : Nat) (M : Mem) : Y RX5 cX5_stands 4 3 0 none 18 [some (rv 130), none, none, none] [] M (m_X5_stands_18 n M) := by
  unfold m_X5_stands_18
  refine y_aload_n (pc := 18) dX5_stands_18 rfl ?_
  refine y_iconst (pc := 19) dX5_stands_19 ?_
  refine y_callVi (pc := 20) v_X5_refuse l_X5_60 dX5_stands_20 (c_X5_refuse n _ _) rfl rc_X5 rfl (by decide) (by decide) (Nat.le_of_ble_eq_true rfl) (fun r2 M1 _ => ?_)
  exact y_iret (pc := 23) dX5_stands_23
def m_X5_stands (n : Nat) (M : Mem) (a1 : Int) (a2 : Int) : Rs := bd (m_X4_hasPerson n M 0 a1) (fun r4 M3 => if I32 r4 then (if r4 = 0 then (m_X5_stands_18 n M3) else (bd (m_X5_isCell n M3 a2) (fun r8 M7 => if I32 r8 then (if r8 = 0 then (m_X5_stands_18 n M7) else (bd (m_X5_keepForBack n M7) (fun _ M11 => if 0 ≤ a1 ∧ a1 < 5 then (lt (rd M11 10 (Int.toNat a1)) (fun x13 => wr M11 10 (Int.toNat a1) a2 (fun M14 => some (x13, M14)))) else none))) else none))) else none)
theorem y_X5_stands (n : Nat) (M : Mem) (a1 : Int) (a2 : Int) : Y RX5 cX5_stands 4 3 0 none 0 [some (rv 130), some (iv a1), some (iv a2), none] [] M (m_X5_stands n M a1 a2) := by
  unfold m_X5_stands
  refine y_aload_n (pc := 0) dX5_stands_0 rfl ?_
  refine y_getref (pc := 1) (x := 0) g_X5_10 dX5_stands_1 ?_
  refine y_iload_n (pc := 4) dX5_stands_4 rfl ?_
  refine y_callVi (pc := 5) v_X4_hasPerson l_X5_123 dX5_stands_5 (c_X4_hasPerson n _ _ _) rfl (rc_X4 (by decide)) rfl (by decide) (by decide) (Nat.le_of_ble_eq_true rfl) (fun r4 M3 _ => ?_)
  refine y_gd (fun h5 => ?_)
  refine y_if_eq (off := 10) (tgt := 18) (pc := 8) dX5_stands_8 (by decide) h5 (fun h6 => ?_) (fun h6 => ?_)
  · exact y_sub (ls_s (ls_n (ls_n (ls_n ls_0)))) (t_X5_stands_18 n M3)
  · refine y_iload_n (pc := 11) dX5_stands_11 rfl ?_
    refine y_callSi (pc := 12) s_X5_isCell l_X5_186 dX5_stands_12 (c_X5_isCell n _ _) rfl rfl (by decide) (by decide) (Nat.le_of_ble_eq_true rfl) (fun r8 M7 _ => ?_)
    refine y_gd (fun h9 => ?_)
    refine y_if_ne (off := 9) (tgt := 24) (pc := 15) dX5_stands_15 (by decide) h9 (fun h10 => ?_) (fun h10 => ?_)
    · refine y_aload_n (pc := 24) dX5_stands_24 rfl ?_
      refine y_callVv (pc := 25) v_X5_keepForBack l_X5_224 dX5_stands_25 (c_X5_keepForBack n _) rfl rc_X5 rfl (by decide) (by decide) (Nat.le_of_ble_eq_true rfl) (fun _ M11 _ => ?_)
      refine y_aload_n (pc := 28) dX5_stands_28 rfl ?_
      refine y_getref (pc := 29) (x := 0) g_X5_10 dX5_stands_29 ?_
      refine y_getref (pc := 32) (x := 10) (g_X5_135 (by decide)) dX5_stands_32 ?_
      refine y_iload_n (pc := 35) dX5_stands_35 rfl ?_
      refine y_gd (fun h12 => ?_)
      refine y_iald (pc := 36) dX5_stands_36 ar_10 h12 ?_
      refine y_leti (fun x13 => ?_)
      refine y_istore_n (L' := [some (rv 130), some (iv a1), some (iv a2), some (iv x13)]) (pc := 37) dX5_stands_37 (by decide) rfl rfl ?_
      refine y_aload_n (pc := 38) dX5_stands_38 rfl ?_
      refine y_getref (pc := 39) (x := 0) g_X5_10 dX5_stands_39 ?_
      refine y_getref (pc := 42) (x := 10) (g_X5_135 (by decide)) dX5_stands_42 ?_
      refine y_iload_n (pc := 45) dX5_stands_45 rfl ?_
      refine y_iload_n (pc := 46) dX5_stands_46 rfl ?_
      refine y_iastw (pc := 47) dX5_stands_47 ar_10 h12 (fun M14 => ?_)
      refine y_iload_n (pc := 48) dX5_stands_48 rfl ?_
      exact y_iret (pc := 49) dX5_stands_49
    · exact y_sub (ls_s (ls_n (ls_n (ls_n ls_0)))) (t_X5_stands_18 n M7)
theorem c_X5_stands (n : Nat) (M : Mem) (a1 : Int) (a2 : Int) : ∀ res : Int × Mem, m_X5_stands n M a1 a2 = some res → CTi yX5_stands cX5_stands 4 (some .int) 3 [rv 130, iv a1, iv a2] M res := CTi_of (by decide +kernel) rfl (Nat.le_of_ble_eq_true rfl) rfl (y_X5_stands n M a1 a2)
def m_X5_carries_18 (n : Nat) (M : Mem) : Rs := bd (m_X5_refuse n M (-1)) (fun r2 M1 => some (r2, M1))
theorem t_X5_carries_18 (n : Nat) (M : Mem) : Y RX5 cX5_carries 4 3 0 none 18 [some (rv 130), none, none, none] [] M (m_X5_carries_18 n M) := by
  unfold m_X5_carries_18
  refine y_aload_n (pc := 18) dX5_carries_18 rfl ?_
  refine y_iconst (pc := 19) dX5_carries_19 ?_
  refine y_callVi (pc := 20) v_X5_refuse l_X5_60 dX5_carries_20 (c_X5_refuse n _ _) rfl rc_X5 rfl (by decide) (by decide) (Nat.le_of_ble_eq_true rfl) (fun r2 M1 _ => ?_)
  exact y_iret (pc := 23) dX5_carries_23
def m_X5_carries (n : Nat) (M : Mem) (a1 : Int) (a2 : Int) : Rs := bd (m_X4_hasThing n M 0 a1) (fun r4 M3 => if I32 r4 then (if r4 = 0 then (m_X5_carries_18 n M3) else (bd (m_X5_isCell n M3 a2) (fun r8 M7 => if I32 r8 then (if r8 = 0 then (m_X5_carries_18 n M7) else (bd (m_X5_keepForBack n M7) (fun _ M11 => if 0 ≤ a1 ∧ a1 < 8 then (lt (rd M11 5 (Int.toNat a1)) (fun x13 => wr M11 5 (Int.toNat a1) a2 (fun M14 => some (x13, M14)))) else none))) else none))) else none)
theorem y_X5_carries (n : Nat) (M : Mem) (a1 : Int) (a2 : Int) : Y RX5 cX5_carries 4 3 0 none 0 [some (rv 130), some (iv a1), some (iv a2), none] [] M (m_X5_carries n M a1 a2) := by
  unfold m_X5_carries
  refine y_aload_n (pc := 0) dX5_carries_0 rfl ?_
  refine y_getref (pc := 1) (x := 0) g_X5_10 dX5_carries_1 ?_
  refine y_iload_n (pc := 4) dX5_carries_4 rfl ?_
  refine y_callVi (pc := 5) v_X4_hasThing l_X5_159 dX5_carries_5 (c_X4_hasThing n _ _ _) rfl (rc_X4 (by decide)) rfl (by decide) (by decide) (Nat.le_of_ble_eq_true rfl) (fun r4 M3 _ => ?_)
  refine y_gd (fun h5 => ?_)
  refine y_if_eq (off := 10) (tgt := 18) (pc := 8) dX5_carries_8 (by decide) h5 (fun h6 => ?_) (fun h6 => ?_)
  · exact y_sub (ls_s (ls_n (ls_n (ls_n ls_0)))) (t_X5_carries_18 n M3)
  · refine y_iload_n (pc := 11) dX5_carries_11 rfl ?_
    refine y_callSi (pc := 12) s_X5_isCell l_X5_186 dX5_carries_12 (c_X5_isCell n _ _) rfl rfl (by decide) (by decide) (Nat.le_of_ble_eq_true rfl) (fun r8 M7 _ => ?_)
    refine y_gd (fun h9 => ?_)
    refine y_if_ne (off := 9) (tgt := 24) (pc := 15) dX5_carries_15 (by decide) h9 (fun h10 => ?_) (fun h10 => ?_)
    · refine y_aload_n (pc := 24) dX5_carries_24 rfl ?_
      refine y_callVv (pc := 25) v_X5_keepForBack l_X5_224 dX5_carries_25 (c_X5_keepForBack n _) rfl rc_X5 rfl (by decide) (by decide) (Nat.le_of_ble_eq_true rfl) (fun _ M11 _ => ?_)
      refine y_aload_n (pc := 28) dX5_carries_28 rfl ?_
      refine y_getref (pc := 29) (x := 0) g_X5_10 dX5_carries_29 ?_
      refine y_getref (pc := 32) (x := 5) (g_X5_165 (by decide)) dX5_carries_32 ?_
      refine y_iload_n (pc := 35) dX5_carries_35 rfl ?_
      refine y_gd (fun h12 => ?_)
      refine y_iald (pc := 36) dX5_carries_36 ar_5 h12 ?_
      refine y_leti (fun x13 => ?_)
      refine y_istore_n (L' := [some (rv 130), some (iv a1), some (iv a2), some (iv x13)]) (pc := 37) dX5_carries_37 (by decide) rfl rfl ?_
      refine y_aload_n (pc := 38) dX5_carries_38 rfl ?_
      refine y_getref (pc := 39) (x := 0) g_X5_10 dX5_carries_39 ?_
      refine y_getref (pc := 42) (x := 5) (g_X5_165 (by decide)) dX5_carries_42 ?_
      refine y_iload_n (pc := 45) dX5_carries_45 rfl ?_
      refine y_iload_n (pc := 46) dX5_carries_46 rfl ?_
      refine y_iastw (pc := 47) dX5_carries_47 ar_5 h12 (fun M14 => ?_)
      refine y_iload_n (pc := 48) dX5_carries_48 rfl ?_
      exact y_iret (pc := 49) dX5_carries_49
    · exact y_sub (ls_s (ls_n (ls_n (ls_n ls_0)))) (t_X5_carries_18 n M7)
theorem c_X5_carries (n : Nat) (M : Mem) (a1 : Int) (a2 : Int) : ∀ res : Int × Mem, m_X5_carries n M a1 a2 = some res → CTi yX5_carries cX5_carries 4 (some .int) 3 [rv 130, iv a1, iv a2] M res := CTi_of (by decide +kernel) rfl (Nat.le_of_ble_eq_true rfl) rfl (y_X5_carries n M a1 a2)
def m_X5_thinkOn (n : Nat) (M : Mem) (a1 : Int) : Rs := bd (m_X0_begin n M 0) (fun _ M1 => bd (m_X0_goOn n M1 a1) (fun _ M2 => some (0, M2)))
theorem y_X5_thinkOn (n : Nat) (M : Mem) (a1 : Int) : Y RX5 cX5_thinkOn 2 5 3 none 0 [some (rv 130), some (iv a1)] [] M (m_X5_thinkOn n M a1) := by
  unfold m_X5_thinkOn
  refine y_aload_n (pc := 0) dX5_thinkOn_0 rfl ?_
  refine y_getref (pc := 1) (x := 129) g_X5_50 dX5_thinkOn_1 ?_
  refine y_aload_n (pc := 4) dX5_thinkOn_4 rfl ?_
  refine y_getref (pc := 5) (x := 0) g_X5_10 dX5_thinkOn_5 ?_
  refine y_callVv (pc := 8) v_X0_begin l_X5_67 dX5_thinkOn_8 (c_X0_begin n _ _) rfl rc_X0 rfl (by decide) (by decide) (Nat.le_of_ble_eq_true rfl) (fun _ M1 _ => ?_)
  refine y_aload_n (pc := 11) dX5_thinkOn_11 rfl ?_
  refine y_getref (pc := 12) (x := 129) g_X5_50 dX5_thinkOn_12 ?_
  refine y_iload_n (pc := 15) dX5_thinkOn_15 rfl ?_
  refine y_callVv (pc := 16) v_X0_goOn l_X5_119 dX5_thinkOn_16 (c_X0_goOn n _ _) rfl rc_X0 rfl (by decide) (by decide) (Nat.le_of_ble_eq_true rfl) (fun _ M2 _ => ?_)
  exact y_vret (pc := 19) dX5_thinkOn_19
theorem c_X5_thinkOn (n : Nat) (M : Mem) (a1 : Int) : ∀ res : Int × Mem, m_X5_thinkOn n M a1 = some res → CTv yX5_thinkOn cX5_thinkOn 2 5 [rv 130, iv a1] M res := CTv_of (by decide +kernel) rfl (Nat.le_of_ble_eq_true rfl) rfl (y_X5_thinkOn n M a1)
def m_X5_hours (n : Nat) (M : Mem) (a1 : Int) : Rs := bd (m_X5_outOfRange n M a1 1 60) (fun r2 M1 => if I32 r2 then (if r2 = 0 then (if I32 ((rd M1 0 13) + a1) then (if ((rd M1 0 13) + a1) ≤ 999 then (bd (m_X5_keepForBack n M1) (fun _ M7 => bd (m_X5_thinkOn n M7 a1) (fun _ M8 => bd (m_X4_become n M8 0 22) (fun _ M9 => bd (m_X4_ownedThings n M9 0) (fun r11 M10 => some (r11, M10)))))) else (bd (m_X5_refuse n M1 (-6)) (fun r13 M12 => some (r13, M12)))) else none) else (bd (m_X5_refuse n M1 r2) (fun r15 M14 => some (r15, M14)))) else none)
theorem y_X5_hours (n : Nat) (M : Mem) (a1 : Int) : Y RX5 cX5_hours 3 6 0 none 0 [some (rv 130), some (iv a1), none] [] M (m_X5_hours n M a1) := by
  unfold m_X5_hours
  refine y_iload_n (pc := 0) dX5_hours_0 rfl ?_
  refine y_iconst (pc := 1) dX5_hours_1 ?_
  refine y_bipush (pc := 2) dX5_hours_2 (by decide) ?_
  refine y_callSi (pc := 4) s_X5_outOfRange l_X5_220 dX5_hours_4 (c_X5_outOfRange n _ _ _ _) rfl rfl (by decide) (by decide) (Nat.le_of_ble_eq_true rfl) (fun r2 M1 _ => ?_)
  refine y_istore_n (L' := [some (rv 130), some (iv a1), some (iv r2)]) (pc := 7) dX5_hours_7 (by decide) rfl rfl ?_
  refine y_iload_n (pc := 8) dX5_hours_8 rfl ?_
  refine y_gd (fun h3 => ?_)
  refine y_if_eq (off := 9) (tgt := 18) (pc := 9) dX5_hours_9 (by decide) h3 (fun h4 => ?_) (fun h4 => ?_)
  · refine y_aload_n (pc := 18) dX5_hours_18 rfl ?_
    refine y_getref (pc := 19) (x := 0) g_X5_10 dX5_hours_19 ?_
    refine y_getint (pc := 22) (g_X5_116 (by decide)) dX5_hours_22 ?_
    refine y_iload_n (pc := 25) dX5_hours_25 rfl ?_
    refine y_iadd (pc := 26) dX5_hours_26 ?_
    refine y_sipush (pc := 27) dX5_hours_27 (by decide) ?_
    refine y_gd (fun h5 => ?_)
    refine y_icmp_le (off := 10) (tgt := 40) (pc := 30) dX5_hours_30 (by decide) h5 (by decide) (fun h6 => ?_) (fun h6 => ?_)
    · refine y_aload_n (pc := 40) dX5_hours_40 rfl ?_
      refine y_callVv (pc := 41) v_X5_keepForBack l_X5_224 dX5_hours_41 (c_X5_keepForBack n _) rfl rc_X5 rfl (by decide) (by decide) (Nat.le_of_ble_eq_true rfl) (fun _ M7 _ => ?_)
      refine y_aload_n (pc := 44) dX5_hours_44 rfl ?_
      refine y_iload_n (pc := 45) dX5_hours_45 rfl ?_
      refine y_callVv (pc := 46) v_X5_thinkOn l_X5_227 dX5_hours_46 (c_X5_thinkOn n _ _) rfl rc_X5 rfl (by decide) (by decide) (Nat.le_of_ble_eq_true rfl) (fun _ M8 _ => ?_)
      refine y_aload_n (pc := 49) dX5_hours_49 rfl ?_
      refine y_getref (pc := 50) (x := 0) g_X5_10 dX5_hours_50 ?_
      refine y_aload_n (pc := 53) dX5_hours_53 rfl ?_
      refine y_getref (pc := 54) (x := 129) g_X5_50 dX5_hours_54 ?_
      refine y_getref (pc := 57) (x := 22) g_X5_81 dX5_hours_57 ?_
      refine y_callVv (pc := 60) v_X4_become l_X5_84 dX5_hours_60 (c_X4_become n _ _ _) rfl (rc_X4 (by decide)) rfl (by decide) (by decide) (Nat.le_of_ble_eq_true rfl) (fun _ M9 _ => ?_)
      refine y_aload_n (pc := 63) dX5_hours_63 rfl ?_
      refine y_getref (pc := 64) (x := 0) g_X5_10 dX5_hours_64 ?_
      refine y_callVi (pc := 67) v_X4_ownedThings l_X5_213 dX5_hours_67 (c_X4_ownedThings n _ _) rfl (rc_X4 (by decide)) rfl (by decide) (by decide) (Nat.le_of_ble_eq_true rfl) (fun r11 M10 _ => ?_)
      exact y_iret (pc := 70) dX5_hours_70
    · refine y_aload_n (pc := 33) dX5_hours_33 rfl ?_
      refine y_bipush (pc := 34) dX5_hours_34 (by decide) ?_
      refine y_callVi (pc := 36) v_X5_refuse l_X5_60 dX5_hours_36 (c_X5_refuse n _ _) rfl rc_X5 rfl (by decide) (by decide) (Nat.le_of_ble_eq_true rfl) (fun r13 M12 _ => ?_)
      exact y_iret (pc := 39) dX5_hours_39
  · refine y_aload_n (pc := 12) dX5_hours_12 rfl ?_
    refine y_iload_n (pc := 13) dX5_hours_13 rfl ?_
    refine y_callVi (pc := 14) v_X5_refuse l_X5_60 dX5_hours_14 (c_X5_refuse n _ _) rfl rc_X5 rfl (by decide) (by decide) (Nat.le_of_ble_eq_true rfl) (fun r15 M14 _ => ?_)
    exact y_iret (pc := 17) dX5_hours_17
theorem c_X5_hours (n : Nat) (M : Mem) (a1 : Int) : ∀ res : Int × Mem, m_X5_hours n M a1 = some res → CTi yX5_hours cX5_hours 3 (some .int) 6 [rv 130, iv a1] M res := CTi_of (by decide +kernel) rfl (Nat.le_of_ble_eq_true rfl) rfl (y_X5_hours n M a1)
def m_X5_back_16 (n : Nat) (M : Mem) : Rs := bd (m_X5_refuse n M (-3)) (fun r2 M1 => some (r2, M1))
theorem t_X5_back_16 (n : Nat) (M : Mem) : Y RX5 cX5_back 1 2 0 none 16 [some (rv 130)] [] M (m_X5_back_16 n M) := by
  unfold m_X5_back_16
  refine y_aload_n (pc := 16) dX5_back_16 rfl ?_
  refine y_bipush (pc := 17) dX5_back_17 (by decide) ?_
  refine y_callVi (pc := 19) v_X5_refuse l_X5_60 dX5_back_19 (c_X5_refuse n _ _) rfl rc_X5 rfl (by decide) (by decide) (Nat.le_of_ble_eq_true rfl) (fun r2 M1 _ => ?_)
  exact y_iret (pc := 22) dX5_back_22
def m_X5_back (n : Nat) (M : Mem) : Rs := if (rd M 130 4) ≤ 0 then (m_X5_back_16 n M) else (if (rd M 130 4) ≤ 8 then (wr M 130 4 ((rd M 130 4) - 1) (fun M5 => if 0 ≤ (rd M5 130 4) ∧ (rd M5 130 4) < 8 then (bd (m_X4_become n M5 0 (Int.toNat (rd M5 131 (Int.toNat (rd M5 130 4))))) (fun _ M7 => some ((rd M7 130 4), M7))) else none)) else (m_X5_back_16 n M))
theorem y_X5_back (n : Nat) (M : Mem) : Y RX5 cX5_back 1 2 0 none 0 [some (rv 130)] [] M (m_X5_back n M) := by
  unfold m_X5_back
  refine y_aload_n (pc := 0) dX5_back_0 rfl ?_
  refine y_getint (pc := 1) g_X5_27 dX5_back_1 ?_
  refine y_if_le (off := 12) (tgt := 16) (pc := 4) dX5_back_4 (by decide) (rd_rng _ _ _) (fun h3 => ?_) (fun h3 => ?_)
  · exact y_sub (ls_s ls_0) (t_X5_back_16 n M)
  · refine y_aload_n (pc := 7) dX5_back_7 rfl ?_
    refine y_getint (pc := 8) g_X5_27 dX5_back_8 ?_
    refine y_bipush (pc := 11) dX5_back_11 (by decide) ?_
    refine y_icmp_le (off := 10) (tgt := 23) (pc := 13) dX5_back_13 (by decide) (rd_rng _ _ _) (by decide) (fun h4 => ?_) (fun h4 => ?_)
    · refine y_aload_n (pc := 23) dX5_back_23 rfl ?_
      refine y_dup (pc := 24) dX5_back_24 rfl ?_
      refine y_getint (pc := 25) g_X5_27 dX5_back_25 ?_
      refine y_iconst (pc := 28) dX5_back_28 ?_
      refine y_isub (pc := 29) dX5_back_29 ?_
      refine y_putintw (pc := 30) pf_X5_27 dX5_back_30 (fun M5 => ?_)
      refine y_aload_n (pc := 33) dX5_back_33 rfl ?_
      refine y_getref (pc := 34) (x := 0) g_X5_10 dX5_back_34 ?_
      refine y_aload_n (pc := 37) dX5_back_37 rfl ?_
      refine y_getref (pc := 38) (x := 131) g_X5_23 dX5_back_38 ?_
      refine y_aload_n (pc := 41) dX5_back_41 rfl ?_
      refine y_getint (pc := 42) g_X5_27 dX5_back_42 ?_
      refine y_gd (fun h6 => ?_)
      refine y_aald (pc := 45) dX5_back_45 h6 ?_
      refine y_callVv (pc := 46) v_X4_become l_X5_84 dX5_back_46 (c_X4_become n _ _ _) rfl (rc_X4 (by decide)) rfl (by decide) (by decide) (Nat.le_of_ble_eq_true rfl) (fun _ M7 _ => ?_)
      refine y_aload_n (pc := 49) dX5_back_49 rfl ?_
      refine y_getint (pc := 50) g_X5_27 dX5_back_50 ?_
      exact y_iret (pc := 53) dX5_back_53
    · exact y_sub (ls_s ls_0) (t_X5_back_16 n M)
theorem c_X5_back (n : Nat) (M : Mem) : ∀ res : Int × Mem, m_X5_back n M = some res → CTi yX5_back cX5_back 1 (some .int) 2 [rv 130] M res := CTi_of (by decide +kernel) rfl (Nat.le_of_ble_eq_true rfl) rfl (y_X5_back n M)
def m_X5_fogThen (n : Nat) (M : Mem) (a1 : Int) (a2 : Int) : Rs := bd (m_X5_isCell n M a1) (fun r2 M1 => if I32 r2 then (if r2 = 0 then (bd (m_X5_refuse n M1 (-1)) (fun r15 M14 => some (r15, M14))) else (bd (m_X5_outOfRange n M1 a2 0 60) (fun r6 M5 => if I32 r6 then (if r6 = 0 then (bd (m_X5_thinkOn n M5 a2) (fun _ M9 => bd (m_X0_fogOn n M9 a1) (fun r11 M10 => some (r11, M10)))) else (bd (m_X5_refuse n M5 r6) (fun r13 M12 => some (r13, M12)))) else none))) else none)
theorem y_X5_fogThen (n : Nat) (M : Mem) (a1 : Int) (a2 : Int) : Y RX5 cX5_fogThen 4 6 0 none 0 [some (rv 130), some (iv a1), some (iv a2), none] [] M (m_X5_fogThen n M a1 a2) := by
  unfold m_X5_fogThen
  refine y_iload_n (pc := 0) dX5_fogThen_0 rfl ?_
  refine y_callSi (pc := 1) s_X5_isCell l_X5_186 dX5_fogThen_1 (c_X5_isCell n _ _) rfl rfl (by decide) (by decide) (Nat.le_of_ble_eq_true rfl) (fun r2 M1 _ => ?_)
  refine y_gd (fun h3 => ?_)
  refine y_if_ne (off := 9) (tgt := 13) (pc := 4) dX5_fogThen_4 (by decide) h3 (fun h4 => ?_) (fun h4 => ?_)
  · refine y_iload_n (pc := 13) dX5_fogThen_13 rfl ?_
    refine y_iconst (pc := 14) dX5_fogThen_14 ?_
    refine y_bipush (pc := 15) dX5_fogThen_15 (by decide) ?_
    refine y_callSi (pc := 17) s_X5_outOfRange l_X5_220 dX5_fogThen_17 (c_X5_outOfRange n _ _ _ _) rfl rfl (by decide) (by decide) (Nat.le_of_ble_eq_true rfl) (fun r6 M5 _ => ?_)
    refine y_istore_n (L' := [some (rv 130), some (iv a1), some (iv a2), some (iv r6)]) (pc := 20) dX5_fogThen_20 (by decide) rfl rfl ?_
    refine y_iload_n (pc := 21) dX5_fogThen_21 rfl ?_
    refine y_gd (fun h7 => ?_)
    refine y_if_eq (off := 9) (tgt := 31) (pc := 22) dX5_fogThen_22 (by decide) h7 (fun h8 => ?_) (fun h8 => ?_)
    · refine y_aload_n (pc := 31) dX5_fogThen_31 rfl ?_
      refine y_iload_n (pc := 32) dX5_fogThen_32 rfl ?_
      refine y_callVv (pc := 33) v_X5_thinkOn l_X5_227 dX5_fogThen_33 (c_X5_thinkOn n _ _) rfl rc_X5 rfl (by decide) (by decide) (Nat.le_of_ble_eq_true rfl) (fun _ M9 _ => ?_)
      refine y_aload_n (pc := 36) dX5_fogThen_36 rfl ?_
      refine y_getref (pc := 37) (x := 129) g_X5_50 dX5_fogThen_37 ?_
      refine y_iload_n (pc := 40) dX5_fogThen_40 rfl ?_
      refine y_callVi (pc := 41) v_X0_fogOn l_X5_192 dX5_fogThen_41 (c_X0_fogOn n _ _) rfl rc_X0 rfl (by decide) (by decide) (Nat.le_of_ble_eq_true rfl) (fun r11 M10 _ => ?_)
      exact y_iret (pc := 44) dX5_fogThen_44
    · refine y_aload_n (pc := 25) dX5_fogThen_25 rfl ?_
      refine y_iload_n (pc := 26) dX5_fogThen_26 rfl ?_
      refine y_callVi (pc := 27) v_X5_refuse l_X5_60 dX5_fogThen_27 (c_X5_refuse n _ _) rfl rc_X5 rfl (by decide) (by decide) (Nat.le_of_ble_eq_true rfl) (fun r13 M12 _ => ?_)
      exact y_iret (pc := 30) dX5_fogThen_30
  · refine y_aload_n (pc := 7) dX5_fogThen_7 rfl ?_
    refine y_iconst (pc := 8) dX5_fogThen_8 ?_
    refine y_callVi (pc := 9) v_X5_refuse l_X5_60 dX5_fogThen_9 (c_X5_refuse n _ _) rfl rc_X5 rfl (by decide) (by decide) (Nat.le_of_ble_eq_true rfl) (fun r15 M14 _ => ?_)
    exact y_iret (pc := 12) dX5_fogThen_12
theorem c_X5_fogThen (n : Nat) (M : Mem) (a1 : Int) (a2 : Int) : ∀ res : Int × Mem, m_X5_fogThen n M a1 a2 = some res → CTi yX5_fogThen cX5_fogThen 4 (some .int) 6 [rv 130, iv a1, iv a2] M res := CTi_of (by decide +kernel) rfl (Nat.le_of_ble_eq_true rfl) rfl (y_X5_fogThen n M a1 a2)
def m_X5_then_27 (n : Nat) (M : Mem) : Rs := bd (m_X5_refuse n M (-2)) (fun r2 M1 => some (r2, M1))
theorem t_X5_then_27 (n : Nat) (M : Mem) : Y RX5 cX5_then 4 6 0 none 27 [some (rv 130), none, none, none] [] M (m_X5_then_27 n M) := by
  unfold m_X5_then_27
  refine y_aload_n (pc := 27) dX5_then_27 rfl ?_
  refine y_bipush (pc := 28) dX5_then_28 (by decide) ?_
  refine y_callVi (pc := 30) v_X5_refuse l_X5_60 dX5_then_30 (c_X5_refuse n _ _) rfl rc_X5 rfl (by decide) (by decide) (Nat.le_of_ble_eq_true rfl) (fun r2 M1 _ => ?_)
  exact y_iret (pc := 33) dX5_then_33
def m_X5_then (n : Nat) (M : Mem) (a1 : Int) (a2 : Int) : Rs := bd (m_X5_outOfRange n M a1 0 60) (fun r4 M3 => if I32 r4 then (if r4 = 0 then (if I32 a2 then (if a2 < 0 then (m_X5_then_27 n M3) else (if a2 ≤ 2 then (bd (m_X5_thinkOn n M3 a1) (fun _ M10 => if a2 = 0 then (bd (m_X0_foggyCells n M10) (fun r13 M12 => some (r13, M12))) else (if a2 = 1 then (bd (m_X4_ownedThings n M10 22) (fun r16 M15 => some (r16, M15))) else (bd (m_X4_nobodysThings n M10 22) (fun r18 M17 => some (r18, M17)))))) else (m_X5_then_27 n M3))) else none) else (bd (m_X5_refuse n M3 r4) (fun r20 M19 => some (r20, M19)))) else none)
theorem y_X5_then (n : Nat) (M : Mem) (a1 : Int) (a2 : Int) : Y RX5 cX5_then 4 6 0 none 0 [some (rv 130), some (iv a1), some (iv a2), none] [] M (m_X5_then n M a1 a2) := by
  unfold m_X5_then
  refine y_iload_n (pc := 0) dX5_then_0 rfl ?_
  refine y_iconst (pc := 1) dX5_then_1 ?_
  refine y_bipush (pc := 2) dX5_then_2 (by decide) ?_
  refine y_callSi (pc := 4) s_X5_outOfRange l_X5_220 dX5_then_4 (c_X5_outOfRange n _ _ _ _) rfl rfl (by decide) (by decide) (Nat.le_of_ble_eq_true rfl) (fun r4 M3 _ => ?_)
  refine y_istore_n (L' := [some (rv 130), some (iv a1), some (iv a2), some (iv r4)]) (pc := 7) dX5_then_7 (by decide) rfl rfl ?_
  refine y_iload_n (pc := 8) dX5_then_8 rfl ?_
  refine y_gd (fun h5 => ?_)
  refine y_if_eq (off := 9) (tgt := 18) (pc := 9) dX5_then_9 (by decide) h5 (fun h6 => ?_) (fun h6 => ?_)
  · refine y_iload_n (pc := 18) dX5_then_18 rfl ?_
    refine y_gd (fun h7 => ?_)
    refine y_if_lt (off := 8) (tgt := 27) (pc := 19) dX5_then_19 (by decide) h7 (fun h8 => ?_) (fun h8 => ?_)
    · exact y_sub (ls_s (ls_n (ls_n (ls_n ls_0)))) (t_X5_then_27 n M3)
    · refine y_iload_n (pc := 22) dX5_then_22 rfl ?_
      refine y_iconst (pc := 23) dX5_then_23 ?_
      refine y_icmp_le (off := 10) (tgt := 34) (pc := 24) dX5_then_24 (by decide) h7 (by decide) (fun h9 => ?_) (fun h9 => ?_)
      · refine y_aload_n (pc := 34) dX5_then_34 rfl ?_
        refine y_iload_n (pc := 35) dX5_then_35 rfl ?_
        refine y_callVv (pc := 36) v_X5_thinkOn l_X5_227 dX5_then_36 (c_X5_thinkOn n _ _) rfl rc_X5 rfl (by decide) (by decide) (Nat.le_of_ble_eq_true rfl) (fun _ M10 _ => ?_)
        refine y_iload_n (pc := 39) dX5_then_39 rfl ?_
        refine y_br (fun h11 => ?_) (fun h11 => ?_)
        · refine y_lookup (off := 28) (tgt := 68) (pc := 40) dX5_then_40 rfl h7 (by rw [h11]; rfl) (by decide) ?_
          refine y_aload_n (pc := 68) dX5_then_68 rfl ?_
          refine y_getref (pc := 69) (x := 129) g_X5_50 dX5_then_69 ?_
          refine y_callVi (pc := 72) v_X0_foggyCells l_X5_217 dX5_then_72 (c_X0_foggyCells n _) rfl rc_X0 rfl (by decide) (by decide) (Nat.le_of_ble_eq_true rfl) (fun r13 M12 _ => ?_)
          exact y_iret (pc := 75) dX5_then_75
        · refine y_br (fun h14 => ?_) (fun h14 => ?_)
          · refine y_lookup (off := 36) (tgt := 76) (pc := 40) dX5_then_40 rfl h7 (by rw [h14]; rfl) (by decide) ?_
            refine y_aload_n (pc := 76) dX5_then_76 rfl ?_
            refine y_getref (pc := 77) (x := 129) g_X5_50 dX5_then_77 ?_
            refine y_getref (pc := 80) (x := 22) g_X5_81 dX5_then_80 ?_
            refine y_callVi (pc := 83) v_X4_ownedThings l_X5_213 dX5_then_83 (c_X4_ownedThings n _ _) rfl (rc_X4 (by decide)) rfl (by decide) (by decide) (Nat.le_of_ble_eq_true rfl) (fun r16 M15 _ => ?_)
            exact y_iret (pc := 86) dX5_then_86
          · refine y_lookup (off := 47) (tgt := 87) (pc := 40) dX5_then_40 rfl h7 (lk_out2 h11 h14) (by decide) ?_
            refine y_aload_n (pc := 87) dX5_then_87 rfl ?_
            refine y_getref (pc := 88) (x := 129) g_X5_50 dX5_then_88 ?_
            refine y_getref (pc := 91) (x := 22) g_X5_81 dX5_then_91 ?_
            refine y_callVi (pc := 94) v_X4_nobodysThings l_X5_230 dX5_then_94 (c_X4_nobodysThings n _ _) rfl (rc_X4 (by decide)) rfl (by decide) (by decide) (Nat.le_of_ble_eq_true rfl) (fun r18 M17 _ => ?_)
            exact y_iret (pc := 97) dX5_then_97
      · exact y_sub (ls_s (ls_n (ls_n (ls_n ls_0)))) (t_X5_then_27 n M3)
  · refine y_aload_n (pc := 12) dX5_then_12 rfl ?_
    refine y_iload_n (pc := 13) dX5_then_13 rfl ?_
    refine y_callVi (pc := 14) v_X5_refuse l_X5_60 dX5_then_14 (c_X5_refuse n _ _) rfl rc_X5 rfl (by decide) (by decide) (Nat.le_of_ble_eq_true rfl) (fun r20 M19 _ => ?_)
    exact y_iret (pc := 17) dX5_then_17
theorem c_X5_then (n : Nat) (M : Mem) (a1 : Int) (a2 : Int) : ∀ res : Int × Mem, m_X5_then n M a1 a2 = some res → CTi yX5_then cX5_then 4 (some .int) 6 [rv 130, iv a1, iv a2] M res := CTi_of (by decide +kernel) rfl (Nat.le_of_ble_eq_true rfl) rfl (y_X5_then n M a1 a2)
def m_X5_ownerThen (n : Nat) (M : Mem) (a1 : Int) (a2 : Int) : Rs := bd (m_X4_hasThing n M 0 a1) (fun r2 M1 => if I32 r2 then (if r2 = 0 then (bd (m_X5_refuse n M1 (-1)) (fun r16 M15 => some (r16, M15))) else (bd (m_X5_outOfRange n M1 a2 0 60) (fun r6 M5 => if I32 r6 then (if r6 = 0 then (bd (m_X5_thinkOn n M5 a2) (fun _ M9 => if 0 ≤ a1 ∧ a1 < 8 then (bd (m_X5_orNone n M9 (rd M9 28 (Int.toNat a1))) (fun r12 M11 => some (r12, M11))) else none)) else (bd (m_X5_refuse n M5 r6) (fun r14 M13 => some (r14, M13)))) else none))) else none)
theorem y_X5_ownerThen (n : Nat) (M : Mem) (a1 : Int) (a2 : Int) : Y RX5 cX5_ownerThen 4 6 0 none 0 [some (rv 130), some (iv a1), some (iv a2), none] [] M (m_X5_ownerThen n M a1 a2) := by
  unfold m_X5_ownerThen
  refine y_aload_n (pc := 0) dX5_ownerThen_0 rfl ?_
  refine y_getref (pc := 1) (x := 0) g_X5_10 dX5_ownerThen_1 ?_
  refine y_iload_n (pc := 4) dX5_ownerThen_4 rfl ?_
  refine y_callVi (pc := 5) v_X4_hasThing l_X5_159 dX5_ownerThen_5 (c_X4_hasThing n _ _ _) rfl (rc_X4 (by decide)) rfl (by decide) (by decide) (Nat.le_of_ble_eq_true rfl) (fun r2 M1 _ => ?_)
  refine y_gd (fun h3 => ?_)
  refine y_if_ne (off := 9) (tgt := 17) (pc := 8) dX5_ownerThen_8 (by decide) h3 (fun h4 => ?_) (fun h4 => ?_)
  · refine y_iload_n (pc := 17) dX5_ownerThen_17 rfl ?_
    refine y_iconst (pc := 18) dX5_ownerThen_18 ?_
    refine y_bipush (pc := 19) dX5_ownerThen_19 (by decide) ?_
    refine y_callSi (pc := 21) s_X5_outOfRange l_X5_220 dX5_ownerThen_21 (c_X5_outOfRange n _ _ _ _) rfl rfl (by decide) (by decide) (Nat.le_of_ble_eq_true rfl) (fun r6 M5 _ => ?_)
    refine y_istore_n (L' := [some (rv 130), some (iv a1), some (iv a2), some (iv r6)]) (pc := 24) dX5_ownerThen_24 (by decide) rfl rfl ?_
    refine y_iload_n (pc := 25) dX5_ownerThen_25 rfl ?_
    refine y_gd (fun h7 => ?_)
    refine y_if_eq (off := 9) (tgt := 35) (pc := 26) dX5_ownerThen_26 (by decide) h7 (fun h8 => ?_) (fun h8 => ?_)
    · refine y_aload_n (pc := 35) dX5_ownerThen_35 rfl ?_
      refine y_iload_n (pc := 36) dX5_ownerThen_36 rfl ?_
      refine y_callVv (pc := 37) v_X5_thinkOn l_X5_227 dX5_ownerThen_37 (c_X5_thinkOn n _ _) rfl rc_X5 rfl (by decide) (by decide) (Nat.le_of_ble_eq_true rfl) (fun _ M9 _ => ?_)
      refine y_aload_n (pc := 40) dX5_ownerThen_40 rfl ?_
      refine y_getref (pc := 41) (x := 129) g_X5_50 dX5_ownerThen_41 ?_
      refine y_getref (pc := 44) (x := 22) g_X5_81 dX5_ownerThen_44 ?_
      refine y_getref (pc := 47) (x := 28) (g_X5_168 (by decide)) dX5_ownerThen_47 ?_
      refine y_iload_n (pc := 50) dX5_ownerThen_50 rfl ?_
      refine y_gd (fun h10 => ?_)
      refine y_iald (pc := 51) dX5_ownerThen_51 ar_28 h10 ?_
      refine y_callSi (pc := 52) s_X5_orNone l_X5_171 dX5_ownerThen_52 (c_X5_orNone n _ _) rfl rfl (by decide) (by decide) (Nat.le_of_ble_eq_true rfl) (fun r12 M11 _ => ?_)
      exact y_iret (pc := 55) dX5_ownerThen_55
    · refine y_aload_n (pc := 29) dX5_ownerThen_29 rfl ?_
      refine y_iload_n (pc := 30) dX5_ownerThen_30 rfl ?_
      refine y_callVi (pc := 31) v_X5_refuse l_X5_60 dX5_ownerThen_31 (c_X5_refuse n _ _) rfl rc_X5 rfl (by decide) (by decide) (Nat.le_of_ble_eq_true rfl) (fun r14 M13 _ => ?_)
      exact y_iret (pc := 34) dX5_ownerThen_34
  · refine y_aload_n (pc := 11) dX5_ownerThen_11 rfl ?_
    refine y_iconst (pc := 12) dX5_ownerThen_12 ?_
    refine y_callVi (pc := 13) v_X5_refuse l_X5_60 dX5_ownerThen_13 (c_X5_refuse n _ _) rfl rc_X5 rfl (by decide) (by decide) (Nat.le_of_ble_eq_true rfl) (fun r16 M15 _ => ?_)
    exact y_iret (pc := 16) dX5_ownerThen_16
theorem c_X5_ownerThen (n : Nat) (M : Mem) (a1 : Int) (a2 : Int) : ∀ res : Int × Mem, m_X5_ownerThen n M a1 a2 = some res → CTi yX5_ownerThen cX5_ownerThen 4 (some .int) 6 [rv 130, iv a1, iv a2] M res := CTi_of (by decide +kernel) rfl (Nat.le_of_ble_eq_true rfl) rfl (y_X5_ownerThen n M a1 a2)
def m_X5_personThen_54 (n : Nat) (M : Mem) (a1 : Int) (a2 : Int) (a3 : Int) : Rs := bd (m_X5_thinkOn n M a2) (fun _ M1 => if I32 a3 then (if a3 = 0 then (if 0 ≤ a1 ∧ a1 < 5 then (some ((rd M1 32 (Int.toNat a1)), M1)) else none) else (bd (m_X4_worthsOf n M1 22 a1) (fun r5 M4 => some (r5, M4)))) else none)
theorem t_X5_personThen_54 (n : Nat) (M : Mem) (a1 : Int) (a2 : Int) (a3 : Int) : Y RX5 cX5_personThen 5 6 0 none 54 [some (rv 130), some (iv a1), some (iv a2), some (iv a3), none] [] M (m_X5_personThen_54 n M a1 a2 a3) := by
  unfold m_X5_personThen_54
  refine y_aload_n (pc := 54) dX5_personThen_54 rfl ?_
  refine y_iload_n (pc := 55) dX5_personThen_55 rfl ?_
  refine y_callVv (pc := 56) v_X5_thinkOn l_X5_227 dX5_personThen_56 (c_X5_thinkOn n _ _) rfl rc_X5 rfl (by decide) (by decide) (Nat.le_of_ble_eq_true rfl) (fun _ M1 _ => ?_)
  refine y_iload_n (pc := 59) dX5_personThen_59 rfl ?_
  refine y_gd (fun h2 => ?_)
  refine y_if_ne (off := 18) (tgt := 78) (pc := 60) dX5_personThen_60 (by decide) h2 (fun h3 => ?_) (fun h3 => ?_)
  · refine y_aload_n (pc := 78) dX5_personThen_78 rfl ?_
    refine y_getref (pc := 79) (x := 129) g_X5_50 dX5_personThen_79 ?_
    refine y_getref (pc := 82) (x := 22) g_X5_81 dX5_personThen_82 ?_
    refine y_iload_n (pc := 85) dX5_personThen_85 rfl ?_
    refine y_callVi (pc := 86) v_X4_worthsOf l_X5_156 dX5_personThen_86 (c_X4_worthsOf n _ _ _) rfl (rc_X4 (by decide)) rfl (by decide) (by decide) (Nat.le_of_ble_eq_true rfl) (fun r5 M4 _ => ?_)
    exact y_iret (pc := 89) dX5_personThen_89
  · refine y_aload_n (pc := 63) dX5_personThen_63 rfl ?_
    refine y_getref (pc := 64) (x := 129) g_X5_50 dX5_personThen_64 ?_
    refine y_getref (pc := 67) (x := 22) g_X5_81 dX5_personThen_67 ?_
    refine y_getref (pc := 70) (x := 32) (g_X5_135 (by decide)) dX5_personThen_70 ?_
    refine y_iload_n (pc := 73) dX5_personThen_73 rfl ?_
    refine y_gd (fun h6 => ?_)
    refine y_iald (pc := 74) dX5_personThen_74 ar_32 h6 ?_
    refine y_goto (tgt := 89) (pc := 75) dX5_personThen_75 (by decide) ?_
    exact y_iret (pc := 89) dX5_personThen_89
def m_X5_personThen (n : Nat) (M : Mem) (a1 : Int) (a2 : Int) (a3 : Int) : Rs := bd (m_X4_hasPerson n M 0 a1) (fun r8 M7 => if I32 r8 then (if r8 = 0 then (bd (m_X5_refuse n M7 (-1)) (fun r23 M22 => some (r23, M22))) else (bd (m_X5_outOfRange n M7 a2 0 60) (fun r12 M11 => if I32 r12 then (if r12 = 0 then (if I32 a3 then (if a3 = 0 then (m_X5_personThen_54 n M11 a1 a2 a3) else (if a3 = 1 then (m_X5_personThen_54 n M11 a1 a2 a3) else (bd (m_X5_refuse n M11 (-2)) (fun r19 M18 => some (r19, M18))))) else none) else (bd (m_X5_refuse n M11 r12) (fun r21 M20 => some (r21, M20)))) else none))) else none)
theorem y_X5_personThen (n : Nat) (M : Mem) (a1 : Int) (a2 : Int) (a3 : Int) : Y RX5 cX5_personThen 5 6 0 none 0 [some (rv 130), some (iv a1), some (iv a2), some (iv a3), none] [] M (m_X5_personThen n M a1 a2 a3) := by
  unfold m_X5_personThen
  refine y_aload_n (pc := 0) dX5_personThen_0 rfl ?_
  refine y_getref (pc := 1) (x := 0) g_X5_10 dX5_personThen_1 ?_
  refine y_iload_n (pc := 4) dX5_personThen_4 rfl ?_
  refine y_callVi (pc := 5) v_X4_hasPerson l_X5_123 dX5_personThen_5 (c_X4_hasPerson n _ _ _) rfl (rc_X4 (by decide)) rfl (by decide) (by decide) (Nat.le_of_ble_eq_true rfl) (fun r8 M7 _ => ?_)
  refine y_gd (fun h9 => ?_)
  refine y_if_ne (off := 9) (tgt := 17) (pc := 8) dX5_personThen_8 (by decide) h9 (fun h10 => ?_) (fun h10 => ?_)
  · refine y_iload_n (pc := 17) dX5_personThen_17 rfl ?_
    refine y_iconst (pc := 18) dX5_personThen_18 ?_
    refine y_bipush (pc := 19) dX5_personThen_19 (by decide) ?_
    refine y_callSi (pc := 21) s_X5_outOfRange l_X5_220 dX5_personThen_21 (c_X5_outOfRange n _ _ _ _) rfl rfl (by decide) (by decide) (Nat.le_of_ble_eq_true rfl) (fun r12 M11 _ => ?_)
    refine y_istore (L' := [some (rv 130), some (iv a1), some (iv a2), some (iv a3), some (iv r12)]) (pc := 24) dX5_personThen_24 (by decide) rfl rfl ?_
    refine y_iload (pc := 26) dX5_personThen_26 rfl ?_
    refine y_gd (fun h13 => ?_)
    refine y_if_eq (off := 10) (tgt := 38) (pc := 28) dX5_personThen_28 (by decide) h13 (fun h14 => ?_) (fun h14 => ?_)
    · refine y_iload_n (pc := 38) dX5_personThen_38 rfl ?_
      refine y_gd (fun h15 => ?_)
      refine y_if_eq (off := 15) (tgt := 54) (pc := 39) dX5_personThen_39 (by decide) h15 (fun h16 => ?_) (fun h16 => ?_)
      · exact y_sub (ls_s (ls_s (ls_s (ls_s (ls_n ls_0))))) (t_X5_personThen_54 n M11 a1 a2 a3)
      · refine y_iload_n (pc := 42) dX5_personThen_42 rfl ?_
        refine y_iconst (pc := 43) dX5_personThen_43 ?_
        refine y_icmp_eq (off := 10) (tgt := 54) (pc := 44) dX5_personThen_44 (by decide) h15 (by decide) (fun h17 => ?_) (fun h17 => ?_)
        · exact y_sub (ls_s (ls_s (ls_s (ls_s (ls_n ls_0))))) (t_X5_personThen_54 n M11 a1 a2 a3)
        · refine y_aload_n (pc := 47) dX5_personThen_47 rfl ?_
          refine y_bipush (pc := 48) dX5_personThen_48 (by decide) ?_
          refine y_callVi (pc := 50) v_X5_refuse l_X5_60 dX5_personThen_50 (c_X5_refuse n _ _) rfl rc_X5 rfl (by decide) (by decide) (Nat.le_of_ble_eq_true rfl) (fun r19 M18 _ => ?_)
          exact y_iret (pc := 53) dX5_personThen_53
    · refine y_aload_n (pc := 31) dX5_personThen_31 rfl ?_
      refine y_iload (pc := 32) dX5_personThen_32 rfl ?_
      refine y_callVi (pc := 34) v_X5_refuse l_X5_60 dX5_personThen_34 (c_X5_refuse n _ _) rfl rc_X5 rfl (by decide) (by decide) (Nat.le_of_ble_eq_true rfl) (fun r21 M20 _ => ?_)
      exact y_iret (pc := 37) dX5_personThen_37
  · refine y_aload_n (pc := 11) dX5_personThen_11 rfl ?_
    refine y_iconst (pc := 12) dX5_personThen_12 ?_
    refine y_callVi (pc := 13) v_X5_refuse l_X5_60 dX5_personThen_13 (c_X5_refuse n _ _) rfl rc_X5 rfl (by decide) (by decide) (Nat.le_of_ble_eq_true rfl) (fun r23 M22 _ => ?_)
    exact y_iret (pc := 16) dX5_personThen_16
theorem c_X5_personThen (n : Nat) (M : Mem) (a1 : Int) (a2 : Int) (a3 : Int) : ∀ res : Int × Mem, m_X5_personThen n M a1 a2 a3 = some res → CTi yX5_personThen cX5_personThen 5 (some .int) 6 [rv 130, iv a1, iv a2, iv a3] M res := CTi_of (by decide +kernel) rfl (Nat.le_of_ble_eq_true rfl) rfl (y_X5_personThen n M a1 a2 a3)
def m_X5_when_41 (n : Nat) : Nat → Mem → Int → Int → Int → Rs
  | 0, _, _, _, _ => none
  | t + 1, M, a1, a2, a3 => if I32 a3 then (if 60 < a3 then (some ((-9), M)) else (if 0 ≤ a2 ∧ a2 < 8 then (if I32 a1 then (if (rd M 28 (Int.toNat a2)) = a1 then (some (a3, M)) else (bd (m_X0_goOn n M 1) (fun _ M6 => (m_X5_when_41 n t) M6 a1 a2 (a3 + 1)))) else none) else none)) else none
theorem t_X5_when_41 (n : Nat) : ∀ (t : Nat) (M : Mem) (a1 : Int) (a2 : Int) (a3 : Int), Y RX5 cX5_when 4 5 0 none 41 [some (rv 130), some (iv a1), some (iv a2), some (iv a3)] [] M (m_X5_when_41 n t M a1 a2 a3) := by
  intro t
  induction t with
  | zero => intro M a1 a2 a3; exact y_none
  | succ t ih =>
    intro M a1 a2 a3
    rewrite [m_X5_when_41]
    refine y_iload_n (pc := 41) dX5_when_41 rfl ?_
    refine y_bipush (pc := 42) dX5_when_42 (by decide) ?_
    refine y_gd (fun h1 => ?_)
    refine y_icmp_gt (off := 35) (tgt := 79) (pc := 44) dX5_when_44 (by decide) h1 (by decide) (fun h2 => ?_) (fun h2 => ?_)
    · refine y_bipush (pc := 79) dX5_when_79 (by decide) ?_
      exact y_iret (pc := 81) dX5_when_81
    · refine y_aload_n (pc := 47) dX5_when_47 rfl ?_
      refine y_getref (pc := 48) (x := 129) g_X5_50 dX5_when_48 ?_
      refine y_getref (pc := 51) (x := 22) g_X5_81 dX5_when_51 ?_
      refine y_getref (pc := 54) (x := 28) (g_X5_168 (by decide)) dX5_when_54 ?_
      refine y_iload_n (pc := 57) dX5_when_57 rfl ?_
      refine y_gd (fun h3 => ?_)
      refine y_iald (pc := 58) dX5_when_58 ar_28 h3 ?_
      refine y_iload_n (pc := 59) dX5_when_59 rfl ?_
      refine y_gd (fun h4 => ?_)
      refine y_icmp_ne (off := 5) (tgt := 65) (pc := 60) dX5_when_60 (by decide) (rd_rng _ _ _) h4 (fun h5 => ?_) (fun h5 => ?_)
      · refine y_aload_n (pc := 65) dX5_when_65 rfl ?_
        refine y_getref (pc := 66) (x := 129) g_X5_50 dX5_when_66 ?_
        refine y_iconst (pc := 69) dX5_when_69 ?_
        refine y_callVv (pc := 70) v_X0_goOn l_X5_119 dX5_when_70 (c_X0_goOn n _ _) rfl rc_X0 rfl (by decide) (by decide) (Nat.le_of_ble_eq_true rfl) (fun _ M6 _ => ?_)
        refine y_iinc (L' := [some (rv 130), some (iv a1), some (iv a2), some (iv (a3 + 1))]) (pc := 73) dX5_when_73 rfl (by decide) rfl rfl ?_
        refine y_goto (tgt := 41) (pc := 76) dX5_when_76 (by decide) ?_
        exact y_sub (ls_s (ls_s (ls_s (ls_s ls_0)))) (ih M6 a1 a2 (a3 + 1))
      · refine y_iload_n (pc := 63) dX5_when_63 rfl ?_
        exact y_iret (pc := 64) dX5_when_64
def m_X5_when_22 (n : Nat) (M : Mem) : Rs := bd (m_X5_refuse n M (-1)) (fun r8 M7 => some (r8, M7))
theorem t_X5_when_22 (n : Nat) (M : Mem) : Y RX5 cX5_when 4 5 0 none 22 [some (rv 130), none, none, none] [] M (m_X5_when_22 n M) := by
  unfold m_X5_when_22
  refine y_aload_n (pc := 22) dX5_when_22 rfl ?_
  refine y_iconst (pc := 23) dX5_when_23 ?_
  refine y_callVi (pc := 24) v_X5_refuse l_X5_60 dX5_when_24 (c_X5_refuse n _ _) rfl rc_X5 rfl (by decide) (by decide) (Nat.le_of_ble_eq_true rfl) (fun r8 M7 _ => ?_)
  exact y_iret (pc := 27) dX5_when_27
def m_X5_when (n : Nat) (M : Mem) (a1 : Int) (a2 : Int) : Rs := bd (m_X4_hasPerson n M 0 a1) (fun r10 M9 => if I32 r10 then (if r10 = 0 then (m_X5_when_22 n M9) else (bd (m_X4_hasThing n M9 0 a2) (fun r14 M13 => if I32 r14 then (if r14 = 0 then (m_X5_when_22 n M13) else (bd (m_X0_begin n M13 0) (fun _ M17 => m_X5_when_41 n n M17 a1 a2 0))) else none))) else none)
theorem y_X5_when (n : Nat) (M : Mem) (a1 : Int) (a2 : Int) : Y RX5 cX5_when 4 5 0 none 0 [some (rv 130), some (iv a1), some (iv a2), none] [] M (m_X5_when n M a1 a2) := by
  unfold m_X5_when
  refine y_aload_n (pc := 0) dX5_when_0 rfl ?_
  refine y_getref (pc := 1) (x := 0) g_X5_10 dX5_when_1 ?_
  refine y_iload_n (pc := 4) dX5_when_4 rfl ?_
  refine y_callVi (pc := 5) v_X4_hasPerson l_X5_123 dX5_when_5 (c_X4_hasPerson n _ _ _) rfl (rc_X4 (by decide)) rfl (by decide) (by decide) (Nat.le_of_ble_eq_true rfl) (fun r10 M9 _ => ?_)
  refine y_gd (fun h11 => ?_)
  refine y_if_eq (off := 14) (tgt := 22) (pc := 8) dX5_when_8 (by decide) h11 (fun h12 => ?_) (fun h12 => ?_)
  · exact y_sub (ls_s (ls_n (ls_n (ls_n ls_0)))) (t_X5_when_22 n M9)
  · refine y_aload_n (pc := 11) dX5_when_11 rfl ?_
    refine y_getref (pc := 12) (x := 0) g_X5_10 dX5_when_12 ?_
    refine y_iload_n (pc := 15) dX5_when_15 rfl ?_
    refine y_callVi (pc := 16) v_X4_hasThing l_X5_159 dX5_when_16 (c_X4_hasThing n _ _ _) rfl (rc_X4 (by decide)) rfl (by decide) (by decide) (Nat.le_of_ble_eq_true rfl) (fun r14 M13 _ => ?_)
    refine y_gd (fun h15 => ?_)
    refine y_if_ne (off := 9) (tgt := 28) (pc := 19) dX5_when_19 (by decide) h15 (fun h16 => ?_) (fun h16 => ?_)
    · refine y_aload_n (pc := 28) dX5_when_28 rfl ?_
      refine y_getref (pc := 29) (x := 129) g_X5_50 dX5_when_29 ?_
      refine y_aload_n (pc := 32) dX5_when_32 rfl ?_
      refine y_getref (pc := 33) (x := 0) g_X5_10 dX5_when_33 ?_
      refine y_callVv (pc := 36) v_X0_begin l_X5_67 dX5_when_36 (c_X0_begin n _ _) rfl rc_X0 rfl (by decide) (by decide) (Nat.le_of_ble_eq_true rfl) (fun _ M17 _ => ?_)
      refine y_iconst (pc := 39) dX5_when_39 ?_
      refine y_istore_n (L' := [some (rv 130), some (iv a1), some (iv a2), some (iv 0)]) (pc := 40) dX5_when_40 (by decide) rfl rfl ?_
      exact y_sub (ls_s (ls_s (ls_s (ls_s ls_0)))) (t_X5_when_41 n n M17 a1 a2 0)
    · exact y_sub (ls_s (ls_n (ls_n (ls_n ls_0)))) (t_X5_when_22 n M13)
theorem c_X5_when (n : Nat) (M : Mem) (a1 : Int) (a2 : Int) : ∀ res : Int × Mem, m_X5_when n M a1 a2 = some res → CTi yX5_when cX5_when 4 (some .int) 5 [rv 130, iv a1, iv a2] M res := CTi_of (by decide +kernel) rfl (Nat.le_of_ble_eq_true rfl) rfl (y_X5_when n M a1 a2)
def m_X5_leastThing_2 (n : Nat) : Nat → Mem → Int → Int → Rs
  | 0, _, _, _ => none
  | t + 1, M, a0, a1 => if I32 a1 then (if 8 ≤ a1 then (some ((-9), M)) else (if I32 (bAnd a0 (bShl 1 a1)) then (if (bAnd a0 (bShl 1 a1)) = 0 then ((m_X5_leastThing_2 n t) M a0 (a1 + 1)) else (some (a1, M))) else none)) else none
theorem t_X5_leastThing_2 (n : Nat) : ∀ (t : Nat) (M : Mem) (a0 : Int) (a1 : Int), Y RX5 cX5_leastThing 2 0 0 none 2 [some (iv a0), some (iv a1)] [] M (m_X5_leastThing_2 n t M a0 a1) := by
  intro t
  induction t with
  | zero => intro M a0 a1; exact y_none
  | succ t ih =>
    intro M a0 a1
    rewrite [m_X5_leastThing_2]
    refine y_iload_n (pc := 2) dX5_leastThing_2 rfl ?_
    refine y_bipush (pc := 3) dX5_leastThing_3 (by decide) ?_
    refine y_gd (fun h1 => ?_)
    refine y_icmp_ge (off := 19) (tgt := 24) (pc := 5) dX5_leastThing_5 (by decide) h1 (by decide) (fun h2 => ?_) (fun h2 => ?_)
    · refine y_bipush (pc := 24) dX5_leastThing_24 (by decide) ?_
      exact y_iret (pc := 26) dX5_leastThing_26
    · refine y_iload_n (pc := 8) dX5_leastThing_8 rfl ?_
      refine y_iconst (pc := 9) dX5_leastThing_9 ?_
      refine y_iload_n (pc := 10) dX5_leastThing_10 rfl ?_
      refine y_ishl (pc := 11) dX5_leastThing_11 ?_
      refine y_iand (pc := 12) dX5_leastThing_12 ?_
      refine y_gd (fun h3 => ?_)
      refine y_if_eq (off := 5) (tgt := 18) (pc := 13) dX5_leastThing_13 (by decide) h3 (fun h4 => ?_) (fun h4 => ?_)
      · refine y_iinc (L' := [some (iv a0), some (iv (a1 + 1))]) (pc := 18) dX5_leastThing_18 rfl (by decide) rfl rfl ?_
        refine y_goto (tgt := 2) (pc := 21) dX5_leastThing_21 (by decide) ?_
        exact y_sub (ls_s (ls_s ls_0)) (ih M a0 (a1 + 1))
      · refine y_iload_n (pc := 16) dX5_leastThing_16 rfl ?_
        exact y_iret (pc := 17) dX5_leastThing_17
def m_X5_leastThing (n : Nat) (M : Mem) (a0 : Int) : Rs := m_X5_leastThing_2 n n M a0 0
theorem y_X5_leastThing (n : Nat) (M : Mem) (a0 : Int) : Y RX5 cX5_leastThing 2 0 0 none 0 [some (iv a0), none] [] M (m_X5_leastThing n M a0) := by
  unfold m_X5_leastThing
  refine y_iconst (pc := 0) dX5_leastThing_0 ?_
  refine y_istore_n (L' := [some (iv a0), some (iv 0)]) (pc := 1) dX5_leastThing_1 (by decide) rfl rfl ?_
  exact y_sub (ls_s (ls_s ls_0)) (t_X5_leastThing_2 n n M a0 0)
theorem c_X5_leastThing (n : Nat) (M : Mem) (a0 : Int) : ∀ res : Int × Mem, m_X5_leastThing n M a0 = some res → CTi yX5_leastThing cX5_leastThing 2 (some .int) 0 [iv a0] M res := CTi_of (by decide +kernel) rfl (Nat.le_of_ble_eq_true rfl) rfl (y_X5_leastThing n M a0)
def m_X5_first_21 (n : Nat) : Nat → Mem → Int → Int → Rs
  | 0, _, _, _ => none
  | t + 1, M, a1, a2 => if I32 a2 then (if 60 ≤ a2 then (some ((-9), M)) else (bd (m_X0_goOn n M 1) (fun _ M3 => bd (m_X4_nobodysThings n M3 22) (fun r5 M4 => lt (bAnd a1 (bXor r5 (-1))) (fun x6 => if I32 x6 then (if x6 = 0 then ((m_X5_first_21 n t) M4 a1 (a2 + 1)) else (bd (m_X5_leastThing n M4 x6) (fun r10 M9 => some (r10, M9)))) else none))))) else none
theorem t_X5_first_21 (n : Nat) : ∀ (t : Nat) (M : Mem) (a1 : Int) (a2 : Int), Y RX5 cX5_first 4 5 0 none 21 [some (rv 130), some (iv a1), some (iv a2), none] [] M (m_X5_first_21 n t M a1 a2) := by
  intro t
  induction t with
  | zero => intro M a1 a2; exact y_none
  | succ t ih =>
    intro M a1 a2
    rewrite [m_X5_first_21]
    refine y_iload_n (pc := 21) dX5_first_21 rfl ?_
    refine y_bipush (pc := 22) dX5_first_22 (by decide) ?_
    refine y_gd (fun h1 => ?_)
    refine y_icmp_ge (off := 41) (tgt := 65) (pc := 24) dX5_first_24 (by decide) h1 (by decide) (fun h2 => ?_) (fun h2 => ?_)
    · refine y_bipush (pc := 65) dX5_first_65 (by decide) ?_
      exact y_iret (pc := 67) dX5_first_67
    · refine y_aload_n (pc := 27) dX5_first_27 rfl ?_
      refine y_getref (pc := 28) (x := 129) g_X5_50 dX5_first_28 ?_
      refine y_iconst (pc := 31) dX5_first_31 ?_
      refine y_callVv (pc := 32) v_X0_goOn l_X5_119 dX5_first_32 (c_X0_goOn n _ _) rfl rc_X0 rfl (by decide) (by decide) (Nat.le_of_ble_eq_true rfl) (fun _ M3 _ => ?_)
      refine y_iload_n (pc := 35) dX5_first_35 rfl ?_
      refine y_aload_n (pc := 36) dX5_first_36 rfl ?_
      refine y_getref (pc := 37) (x := 129) g_X5_50 dX5_first_37 ?_
      refine y_getref (pc := 40) (x := 22) g_X5_81 dX5_first_40 ?_
      refine y_callVi (pc := 43) v_X4_nobodysThings l_X5_230 dX5_first_43 (c_X4_nobodysThings n _ _) rfl (rc_X4 (by decide)) rfl (by decide) (by decide) (Nat.le_of_ble_eq_true rfl) (fun r5 M4 _ => ?_)
      refine y_iconst (pc := 46) dX5_first_46 ?_
      refine y_ixor (pc := 47) dX5_first_47 ?_
      refine y_iand (pc := 48) dX5_first_48 ?_
      refine y_leti (fun x6 => ?_)
      refine y_istore_n (L' := [some (rv 130), some (iv a1), some (iv a2), some (iv x6)]) (pc := 49) dX5_first_49 (by decide) rfl rfl ?_
      refine y_iload_n (pc := 50) dX5_first_50 rfl ?_
      refine y_gd (fun h7 => ?_)
      refine y_if_eq (off := 8) (tgt := 59) (pc := 51) dX5_first_51 (by decide) h7 (fun h8 => ?_) (fun h8 => ?_)
      · refine y_iinc (L' := [some (rv 130), some (iv a1), some (iv (a2 + 1)), some (iv x6)]) (pc := 59) dX5_first_59 rfl (by decide) rfl rfl ?_
        refine y_goto (tgt := 21) (pc := 62) dX5_first_62 (by decide) ?_
        exact y_sub (ls_s (ls_s (ls_s (ls_n ls_0)))) (ih M4 a1 (a2 + 1))
      · refine y_iload_n (pc := 54) dX5_first_54 rfl ?_
        refine y_callSi (pc := 55) s_X5_leastThing l_X5_233 dX5_first_55 (c_X5_leastThing n _ _) rfl rfl (by decide) (by decide) (Nat.le_of_ble_eq_true rfl) (fun r10 M9 _ => ?_)
        exact y_iret (pc := 58) dX5_first_58
def m_X5_first (n : Nat) (M : Mem) : Rs := bd (m_X4_nobodysThings n M 0) (fun r12 M11 => bd (m_X0_begin n M11 0) (fun _ M13 => m_X5_first_21 n n M13 r12 0))
theorem y_X5_first (n : Nat) (M : Mem) : Y RX5 cX5_first 4 5 0 none 0 [some (rv 130), none, none, none] [] M (m_X5_first n M) := by
  unfold m_X5_first
  refine y_aload_n (pc := 0) dX5_first_0 rfl ?_
  refine y_getref (pc := 1) (x := 0) g_X5_10 dX5_first_1 ?_
  refine y_callVi (pc := 4) v_X4_nobodysThings l_X5_230 dX5_first_4 (c_X4_nobodysThings n _ _) rfl (rc_X4 (by decide)) rfl (by decide) (by decide) (Nat.le_of_ble_eq_true rfl) (fun r12 M11 _ => ?_)
  refine y_istore_n (L' := [some (rv 130), some (iv r12), none, none]) (pc := 7) dX5_first_7 (by decide) rfl rfl ?_
  refine y_aload_n (pc := 8) dX5_first_8 rfl ?_
  refine y_getref (pc := 9) (x := 129) g_X5_50 dX5_first_9 ?_
  refine y_aload_n (pc := 12) dX5_first_12 rfl ?_
  refine y_getref (pc := 13) (x := 0) g_X5_10 dX5_first_13 ?_
  refine y_callVv (pc := 16) v_X0_begin l_X5_67 dX5_first_16 (c_X0_begin n _ _) rfl rc_X0 rfl (by decide) (by decide) (Nat.le_of_ble_eq_true rfl) (fun _ M13 _ => ?_)
  refine y_iconst (pc := 19) dX5_first_19 ?_
  refine y_istore_n (L' := [some (rv 130), some (iv r12), some (iv 0), none]) (pc := 20) dX5_first_20 (by decide) rfl rfl ?_
  exact y_sub (ls_s (ls_s (ls_s (ls_n ls_0)))) (t_X5_first_21 n n M13 r12 0)
theorem c_X5_first (n : Nat) (M : Mem) : ∀ res : Int × Mem, m_X5_first n M = some res → CTi yX5_first cX5_first 4 (some .int) 5 [rv 130] M res := CTi_of (by decide +kernel) rfl (Nat.le_of_ble_eq_true rfl) rfl (y_X5_first n M)
def m_X5_clears_26 (n : Nat) : Nat → Mem → Int → Int → Rs
  | 0, _, _, _ => none
  | t + 1, M, a1, a2 => if I32 a2 then (if 60 < a2 then (some ((-9), M)) else (bd (m_X0_isInFog n M a1) (fun r4 M3 => if I32 r4 then (if r4 = 0 then (some (a2, M3)) else (bd (m_X0_goOn n M3 1) (fun _ M7 => (m_X5_clears_26 n t) M7 a1 (a2 + 1)))) else none))) else none
theorem t_X5_clears_26 (n : Nat) : ∀ (t : Nat) (M : Mem) (a1 : Int) (a2 : Int), Y RX5 cX5_clears 3 5 0 none 26 [some (rv 130), some (iv a1), some (iv a2)] [] M (m_X5_clears_26 n t M a1 a2) := by
  intro t
  induction t with
  | zero => intro M a1 a2; exact y_none
  | succ t ih =>
    intro M a1 a2
    rewrite [m_X5_clears_26]
    refine y_iload_n (pc := 26) dX5_clears_26 rfl ?_
    refine y_bipush (pc := 27) dX5_clears_27 (by decide) ?_
    refine y_gd (fun h1 => ?_)
    refine y_icmp_gt (off := 30) (tgt := 59) (pc := 29) dX5_clears_29 (by decide) h1 (by decide) (fun h2 => ?_) (fun h2 => ?_)
    · refine y_bipush (pc := 59) dX5_clears_59 (by decide) ?_
      exact y_iret (pc := 61) dX5_clears_61
    · refine y_aload_n (pc := 32) dX5_clears_32 rfl ?_
      refine y_getref (pc := 33) (x := 129) g_X5_50 dX5_clears_33 ?_
      refine y_iload_n (pc := 36) dX5_clears_36 rfl ?_
      refine y_callVi (pc := 37) v_X0_isInFog l_X5_195 dX5_clears_37 (c_X0_isInFog n _ _) rfl rc_X0 rfl (by decide) (by decide) (Nat.le_of_ble_eq_true rfl) (fun r4 M3 _ => ?_)
      refine y_gd (fun h5 => ?_)
      refine y_if_ne (off := 5) (tgt := 45) (pc := 40) dX5_clears_40 (by decide) h5 (fun h6 => ?_) (fun h6 => ?_)
      · refine y_aload_n (pc := 45) dX5_clears_45 rfl ?_
        refine y_getref (pc := 46) (x := 129) g_X5_50 dX5_clears_46 ?_
        refine y_iconst (pc := 49) dX5_clears_49 ?_
        refine y_callVv (pc := 50) v_X0_goOn l_X5_119 dX5_clears_50 (c_X0_goOn n _ _) rfl rc_X0 rfl (by decide) (by decide) (Nat.le_of_ble_eq_true rfl) (fun _ M7 _ => ?_)
        refine y_iinc (L' := [some (rv 130), some (iv a1), some (iv (a2 + 1))]) (pc := 53) dX5_clears_53 rfl (by decide) rfl rfl ?_
        refine y_goto (tgt := 26) (pc := 56) dX5_clears_56 (by decide) ?_
        exact y_sub (ls_s (ls_s (ls_s ls_0))) (ih M7 a1 (a2 + 1))
      · refine y_iload_n (pc := 43) dX5_clears_43 rfl ?_
        exact y_iret (pc := 44) dX5_clears_44
def m_X5_clears (n : Nat) (M : Mem) (a1 : Int) : Rs := bd (m_X5_isCell n M a1) (fun r9 M8 => if I32 r9 then (if r9 = 0 then (bd (m_X5_refuse n M8 (-1)) (fun r14 M13 => some (r14, M13))) else (bd (m_X0_begin n M8 0) (fun _ M12 => m_X5_clears_26 n n M12 a1 0))) else none)
theorem y_X5_clears (n : Nat) (M : Mem) (a1 : Int) : Y RX5 cX5_clears 3 5 0 none 0 [some (rv 130), some (iv a1), none] [] M (m_X5_clears n M a1) := by
  unfold m_X5_clears
  refine y_iload_n (pc := 0) dX5_clears_0 rfl ?_
  refine y_callSi (pc := 1) s_X5_isCell l_X5_186 dX5_clears_1 (c_X5_isCell n _ _) rfl rfl (by decide) (by decide) (Nat.le_of_ble_eq_true rfl) (fun r9 M8 _ => ?_)
  refine y_gd (fun h10 => ?_)
  refine y_if_ne (off := 9) (tgt := 13) (pc := 4) dX5_clears_4 (by decide) h10 (fun h11 => ?_) (fun h11 => ?_)
  · refine y_aload_n (pc := 13) dX5_clears_13 rfl ?_
    refine y_getref (pc := 14) (x := 129) g_X5_50 dX5_clears_14 ?_
    refine y_aload_n (pc := 17) dX5_clears_17 rfl ?_
    refine y_getref (pc := 18) (x := 0) g_X5_10 dX5_clears_18 ?_
    refine y_callVv (pc := 21) v_X0_begin l_X5_67 dX5_clears_21 (c_X0_begin n _ _) rfl rc_X0 rfl (by decide) (by decide) (Nat.le_of_ble_eq_true rfl) (fun _ M12 _ => ?_)
    refine y_iconst (pc := 24) dX5_clears_24 ?_
    refine y_istore_n (L' := [some (rv 130), some (iv a1), some (iv 0)]) (pc := 25) dX5_clears_25 (by decide) rfl rfl ?_
    exact y_sub (ls_s (ls_s (ls_s ls_0))) (t_X5_clears_26 n n M12 a1 0)
  · refine y_aload_n (pc := 7) dX5_clears_7 rfl ?_
    refine y_iconst (pc := 8) dX5_clears_8 ?_
    refine y_callVi (pc := 9) v_X5_refuse l_X5_60 dX5_clears_9 (c_X5_refuse n _ _) rfl rc_X5 rfl (by decide) (by decide) (Nat.le_of_ble_eq_true rfl) (fun r14 M13 _ => ?_)
    exact y_iret (pc := 12) dX5_clears_12
theorem c_X5_clears (n : Nat) (M : Mem) (a1 : Int) : ∀ res : Int × Mem, m_X5_clears n M a1 = some res → CTi yX5_clears cX5_clears 3 (some .int) 5 [rv 130, iv a1] M res := CTi_of (by decide +kernel) rfl (Nat.le_of_ble_eq_true rfl) rfl (y_X5_clears n M a1)
