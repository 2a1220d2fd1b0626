def m_X0_fogOn_21 (n : Nat) : Nat → Mem → Int → Int → Int → Rs
  | 0, _, _, _, _ => none
  | t + 1, M, a1, a2, a3 => if I32 a3 then (if (rd M 22 12) ≤ a3 then (some (a2, M)) else (if 0 ≤ a3 ∧ a3 < 5 then (if I32 a1 then (if (rd M 32 (Int.toNat a3)) = a1 then (bd (m_X1_steam n M (rd M 29 (Int.toNat a3)) (rd M 30 (Int.toNat a3))) (fun r7 M6 => if I32 a2 then (if I32 r7 then ((m_X0_fogOn_21 n t) M6 a1 (mxZ a2 r7) (a3 + 1)) else none) else none)) else ((m_X0_fogOn_21 n t) M a1 a2 (a3 + 1))) else none) else none)) else none
theorem t_X0_fogOn_21 (n : Nat) : ∀ (t : Nat) (M : Mem) (a1 : Int) (a2 : Int) (a3 : Int), Y RX0 cX0_fogOn 4 1 0 none 21 [some (rv 129), some (iv a1), some (iv a2), some (iv a3)] [] M (m_X0_fogOn_21 n t M a1 a2 a3) := by
  intro t
  induction t with
  | zero => intro M a1 a2 a3; exact y_none
  | succ t ih =>
    intro M a1 a2 a3
    rewrite [m_X0_fogOn_21]
    refine y_iload_n (pc := 21) dX0_fogOn_21 rfl ?_
    refine y_aload_n (pc := 22) dX0_fogOn_22 rfl ?_
    refine y_getref (pc := 23) (x := 22) g_X0_12 dX0_fogOn_23 ?_
    refine y_getint (pc := 26) (g_X0_58 (by decide)) dX0_fogOn_26 ?_
    refine y_gd (fun h1 => ?_)
    refine y_icmp_ge (off := 48) (tgt := 77) (pc := 29) dX0_fogOn_29 (by decide) h1 (rd_rng _ _ _) (fun h2 => ?_) (fun h2 => ?_)
    · refine y_iload_n (pc := 77) dX0_fogOn_77 rfl ?_
      exact y_iret (pc := 78) dX0_fogOn_78
    · refine y_aload_n (pc := 32) dX0_fogOn_32 rfl ?_
      refine y_getref (pc := 33) (x := 22) g_X0_12 dX0_fogOn_33 ?_
      refine y_getref (pc := 36) (x := 32) (g_X0_61 (by decide)) dX0_fogOn_36 ?_
      refine y_iload_n (pc := 39) dX0_fogOn_39 rfl ?_
      refine y_gd (fun h3 => ?_)
      refine y_iald (pc := 40) dX0_fogOn_40 ar_32 h3 ?_
      refine y_iload_n (pc := 41) dX0_fogOn_41 rfl ?_
      refine y_gd (fun h4 => ?_)
      refine y_icmp_ne (off := 29) (tgt := 71) (pc := 42) dX0_fogOn_42 (by decide) (rd_rng _ _ _) h4 (fun h5 => ?_) (fun h5 => ?_)
      · refine y_iinc (L' := [some (rv 129), some (iv a1), some (iv a2), some (iv (a3 + 1))]) (pc := 71) dX0_fogOn_71 rfl (by decide) rfl rfl ?_
        refine y_goto (tgt := 21) (pc := 74) dX0_fogOn_74 (by decide) ?_
        exact y_sub (ls_s (ls_s (ls_s (ls_s ls_0)))) (ih M a1 a2 (a3 + 1))
      · refine y_iload_n (pc := 45) dX0_fogOn_45 rfl ?_
        refine y_aload_n (pc := 46) dX0_fogOn_46 rfl ?_
        refine y_getref (pc := 47) (x := 22) g_X0_12 dX0_fogOn_47 ?_
        refine y_getref (pc := 50) (x := 29) (g_X0_64 (by decide)) dX0_fogOn_50 ?_
        refine y_iload_n (pc := 53) dX0_fogOn_53 rfl ?_
        refine y_iald (pc := 54) dX0_fogOn_54 ar_29 h3 ?_
        refine y_aload_n (pc := 55) dX0_fogOn_55 rfl ?_
        refine y_getref (pc := 56) (x := 22) g_X0_12 dX0_fogOn_56 ?_
        refine y_getref (pc := 59) (x := 30) (g_X0_67 (by decide)) dX0_fogOn_59 ?_
        refine y_iload_n (pc := 62) dX0_fogOn_62 rfl ?_
        refine y_iald (pc := 63) dX0_fogOn_63 ar_30 h3 ?_
        refine y_callSi (pc := 64) s_X1_steam l_X0_70 dX0_fogOn_64 (c_X1_steam n _ _ _) (fun _ h => nomatch h) rfl rfl (by decide) (by decide) (Nat.le_of_ble_eq_true rfl) (fun r7 M6 _ => ?_)
        refine y_gd (fun h8 => ?_)
        refine y_gd (fun h9 => ?_)
        refine y_mmaxw (pc := 67) h8 h9 l_X0_76 dX0_fogOn_67 (Nat.le_of_ble_eq_true rfl) (by decide) ?_
        refine y_istore_n (L' := [some (rv 129), some (iv a1), some (iv (mxZ a2 r7)), some (iv a3)]) (pc := 70) dX0_fogOn_70 (by decide) rfl rfl ?_
        refine y_iinc (L' := [some (rv 129), some (iv a1), some (iv (mxZ a2 r7)), some (iv (a3 + 1))]) (pc := 71) dX0_fogOn_71 rfl (by decide) rfl rfl ?_
        refine y_goto (tgt := 21) (pc := 74) dX0_fogOn_74 (by decide) ?_
        exact y_sub (ls_s (ls_s (ls_s (ls_s ls_0)))) (ih M6 a1 (mxZ a2 r7) (a3 + 1))
def m_X0_fogOn_18 (n : Nat) (M : Mem) (a1 : Int) (s0 : Int) : Rs := m_X0_fogOn_21 n n M a1 s0 0
theorem t_X0_fogOn_18 (n : Nat) (M : Mem) (a1 : Int) (s0 : Int) : Y RX0 cX0_fogOn 4 1 0 none 18 [some (rv 129), some (iv a1), none, none] [iv s0] M (m_X0_fogOn_18 n M a1 s0) := by
  unfold m_X0_fogOn_18
  refine y_istore_n (L' := [some (rv 129), some (iv a1), some (iv s0), none]) (pc := 18) dX0_fogOn_18 (by decide) rfl rfl ?_
  refine y_iconst (pc := 19) dX0_fogOn_19 ?_
  refine y_istore_n (L' := [some (rv 129), some (iv a1), some (iv s0), some (iv 0)]) (pc := 20) dX0_fogOn_20 (by decide) rfl rfl ?_
  exact y_sub (ls_s (ls_s (ls_s (ls_s ls_0)))) (t_X0_fogOn_21 n n M a1 s0 0)
def m_X0_fogOn (n : Nat) (M : Mem) (a1 : Int) : Rs := if I32 a1 then (if a1 = (rd M 129 3) then (m_X0_fogOn_18 n M a1 9) else (bd (m_X0_airOn n M a1) (fun r13 M12 => m_X0_fogOn_18 n M12 a1 r13))) else none
theorem y_X0_fogOn (n : Nat) (M : Mem) (a1 : Int) : Y RX0 cX0_fogOn 4 1 0 none 0 [some (rv 129), some (iv a1), none, none] [] M (m_X0_fogOn n M a1) := by
  unfold m_X0_fogOn
  refine y_iload_n (pc := 0) dX0_fogOn_0 rfl ?_
  refine y_aload_n (pc := 1) dX0_fogOn_1 rfl ?_
  refine y_getint (pc := 2) g_X0_29 dX0_fogOn_2 ?_
  refine y_gd (fun h10 => ?_)
  refine y_icmp_ne (off := 8) (tgt := 13) (pc := 5) dX0_fogOn_5 (by decide) h10 (rd_rng _ _ _) (fun h11 => ?_) (fun h11 => ?_)
  · refine y_aload_n (pc := 13) dX0_fogOn_13 rfl ?_
    refine y_iload_n (pc := 14) dX0_fogOn_14 rfl ?_
    refine y_callVi (pc := 15) v_X0_airOn l_X0_54 dX0_fogOn_15 (c_X0_airOn n _ _) (fun _ h => nomatch h) rfl rc_X0 rfl (by decide) (by decide) (Nat.le_of_ble_eq_true rfl) (fun r13 M12 _ => ?_)
    exact y_sub (ls_s (ls_s (ls_n (ls_n ls_0)))) (t_X0_fogOn_18 n M12 a1 r13)
  · refine y_bipush (pc := 8) dX0_fogOn_8 (by decide) ?_
    refine y_goto (tgt := 18) (pc := 10) dX0_fogOn_10 (by decide) ?_
    exact y_sub (ls_s (ls_s (ls_n (ls_n ls_0)))) (t_X0_fogOn_18 n M a1 9)
theorem c_X0_fogOn (n : Nat) (M : Mem) (a1 : Int) : ∀ res : Int × Mem, m_X0_fogOn n M a1 = some res → CTi none yX0_fogOn cX0_fogOn 4 (some .int) 1 [rv 129, iv a1] M res := CTi_of (by decide +kernel) rfl (Nat.le_of_ble_eq_true rfl) rfl (y_X0_fogOn n M a1)
def m_X0_isInFog (n : Nat) (M : Mem) (a1 : Int) : Rs := bd (m_X0_fogOn n M a1) (fun r2 M1 => if I32 r2 then (if r2 < (rd M1 22 14) then (some (0, M1)) else (some (1, M1))) else none)
theorem y_X0_isInFog (n : Nat) (M : Mem) (a1 : Int) : Y RX0 cX0_isInFog 2 2 1 none 0 [some (rv 129), some (iv a1)] [] M (m_X0_isInFog n M a1) := by
  unfold m_X0_isInFog
  refine y_aload_n (pc := 0) dX0_isInFog_0 rfl ?_
  refine y_iload_n (pc := 1) dX0_isInFog_1 rfl ?_
  refine y_callVi (pc := 2) v_X0_fogOn l_X0_81 dX0_isInFog_2 (c_X0_fogOn n _ _) (fun _ h => nomatch h) rfl rc_X0 rfl (by decide) (by decide) (Nat.le_of_ble_eq_true rfl) (fun r2 M1 _ => ?_)
  refine y_aload_n (pc := 5) dX0_isInFog_5 rfl ?_
  refine y_getref (pc := 6) (x := 22) g_X0_12 dX0_isInFog_6 ?_
  refine y_getint (pc := 9) (g_X0_84 (by decide)) dX0_isInFog_9 ?_
  refine y_gd (fun h3 => ?_)
  refine y_icmp_lt (off := 7) (tgt := 19) (pc := 12) dX0_isInFog_12 (by decide) h3 (rd_rng _ _ _) (fun h4 => ?_) (fun h4 => ?_)
  · refine y_iconst (pc := 19) dX0_isInFog_19 ?_
    exact y_zret (pc := 20) dX0_isInFog_20 (by decide)
  · refine y_iconst (pc := 15) dX0_isInFog_15 ?_
    refine y_goto (tgt := 20) (pc := 16) dX0_isInFog_16 (by decide) ?_
    exact y_zret (pc := 20) dX0_isInFog_20 (by decide)
theorem c_X0_isInFog (n : Nat) (M : Mem) (a1 : Int) : ∀ res : Int × Mem, m_X0_isInFog n M a1 = some res → CTi none yX0_isInFog cX0_isInFog 2 (some .boolean) 2 [rv 129, iv a1] M res := CTz_of (by decide +kernel) rfl (Nat.le_of_ble_eq_true rfl) rfl (y_X0_isInFog n M a1)
def m_X0_foggyCells_4 (n : Nat) : Nat → Mem → Int → Int → Rs
  | 0, _, _, _ => none
  | t + 1, M, a1, a2 => if I32 a2 then (if 24 ≤ a2 then (some (a1, M)) else (bd (m_X0_isInFog n M a2) (fun r4 M3 => if I32 r4 then (if r4 = 0 then ((m_X0_foggyCells_4 n t) M3 a1 (a2 + 1)) else ((m_X0_foggyCells_4 n t) M3 (bOr a1 (bShl 1 a2)) (a2 + 1))) else none))) else none
theorem t_X0_foggyCells_4 (n : Nat) : ∀ (t : Nat) (M : Mem) (a1 : Int) (a2 : Int), Y RX0 cX0_foggyCells 3 3 0 none 4 [some (rv 129), some (iv a1), some (iv a2)] [] M (m_X0_foggyCells_4 n t M a1 a2) := by
  intro t
  induction t with
  | zero => intro M a1 a2; exact y_none
  | succ t ih =>
    intro M a1 a2
    rewrite [m_X0_foggyCells_4]
    refine y_iload_n (pc := 4) dX0_foggyCells_4 rfl ?_
    refine y_bipush (pc := 5) dX0_foggyCells_5 (by decide) ?_
    refine y_gd (fun h1 => ?_)
    refine y_icmp_ge (off := 23) (tgt := 30) (pc := 7) dX0_foggyCells_7 (by decide) h1 (by decide) (fun h2 => ?_) (fun h2 => ?_)
    · refine y_iload_n (pc := 30) dX0_foggyCells_30 rfl ?_
      exact y_iret (pc := 31) dX0_foggyCells_31
    · refine y_aload_n (pc := 10) dX0_foggyCells_10 rfl ?_
      refine y_iload_n (pc := 11) dX0_foggyCells_11 rfl ?_
      refine y_callVi (pc := 12) v_X0_isInFog l_X0_87 dX0_foggyCells_12 (c_X0_isInFog n _ _) (fun _ h => nomatch h) rfl rc_X0 rfl (by decide) (by decide) (Nat.le_of_ble_eq_true rfl) (fun r4 M3 _ => ?_)
      refine y_gd (fun h5 => ?_)
      refine y_if_eq (off := 9) (tgt := 24) (pc := 15) dX0_foggyCells_15 (by decide) h5 (fun h6 => ?_) (fun h6 => ?_)
      · refine y_iinc (L' := [some (rv 129), some (iv a1), some (iv (a2 + 1))]) (pc := 24) dX0_foggyCells_24 rfl (by decide) rfl rfl ?_
        refine y_goto (tgt := 4) (pc := 27) dX0_foggyCells_27 (by decide) ?_
        exact y_sub (ls_s (ls_s (ls_s ls_0))) (ih M3 a1 (a2 + 1))
      · refine y_iload_n (pc := 18) dX0_foggyCells_18 rfl ?_
        refine y_iconst (pc := 19) dX0_foggyCells_19 ?_
        refine y_iload_n (pc := 20) dX0_foggyCells_20 rfl ?_
        refine y_ishl (pc := 21) dX0_foggyCells_21 ?_
        refine y_ior (pc := 22) dX0_foggyCells_22 ?_
        refine y_istore_n (L' := [some (rv 129), some (iv (bOr a1 (bShl 1 a2))), some (iv a2)]) (pc := 23) dX0_foggyCells_23 (by decide) rfl rfl ?_
        refine y_iinc (L' := [some (rv 129), some (iv (bOr a1 (bShl 1 a2))), some (iv (a2 + 1))]) (pc := 24) dX0_foggyCells_24 rfl (by decide) rfl rfl ?_
        refine y_goto (tgt := 4) (pc := 27) dX0_foggyCells_27 (by decide) ?_
        exact y_sub (ls_s (ls_s (ls_s ls_0))) (ih M3 (bOr a1 (bShl 1 a2)) (a2 + 1))
def m_X0_foggyCells (n : Nat) (M : Mem) : Rs := m_X0_foggyCells_4 n n M 0 0
theorem y_X0_foggyCells (n : Nat) (M : Mem) : Y RX0 cX0_foggyCells 3 3 0 none 0 [some (rv 129), none, none] [] M (m_X0_foggyCells n M) := by
  unfold m_X0_foggyCells
  refine y_iconst (pc := 0) dX0_foggyCells_0 ?_
  refine y_istore_n (L' := [some (rv 129), some (iv 0), none]) (pc := 1) dX0_foggyCells_1 (by decide) rfl rfl ?_
  refine y_iconst (pc := 2) dX0_foggyCells_2 ?_
  refine y_istore_n (L' := [some (rv 129), some (iv 0), some (iv 0)]) (pc := 3) dX0_foggyCells_3 (by decide) rfl rfl ?_
  exact y_sub (ls_s (ls_s (ls_s ls_0))) (t_X0_foggyCells_4 n n M 0 0)
theorem c_X0_foggyCells (n : Nat) (M : Mem) : ∀ res : Int × Mem, m_X0_foggyCells n M = some res → CTi none yX0_foggyCells cX0_foggyCells 3 (some .int) 3 [rv 129] M res := CTi_of (by decide +kernel) rfl (Nat.le_of_ble_eq_true rfl) rfl (y_X0_foggyCells n M)
def m_X0_dropInTheClear_2 (n : Nat) : Nat → Mem → Int → Rs
  | 0, _, _ => none
  | t + 1, M, a1 => if I32 a1 then (if (rd M 22 7) ≤ a1 then (some (0, M)) else (if 0 ≤ a1 ∧ a1 < 8 then (bd (m_X0_isInFog n M (rd M 27 (Int.toNat a1))) (fun r5 M4 => if I32 r5 then (if r5 = 0 then (wr M4 28 (Int.toNat a1) (-1) (fun M8 => (m_X0_dropInTheClear_2 n t) M8 (a1 + 1))) else ((m_X0_dropInTheClear_2 n t) M4 (a1 + 1))) else none)) else none)) else none
theorem t_X0_dropInTheClear_2 (n : Nat) : ∀ (t : Nat) (M : Mem) (a1 : Int), Y RX0 cX0_dropInTheClear 2 3 3 none 2 [some (rv 129), some (iv a1)] [] M (m_X0_dropInTheClear_2 n t M a1) := by
  intro t
  induction t with
  | zero => intro M a1; exact y_none
  | succ t ih =>
    intro M a1
    rewrite [m_X0_dropInTheClear_2]
    refine y_iload_n (pc := 2) dX0_dropInTheClear_2 rfl ?_
    refine y_aload_n (pc := 3) dX0_dropInTheClear_3 rfl ?_
    refine y_getref (pc := 4) (x := 22) g_X0_12 dX0_dropInTheClear_4 ?_
    refine y_getint (pc := 7) (g_X0_105 (by decide)) dX0_dropInTheClear_7 ?_
    refine y_gd (fun h1 => ?_)
    refine y_icmp_ge (off := 35) (tgt := 45) (pc := 10) dX0_dropInTheClear_10 (by decide) h1 (rd_rng _ _ _) (fun h2 => ?_) (fun h2 => ?_)
    · exact y_vret (pc := 45) dX0_dropInTheClear_45
    · refine y_aload_n (pc := 13) dX0_dropInTheClear_13 rfl ?_
      refine y_aload_n (pc := 14) dX0_dropInTheClear_14 rfl ?_
      refine y_getref (pc := 15) (x := 22) g_X0_12 dX0_dropInTheClear_15 ?_
      refine y_getref (pc := 18) (x := 27) (g_X0_108 (by decide)) dX0_dropInTheClear_18 ?_
      refine y_iload_n (pc := 21) dX0_dropInTheClear_21 rfl ?_
      refine y_gd (fun h3 => ?_)
      refine y_iald (pc := 22) dX0_dropInTheClear_22 ar_27 h3 ?_
      refine y_callVi (pc := 23) v_X0_isInFog l_X0_87 dX0_dropInTheClear_23 (c_X0_isInFog n _ _) (fun _ h => nomatch h) rfl rc_X0 rfl (by decide) (by decide) (Nat.le_of_ble_eq_true rfl) (fun r5 M4 _ => ?_)
      refine y_gd (fun h6 => ?_)
      refine y_if_ne (off := 13) (tgt := 39) (pc := 26) dX0_dropInTheClear_26 (by decide) h6 (fun h7 => ?_) (fun h7 => ?_)
      · refine y_iinc (L' := [some (rv 129), some (iv (a1 + 1))]) (pc := 39) dX0_dropInTheClear_39 rfl (by decide) rfl rfl ?_
        refine y_goto (tgt := 2) (pc := 42) dX0_dropInTheClear_42 (by decide) ?_
        exact y_sub (ls_s (ls_s ls_0)) (ih M4 (a1 + 1))
      · refine y_aload_n (pc := 29) dX0_dropInTheClear_29 rfl ?_
        refine y_getref (pc := 30) (x := 22) g_X0_12 dX0_dropInTheClear_30 ?_
        refine y_getref (pc := 33) (x := 28) (g_X0_111 (by decide)) dX0_dropInTheClear_33 ?_
        refine y_iload_n (pc := 36) dX0_dropInTheClear_36 rfl ?_
        refine y_iconst (pc := 37) dX0_dropInTheClear_37 ?_
        refine y_iastw (pc := 38) dX0_dropInTheClear_38 ar_28 h3 (fun M8 => ?_)
        refine y_iinc (L' := [some (rv 129), some (iv (a1 + 1))]) (pc := 39) dX0_dropInTheClear_39 rfl (by decide) rfl rfl ?_
        refine y_goto (tgt := 2) (pc := 42) dX0_dropInTheClear_42 (by decide) ?_
        exact y_sub (ls_s (ls_s ls_0)) (ih M8 (a1 + 1))
def m_X0_dropInTheClear (n : Nat) (M : Mem) : Rs := m_X0_dropInTheClear_2 n n M 0
theorem y_X0_dropInTheClear (n : Nat) (M : Mem) : Y RX0 cX0_dropInTheClear 2 3 3 none 0 [some (rv 129), none] [] M (m_X0_dropInTheClear n M) := by
  unfold m_X0_dropInTheClear
  refine y_iconst (pc := 0) dX0_dropInTheClear_0 ?_
  refine y_istore_n (L' := [some (rv 129), some (iv 0)]) (pc := 1) dX0_dropInTheClear_1 (by decide) rfl rfl ?_
  exact y_sub (ls_s (ls_s ls_0)) (t_X0_dropInTheClear_2 n n M 0)
theorem c_X0_dropInTheClear (n : Nat) (M : Mem) : ∀ res : Int × Mem, m_X0_dropInTheClear n M = some res → CTv none yX0_dropInTheClear cX0_dropInTheClear 2 3 [rv 129] M res := CTv_of (by decide +kernel) rfl (Nat.le_of_ble_eq_true rfl) rfl (y_X0_dropInTheClear n M)
def m_X0_airiest_4 (n : Nat) : Nat → Mem → Int → Int → Rs
  | 0, _, _, _ => none
  | t + 1, M, a1, a2 => if I32 a2 then (if 24 ≤ a2 then (some (a1, M)) else (bd (m_X0_airOn n M a2) (fun r4 M3 => bd (m_X0_airOn n M3 a1) (fun r6 M5 => if I32 r4 then (if I32 r6 then (if r4 ≤ r6 then ((m_X0_airiest_4 n t) M5 a1 (a2 + 1)) else ((m_X0_airiest_4 n t) M5 a2 (a2 + 1))) else none) else none)))) else none
theorem t_X0_airiest_4 (n : Nat) : ∀ (t : Nat) (M : Mem) (a1 : Int) (a2 : Int), Y RX0 cX0_airiest 3 1 0 none 4 [some (rv 129), some (iv a1), some (iv a2)] [] M (m_X0_airiest_4 n t M a1 a2) := by
  intro t
  induction t with
  | zero => intro M a1 a2; exact y_none
  | succ t ih =>
    intro M a1 a2
    rewrite [m_X0_airiest_4]
    refine y_iload_n (pc := 4) dX0_airiest_4 rfl ?_
    refine y_bipush (pc := 5) dX0_airiest_5 (by decide) ?_
    refine y_gd (fun h1 => ?_)
    refine y_icmp_ge (off := 24) (tgt := 31) (pc := 7) dX0_airiest_7 (by decide) h1 (by decide) (fun h2 => ?_) (fun h2 => ?_)
    · refine y_iload_n (pc := 31) dX0_airiest_31 rfl ?_
      exact y_iret (pc := 32) dX0_airiest_32
    · refine y_aload_n (pc := 10) dX0_airiest_10 rfl ?_
      refine y_iload_n (pc := 11) dX0_airiest_11 rfl ?_
      refine y_callVi (pc := 12) v_X0_airOn l_X0_54 dX0_airiest_12 (c_X0_airOn n _ _) (fun _ h => nomatch h) rfl rc_X0 rfl (by decide) (by decide) (Nat.le_of_ble_eq_true rfl) (fun r4 M3 _ => ?_)
      refine y_aload_n (pc := 15) dX0_airiest_15 rfl ?_
      refine y_iload_n (pc := 16) dX0_airiest_16 rfl ?_
      refine y_callVi (pc := 17) v_X0_airOn l_X0_54 dX0_airiest_17 (c_X0_airOn n _ _) (fun _ h => nomatch h) rfl rc_X0 rfl (by decide) (by decide) (Nat.le_of_ble_eq_true rfl) (fun r6 M5 _ => ?_)
      refine y_gd (fun h7 => ?_)
      refine y_gd (fun h8 => ?_)
      refine y_icmp_le (off := 5) (tgt := 25) (pc := 20) dX0_airiest_20 (by decide) h7 h8 (fun h9 => ?_) (fun h9 => ?_)
      · refine y_iinc (L' := [some (rv 129), some (iv a1), some (iv (a2 + 1))]) (pc := 25) dX0_airiest_25 rfl (by decide) rfl rfl ?_
        refine y_goto (tgt := 4) (pc := 28) dX0_airiest_28 (by decide) ?_
        exact y_sub (ls_s (ls_s (ls_s ls_0))) (ih M5 a1 (a2 + 1))
      · refine y_iload_n (pc := 23) dX0_airiest_23 rfl ?_
        refine y_istore_n (L' := [some (rv 129), some (iv a2), some (iv a2)]) (pc := 24) dX0_airiest_24 (by decide) rfl rfl ?_
        refine y_iinc (L' := [some (rv 129), some (iv a2), some (iv (a2 + 1))]) (pc := 25) dX0_airiest_25 rfl (by decide) rfl rfl ?_
        refine y_goto (tgt := 4) (pc := 28) dX0_airiest_28 (by decide) ?_
        exact y_sub (ls_s (ls_s (ls_s ls_0))) (ih M5 a2 (a2 + 1))
def m_X0_airiest (n : Nat) (M : Mem) : Rs := m_X0_airiest_4 n n M 0 1
theorem y_X0_airiest (n : Nat) (M : Mem) : Y RX0 cX0_airiest 3 1 0 none 0 [some (rv 129), none, none] [] M (m_X0_airiest n M) := by
  unfold m_X0_airiest
  refine y_iconst (pc := 0) dX0_airiest_0 ?_
  refine y_istore_n (L' := [some (rv 129), some (iv 0), none]) (pc := 1) dX0_airiest_1 (by decide) rfl rfl ?_
  refine y_iconst (pc := 2) dX0_airiest_2 ?_
  refine y_istore_n (L' := [some (rv 129), some (iv 0), some (iv 1)]) (pc := 3) dX0_airiest_3 (by decide) rfl rfl ?_
  exact y_sub (ls_s (ls_s (ls_s ls_0))) (t_X0_airiest_4 n n M 0 1)
theorem c_X0_airiest (n : Nat) (M : Mem) : ∀ res : Int × Mem, m_X0_airiest n M = some res → CTi none yX0_airiest cX0_airiest 3 (some .int) 1 [rv 129] M res := CTi_of (by decide +kernel) rfl (Nat.le_of_ble_eq_true rfl) rfl (y_X0_airiest n M)
def m_X0_distance (n : Nat) (M : Mem) (a0 : Int) (a1 : Int) : Rs := if I32 a0 then (if I32 a1 then (if I32 ((Int.tdiv a0 6) - (Int.tdiv a1 6)) then (if I32 ((Int.tmod a0 6) - (Int.tmod a1 6)) then (some (((abZ ((Int.tdiv a0 6) - (Int.tdiv a1 6))) + (abZ ((Int.tmod a0 6) - (Int.tmod a1 6)))), M)) else none) else none) else none) else none
theorem y_X0_distance (n : Nat) (M : Mem) (a0 : Int) (a1 : Int) : Y RX0 cX0_distance 2 1 0 none 0 [some (iv a0), some (iv a1)] [] M (m_X0_distance n M a0 a1) := by
  unfold m_X0_distance
  refine y_iload_n (pc := 0) dX0_distance_0 rfl ?_
  refine y_bipush (pc := 1) dX0_distance_1 (by decide) ?_
  refine y_gd (fun h1 => ?_)
  refine y_idiv (pc := 3) dX0_distance_3 h1 (by decide) (by decide) ?_
  refine y_iload_n (pc := 4) dX0_distance_4 rfl ?_
  refine y_bipush (pc := 5) dX0_distance_5 (by decide) ?_
  refine y_gd (fun h2 => ?_)
  refine y_idiv (pc := 7) dX0_distance_7 h2 (by decide) (by decide) ?_
  refine y_isub (pc := 8) dX0_distance_8 ?_
  refine y_gd (fun h3 => ?_)
  refine y_mabsw (pc := 9) h3 l_X0_143 dX0_distance_9 (Nat.le_of_ble_eq_true rfl) (by decide) ?_
  refine y_iload_n (pc := 12) dX0_distance_12 rfl ?_
  refine y_bipush (pc := 13) dX0_distance_13 (by decide) ?_
  refine y_irem (pc := 15) dX0_distance_15 h1 (by decide) (by decide) ?_
  refine y_iload_n (pc := 16) dX0_distance_16 rfl ?_
  refine y_bipush (pc := 17) dX0_distance_17 (by decide) ?_
  refine y_irem (pc := 19) dX0_distance_19 h2 (by decide) (by decide) ?_
  refine y_isub (pc := 20) dX0_distance_20 ?_
  refine y_gd (fun h4 => ?_)
  refine y_mabsw (pc := 21) h4 l_X0_143 dX0_distance_21 (Nat.le_of_ble_eq_true rfl) (by decide) ?_
  refine y_iadd (pc := 24) dX0_distance_24 ?_
  exact y_iret (pc := 25) dX0_distance_25
theorem c_X0_distance (n : Nat) (M : Mem) (a0 : Int) (a1 : Int) : ∀ res : Int × Mem, m_X0_distance n M a0 a1 = some res → CTi none yX0_distance cX0_distance 2 (some .int) 1 [iv a0, iv a1] M res := CTi_of (by decide +kernel) rfl (Nat.le_of_ble_eq_true rfl) rfl (y_X0_distance n M a0 a1)
def m_X0_nearest_68 (n : Nat) (k7 : Mem → Int → Int → Int → Int → Rs) (M : Mem) (a1 : Int) (a4 : Int) (a5 : Int) : Rs := k7 M a1 a4 a5 (a4 + 1)
theorem t_X0_nearest_68 (n : Nat) (k7 : Mem → Int → Int → Int → Int → Rs) (hk7 : ∀ (M : Mem) (a1 : Int) (a2 : Int) (a3 : Int) (a4 : Int), Y RX0 cX0_nearest 6 2 0 none 7 [some (rv 129), some (iv a1), some (iv a2), some (iv a3), some (iv a4), none] [] M (k7 M a1 a2 a3 a4)) (M : Mem) (a1 : Int) (a4 : Int) (a5 : Int) : Y RX0 cX0_nearest 6 2 0 none 68 [some (rv 129), some (iv a1), none, none, some (iv a4), some (iv a5)] [] M (m_X0_nearest_68 n k7 M a1 a4 a5) := by
  unfold m_X0_nearest_68
  refine y_iload (pc := 68) dX0_nearest_68 rfl ?_
  refine y_istore_n (L' := [some (rv 129), some (iv a1), some (iv a4), none, some (iv a4), some (iv a5)]) (pc := 70) dX0_nearest_70 (by decide) rfl rfl ?_
  refine y_iload (pc := 71) dX0_nearest_71 rfl ?_
  refine y_istore_n (L' := [some (rv 129), some (iv a1), some (iv a4), some (iv a5), some (iv a4), some (iv a5)]) (pc := 73) dX0_nearest_73 (by decide) rfl rfl ?_
  refine y_iinc (L' := [some (rv 129), some (iv a1), some (iv a4), some (iv a5), some (iv (a4 + 1)), some (iv a5)]) (pc := 74) dX0_nearest_74 rfl (by decide) rfl rfl ?_
  refine y_goto (tgt := 7) (pc := 77) dX0_nearest_77 (by decide) ?_
  exact y_sub (ls_s (ls_s (ls_s (ls_s (ls_s (ls_n ls_0)))))) (hk7 M a1 a4 a5 (a4 + 1))
def m_X0_nearest_7 (n : Nat) : Nat → Mem → Int → Int → Int → Int → Rs
  | 0, _, _, _, _, _ => none
  | t + 1, M, a1, a2, a3, a4 => if I32 a4 then (if (rd M 22 7) ≤ a4 then (some (a2, M)) else (if 0 ≤ a4 ∧ a4 < 8 then (if (rd M 28 (Int.toNat a4)) = (-1) then (if 0 ≤ a1 ∧ a1 < 5 then (bd (m_X0_distance n M (rd M 32 (Int.toNat a1)) (rd M 27 (Int.toNat a4))) (fun r7 M6 => if I32 a2 then (if a2 = (-1) then (m_X0_nearest_68 n (m_X0_nearest_7 n t) M6 a1 a4 r7) else (if I32 r7 then (if I32 a3 then (if a3 ≤ r7 then ((m_X0_nearest_7 n t) M6 a1 a2 a3 (a4 + 1)) else (m_X0_nearest_68 n (m_X0_nearest_7 n t) M6 a1 a4 r7)) else none) else none)) else none)) else none) else ((m_X0_nearest_7 n t) M a1 a2 a3 (a4 + 1))) else none)) else none
theorem t_X0_nearest_7 (n : Nat) : ∀ (t : Nat) (M : Mem) (a1 : Int) (a2 : Int) (a3 : Int) (a4 : Int), Y RX0 cX0_nearest 6 2 0 none 7 [some (rv 129), some (iv a1), some (iv a2), some (iv a3), some (iv a4), none] [] M (m_X0_nearest_7 n t M a1 a2 a3 a4) := by
  intro t
  induction t with
  | zero => intro M a1 a2 a3 a4; exact y_none
  | succ t ih =>
    intro M a1 a2 a3 a4
    rewrite [m_X0_nearest_7]
    refine y_iload (pc := 7) dX0_nearest_7 rfl ?_
    refine y_aload_n (pc := 9) dX0_nearest_9 rfl ?_
    refine y_getref (pc := 10) (x := 22) g_X0_12 dX0_nearest_10 ?_
    refine y_getint (pc := 13) (g_X0_105 (by decide)) dX0_nearest_13 ?_
    refine y_gd (fun h1 => ?_)
    refine y_icmp_ge (off := 64) (tgt := 80) (pc := 16) dX0_nearest_16 (by decide) h1 (rd_rng _ _ _) (fun h2 => ?_) (fun h2 => ?_)
    · refine y_iload_n (pc := 80) dX0_nearest_80 rfl ?_
      exact y_iret (pc := 81) dX0_nearest_81
    · refine y_aload_n (pc := 19) dX0_nearest_19 rfl ?_
      refine y_getref (pc := 20) (x := 22) g_X0_12 dX0_nearest_20 ?_
      refine y_getref (pc := 23) (x := 28) (g_X0_111 (by decide)) dX0_nearest_23 ?_
      refine y_iload (pc := 26) dX0_nearest_26 rfl ?_
      refine y_gd (fun h3 => ?_)
      refine y_iald (pc := 28) dX0_nearest_28 ar_28 h3 ?_
      refine y_iconst (pc := 29) dX0_nearest_29 ?_
      refine y_icmp_ne (off := 44) (tgt := 74) (pc := 30) dX0_nearest_30 (by decide) (rd_rng _ _ _) (by decide) (fun h4 => ?_) (fun h4 => ?_)
      · refine y_iinc (L' := [some (rv 129), some (iv a1), some (iv a2), some (iv a3), some (iv (a4 + 1)), none]) (pc := 74) dX0_nearest_74 rfl (by decide) rfl rfl ?_
        refine y_goto (tgt := 7) (pc := 77) dX0_nearest_77 (by decide) ?_
        exact y_sub (ls_s (ls_s (ls_s (ls_s (ls_s (ls_n ls_0)))))) (ih M a1 a2 a3 (a4 + 1))
      · refine y_aload_n (pc := 33) dX0_nearest_33 rfl ?_
        refine y_getref (pc := 34) (x := 22) g_X0_12 dX0_nearest_34 ?_
        refine y_getref (pc := 37) (x := 32) (g_X0_61 (by decide)) dX0_nearest_37 ?_
        refine y_iload_n (pc := 40) dX0_nearest_40 rfl ?_
        refine y_gd (fun h5 => ?_)
        refine y_iald (pc := 41) dX0_nearest_41 ar_32 h5 ?_
        refine y_aload_n (pc := 42) dX0_nearest_42 rfl ?_
        refine y_getref (pc := 43) (x := 22) g_X0_12 dX0_nearest_43 ?_
        refine y_getref (pc := 46) (x := 27) (g_X0_108 (by decide)) dX0_nearest_46 ?_
        refine y_iload (pc := 49) dX0_nearest_49 rfl ?_
        refine y_iald (pc := 51) dX0_nearest_51 ar_27 h3 ?_
        refine y_callSi (pc := 52) s_X0_distance l_X0_140 dX0_nearest_52 (c_X0_distance n _ _ _) (fun _ h => nomatch h) rfl rfl (by decide) (by decide) (Nat.le_of_ble_eq_true rfl) (fun r7 M6 _ => ?_)
        refine y_istore (L' := [some (rv 129), some (iv a1), some (iv a2), some (iv a3), some (iv a4), some (iv r7)]) (pc := 55) dX0_nearest_55 (by decide) rfl rfl ?_
        refine y_iload_n (pc := 57) dX0_nearest_57 rfl ?_
        refine y_iconst (pc := 58) dX0_nearest_58 ?_
        refine y_gd (fun h8 => ?_)
        refine y_icmp_eq (off := 9) (tgt := 68) (pc := 59) dX0_nearest_59 (by decide) h8 (by decide) (fun h9 => ?_) (fun h9 => ?_)
        · exact y_sub (ls_s (ls_s (ls_n (ls_n (ls_s (ls_s ls_0)))))) (t_X0_nearest_68 n (m_X0_nearest_7 n t) ih M6 a1 a4 r7)
        · refine y_iload (pc := 62) dX0_nearest_62 rfl ?_
          refine y_iload_n (pc := 64) dX0_nearest_64 rfl ?_
          refine y_gd (fun h10 => ?_)
          refine y_gd (fun h11 => ?_)
          refine y_icmp_ge (off := 9) (tgt := 74) (pc := 65) dX0_nearest_65 (by decide) h10 h11 (fun h12 => ?_) (fun h12 => ?_)
          · refine y_iinc (L' := [some (rv 129), some (iv a1), some (iv a2), some (iv a3), some (iv (a4 + 1)), some (iv r7)]) (pc := 74) dX0_nearest_74 rfl (by decide) rfl rfl ?_
            refine y_goto (tgt := 7) (pc := 77) dX0_nearest_77 (by decide) ?_
            exact y_sub (ls_s (ls_s (ls_s (ls_s (ls_s (ls_n ls_0)))))) (ih M6 a1 a2 a3 (a4 + 1))
          · exact y_sub (ls_s (ls_s (ls_n (ls_n (ls_s (ls_s ls_0)))))) (t_X0_nearest_68 n (m_X0_nearest_7 n t) ih M6 a1 a4 r7)
def m_X0_nearest (n : Nat) (M : Mem) (a1 : Int) : Rs := m_X0_nearest_7 n n M a1 (-1) 0 0
theorem y_X0_nearest (n : Nat) (M : Mem) (a1 : Int) : Y RX0 cX0_nearest 6 2 0 none 0 [some (rv 129), some (iv a1), none, none, none, none] [] M (m_X0_nearest n M a1) := by
  unfold m_X0_nearest
  refine y_iconst (pc := 0) dX0_nearest_0 ?_
  refine y_istore_n (L' := [some (rv 129), some (iv a1), some (iv (-1)), none, none, none]) (pc := 1) dX0_nearest_1 (by decide) rfl rfl ?_
  refine y_iconst (pc := 2) dX0_nearest_2 ?_
  refine y_istore_n (L' := [some (rv 129), some (iv a1), some (iv (-1)), some (iv 0), none, none]) (pc := 3) dX0_nearest_3 (by decide) rfl rfl ?_
  refine y_iconst (pc := 4) dX0_nearest_4 ?_
  refine y_istore (L' := [some (rv 129), some (iv a1), some (iv (-1)), some (iv 0), some (iv 0), none]) (pc := 5) dX0_nearest_5 (by decide) rfl rfl ?_
  exact y_sub (ls_s (ls_s (ls_s (ls_s (ls_s (ls_n ls_0)))))) (t_X0_nearest_7 n n M a1 (-1) 0 0)
theorem c_X0_nearest (n : Nat) (M : Mem) (a1 : Int) : ∀ res : Int × Mem, m_X0_nearest n M a1 = some res → CTi none yX0_nearest cX0_nearest 6 (some .int) 2 [rv 129, iv a1] M res := CTi_of (by decide +kernel) rfl (Nat.le_of_ble_eq_true rfl) rfl (y_X0_nearest n M a1)
def m_X0_worthiest_66 (n : Nat) (k4 : Mem → Int → Int → Int → Rs) (M : Mem) (a1 : Int) (a3 : Int) : Rs := k4 M a1 a3 (a3 + 1)
theorem t_X0_worthiest_66 (n : Nat) (k4 : Mem → Int → Int → Int → Rs) (hk4 : ∀ (M : Mem) (a1 : Int) (a2 : Int) (a3 : Int), Y RX0 cX0_worthiest 5 0 0 none 4 [some (rv 129), some (iv a1), some (iv a2), some (iv a3), none] [] M (k4 M a1 a2 a3)) (M : Mem) (a1 : Int) (a3 : Int) : Y RX0 cX0_worthiest 5 0 0 none 66 [some (rv 129), some (iv a1), none, some (iv a3), none] [] M (m_X0_worthiest_66 n k4 M a1 a3) := by
  unfold m_X0_worthiest_66
  refine y_iload_n (pc := 66) dX0_worthiest_66 rfl ?_
  refine y_istore_n (L' := [some (rv 129), some (iv a1), some (iv a3), some (iv a3), none]) (pc := 67) dX0_worthiest_67 (by decide) rfl rfl ?_
  refine y_iinc (L' := [some (rv 129), some (iv a1), some (iv a3), some (iv (a3 + 1)), none]) (pc := 68) dX0_worthiest_68 rfl (by decide) rfl rfl ?_
  refine y_goto (tgt := 4) (pc := 71) dX0_worthiest_71 (by decide) ?_
  exact y_sub (ls_s (ls_s (ls_s (ls_s (ls_n ls_0))))) (hk4 M a1 a3 (a3 + 1))
def m_X0_worthiest_33 (n : Nat) (k4 : Mem → Int → Int → Int → Rs) (M : Mem) (a1 : Int) (a2 : Int) (a3 : Int) (s0 : Int) : Rs := if I32 s0 then (if s0 = 0 then (if I32 a2 then (if a2 = (-1) then (m_X0_worthiest_66 n k4 M a1 a3) else (if 0 ≤ a3 ∧ a3 < 8 then (if 0 ≤ a2 ∧ a2 < 8 then (if (rd M 26 (Int.toNat a3)) ≤ (rd M 26 (Int.toNat a2)) then (k4 M a1 a2 (a3 + 1)) else (m_X0_worthiest_66 n k4 M a1 a3)) else none) else none)) else none) else (k4 M a1 a2 (a3 + 1))) else none
theorem t_X0_worthiest_33 (n : Nat) (k4 : Mem → Int → Int → Int → Rs) (hk4 : ∀ (M : Mem) (a1 : Int) (a2 : Int) (a3 : Int), Y RX0 cX0_worthiest 5 0 0 none 4 [some (rv 129), some (iv a1), some (iv a2), some (iv a3), none] [] M (k4 M a1 a2 a3)) (M : Mem) (a1 : Int) (a2 : Int) (a3 : Int) (s0 : Int) : Y RX0 cX0_worthiest 5 0 0 none 33 [some (rv 129), some (iv a1), some (iv a2), some (iv a3), none] [iv s0] M (m_X0_worthiest_33 n k4 M a1 a2 a3 s0) := by
  unfold m_X0_worthiest_33
  refine y_istore (L' := [some (rv 129), some (iv a1), some (iv a2), some (iv a3), some (iv s0)]) (pc := 33) dX0_worthiest_33 (by decide) rfl rfl ?_
  refine y_iload (pc := 35) dX0_worthiest_35 rfl ?_
  refine y_gd (fun h1 => ?_)
  refine y_if_ne (off := 31) (tgt := 68) (pc := 37) dX0_worthiest_37 (by decide) h1 (fun h2 => ?_) (fun h2 => ?_)
  · refine y_iinc (L' := [some (rv 129), some (iv a1), some (iv a2), some (iv (a3 + 1)), some (iv s0)]) (pc := 68) dX0_worthiest_68 rfl (by decide) rfl rfl ?_
    refine y_goto (tgt := 4) (pc := 71) dX0_worthiest_71 (by decide) ?_
    exact y_sub (ls_s (ls_s (ls_s (ls_s (ls_n ls_0))))) (hk4 M a1 a2 (a3 + 1))
  · refine y_iload_n (pc := 40) dX0_worthiest_40 rfl ?_
    refine y_iconst (pc := 41) dX0_worthiest_41 ?_
    refine y_gd (fun h3 => ?_)
    refine y_icmp_eq (off := 24) (tgt := 66) (pc := 42) dX0_worthiest_42 (by decide) h3 (by decide) (fun h4 => ?_) (fun h4 => ?_)
    · exact y_sub (ls_s (ls_s (ls_n (ls_s (ls_n ls_0))))) (t_X0_worthiest_66 n k4 hk4 M a1 a3)
    · refine y_aload_n (pc := 45) dX0_worthiest_45 rfl ?_
      refine y_getref (pc := 46) (x := 22) g_X0_12 dX0_worthiest_46 ?_
      refine y_getref (pc := 49) (x := 26) (g_X0_120 (by decide)) dX0_worthiest_49 ?_
      refine y_iload_n (pc := 52) dX0_worthiest_52 rfl ?_
      refine y_gd (fun h5 => ?_)
      refine y_iald (pc := 53) dX0_worthiest_53 ar_26 h5 ?_
      refine y_aload_n (pc := 54) dX0_worthiest_54 rfl ?_
      refine y_getref (pc := 55) (x := 22) g_X0_12 dX0_worthiest_55 ?_
      refine y_getref (pc := 58) (x := 26) (g_X0_120 (by decide)) dX0_worthiest_58 ?_
      refine y_iload_n (pc := 61) dX0_worthiest_61 rfl ?_
      refine y_gd (fun h6 => ?_)
      refine y_iald (pc := 62) dX0_worthiest_62 ar_26 h6 ?_
      refine y_icmp_le (off := 5) (tgt := 68) (pc := 63) dX0_worthiest_63 (by decide) (rd_rng _ _ _) (rd_rng _ _ _) (fun h7 => ?_) (fun h7 => ?_)
      · refine y_iinc (L' := [some (rv 129), some (iv a1), some (iv a2), some (iv (a3 + 1)), some (iv s0)]) (pc := 68) dX0_worthiest_68 rfl (by decide) rfl rfl ?_
        refine y_goto (tgt := 4) (pc := 71) dX0_worthiest_71 (by decide) ?_
        exact y_sub (ls_s (ls_s (ls_s (ls_s (ls_n ls_0))))) (hk4 M a1 a2 (a3 + 1))
      · exact y_sub (ls_s (ls_s (ls_n (ls_s (ls_n ls_0))))) (t_X0_worthiest_66 n k4 hk4 M a1 a3)
def m_X0_worthiest_4 (n : Nat) : Nat → Mem → Int → Int → Int → Rs
  | 0, _, _, _, _ => none
  | t + 1, M, a1, a2, a3 => if I32 a3 then (if (rd M 22 7) ≤ a3 then (some (a2, M)) else (if 0 ≤ a3 ∧ a3 < 8 then (if I32 a1 then (if (rd M 28 (Int.toNat a3)) = a1 then (m_X0_worthiest_33 n (m_X0_worthiest_4 n t) M a1 a2 a3 1) else (m_X0_worthiest_33 n (m_X0_worthiest_4 n t) M a1 a2 a3 0)) else none) else none)) else none
theorem t_X0_worthiest_4 (n : Nat) : ∀ (t : Nat) (M : Mem) (a1 : Int) (a2 : Int) (a3 : Int), Y RX0 cX0_worthiest 5 0 0 none 4 [some (rv 129), some (iv a1), some (iv a2), some (iv a3), none] [] M (m_X0_worthiest_4 n t M a1 a2 a3) := by
  intro t
  induction t with
  | zero => intro M a1 a2 a3; exact y_none
  | succ t ih =>
    intro M a1 a2 a3
    rewrite [m_X0_worthiest_4]
    refine y_iload_n (pc := 4) dX0_worthiest_4 rfl ?_
    refine y_aload_n (pc := 5) dX0_worthiest_5 rfl ?_
    refine y_getref (pc := 6) (x := 22) g_X0_12 dX0_worthiest_6 ?_
    refine y_getint (pc := 9) (g_X0_105 (by decide)) dX0_worthiest_9 ?_
    refine y_gd (fun h8 => ?_)
    refine y_icmp_ge (off := 62) (tgt := 74) (pc := 12) dX0_worthiest_12 (by decide) h8 (rd_rng _ _ _) (fun h9 => ?_) (fun h9 => ?_)
    · refine y_iload_n (pc := 74) dX0_worthiest_74 rfl ?_
      exact y_iret (pc := 75) dX0_worthiest_75
    · refine y_aload_n (pc := 15) dX0_worthiest_15 rfl ?_
      refine y_getref (pc := 16) (x := 22) g_X0_12 dX0_worthiest_16 ?_
      refine y_getref (pc := 19) (x := 28) (g_X0_111 (by decide)) dX0_worthiest_19 ?_
      refine y_iload_n (pc := 22) dX0_worthiest_22 rfl ?_
      refine y_gd (fun h10 => ?_)
      refine y_iald (pc := 23) dX0_worthiest_23 ar_28 h10 ?_
      refine y_iload_n (pc := 24) dX0_worthiest_24 rfl ?_
      refine y_gd (fun h11 => ?_)
      refine y_icmp_ne (off := 7) (tgt := 32) (pc := 25) dX0_worthiest_25 (by decide) (rd_rng _ _ _) h11 (fun h12 => ?_) (fun h12 => ?_)
      · refine y_iconst (pc := 32) dX0_worthiest_32 ?_
        exact y_sub (ls_s (ls_s (ls_s (ls_s (ls_n ls_0))))) (t_X0_worthiest_33 n (m_X0_worthiest_4 n t) ih M a1 a2 a3 0)
      · refine y_iconst (pc := 28) dX0_worthiest_28 ?_
        refine y_goto (tgt := 33) (pc := 29) dX0_worthiest_29 (by decide) ?_
        exact y_sub (ls_s (ls_s (ls_s (ls_s (ls_n ls_0))))) (t_X0_worthiest_33 n (m_X0_worthiest_4 n t) ih M a1 a2 a3 1)
def m_X0_worthiest (n : Nat) (M : Mem) (a1 : Int) : Rs := m_X0_worthiest_4 n n M a1 (-1) 0
theorem y_X0_worthiest (n : Nat) (M : Mem) (a1 : Int) : Y RX0 cX0_worthiest 5 0 0 none 0 [some (rv 129), some (iv a1), none, none, none] [] M (m_X0_worthiest n M a1) := by
  unfold m_X0_worthiest
  refine y_iconst (pc := 0) dX0_worthiest_0 ?_
  refine y_istore_n (L' := [some (rv 129), some (iv a1), some (iv (-1)), none, none]) (pc := 1) dX0_worthiest_1 (by decide) rfl rfl ?_
  refine y_iconst (pc := 2) dX0_worthiest_2 ?_
  refine y_istore_n (L' := [some (rv 129), some (iv a1), some (iv (-1)), some (iv 0), none]) (pc := 3) dX0_worthiest_3 (by decide) rfl rfl ?_
  exact y_sub (ls_s (ls_s (ls_s (ls_s (ls_n ls_0))))) (t_X0_worthiest_4 n n M a1 (-1) 0)
theorem c_X0_worthiest (n : Nat) (M : Mem) (a1 : Int) : ∀ res : Int × Mem, m_X0_worthiest n M a1 = some res → CTi none yX0_worthiest cX0_worthiest 5 (some .int) 0 [rv 129, iv a1] M res := CTi_of (by decide +kernel) rfl (Nat.le_of_ble_eq_true rfl) rfl (y_X0_worthiest n M a1)
def m_X0_goal_91 (n : Nat) (M : Mem) (a1 : Int) (a4 : Int) : Rs := if I32 a4 then (if a4 = (-1) then (if 0 ≤ a1 ∧ a1 < 5 then (some ((rd M 31 (Int.toNat a1)), M)) else none) else (if 0 ≤ a4 ∧ a4 < 8 then (some ((rd M 27 (Int.toNat a4)), M)) else none)) else none
theorem t_X0_goal_91 (n : Nat) (M : Mem) (a1 : Int) (a4 : Int) : Y RX0 cX0_goal 5 3 0 none 91 [some (rv 129), some (iv a1), none, none, some (iv a4)] [] M (m_X0_goal_91 n M a1 a4) := by
  unfold m_X0_goal_91
  refine y_iload (pc := 91) dX0_goal_91 rfl ?_
  refine y_iconst (pc := 93) dX0_goal_93 ?_
  refine y_gd (fun h1 => ?_)
  refine y_icmp_ne (off := 15) (tgt := 109) (pc := 94) dX0_goal_94 (by decide) h1 (by decide) (fun h2 => ?_) (fun h2 => ?_)
  · refine y_aload_n (pc := 109) dX0_goal_109 rfl ?_
    refine y_getref (pc := 110) (x := 22) g_X0_12 dX0_goal_110 ?_
    refine y_getref (pc := 113) (x := 27) (g_X0_108 (by decide)) dX0_goal_113 ?_
    refine y_iload (pc := 116) dX0_goal_116 rfl ?_
    refine y_gd (fun h3 => ?_)
    refine y_iald (pc := 118) dX0_goal_118 ar_27 h3 ?_
    exact y_iret (pc := 119) dX0_goal_119
  · refine y_aload_n (pc := 97) dX0_goal_97 rfl ?_
    refine y_getref (pc := 98) (x := 22) g_X0_12 dX0_goal_98 ?_
    refine y_getref (pc := 101) (x := 31) (g_X0_137 (by decide)) dX0_goal_101 ?_
    refine y_iload_n (pc := 104) dX0_goal_104 rfl ?_
    refine y_gd (fun h4 => ?_)
    refine y_iald (pc := 105) dX0_goal_105 ar_31 h4 ?_
    refine y_goto (tgt := 119) (pc := 106) dX0_goal_106 (by decide) ?_
    exact y_iret (pc := 119) dX0_goal_119
def m_X0_goal_84 (n : Nat) (M : Mem) (a1 : Int) : Rs := bd (m_X0_nearest n M a1) (fun r6 M5 => m_X0_goal_91 n M5 a1 r6)
theorem t_X0_goal_84 (n : Nat) (M : Mem) (a1 : Int) : Y RX0 cX0_goal 5 3 0 none 84 [some (rv 129), some (iv a1), none, none, none] [] M (m_X0_goal_84 n M a1) := by
  unfold m_X0_goal_84
  refine y_aload_n (pc := 84) dX0_goal_84 rfl ?_
  refine y_iload_n (pc := 85) dX0_goal_85 rfl ?_
  refine y_callVi (pc := 86) v_X0_nearest l_X0_134 dX0_goal_86 (c_X0_nearest n _ _) (fun _ h => nomatch h) rfl rc_X0 rfl (by decide) (by decide) (Nat.le_of_ble_eq_true rfl) (fun r6 M5 _ => ?_)
  refine y_istore (L' := [some (rv 129), some (iv a1), none, none, some (iv r6)]) (pc := 89) dX0_goal_89 (by decide) rfl rfl ?_
  exact y_sub (ls_s (ls_s (ls_n (ls_n (ls_s ls_0))))) (t_X0_goal_91 n M5 a1 r6)
def m_X0_goal_69 (n : Nat) (M : Mem) (a1 : Int) (a2 : Int) (a3 : Int) (a4 : Int) : Rs := if I32 a4 then (if a4 = (-1) then (if I32 a3 then (if a3 = 0 then (if I32 a2 then (if a2 = 1 then (m_X0_goal_84 n M a1) else (m_X0_goal_91 n M a1 a4)) else none) else (m_X0_goal_84 n M a1)) else none) else (m_X0_goal_91 n M a1 a4)) else none
theorem t_X0_goal_69 (n : Nat) (M : Mem) (a1 : Int) (a2 : Int) (a3 : Int) (a4 : Int) : Y RX0 cX0_goal 5 3 0 none 69 [some (rv 129), some (iv a1), some (iv a2), some (iv a3), some (iv a4)] [] M (m_X0_goal_69 n M a1 a2 a3 a4) := by
  unfold m_X0_goal_69
  refine y_iload (pc := 69) dX0_goal_69 rfl ?_
  refine y_iconst (pc := 71) dX0_goal_71 ?_
  refine y_gd (fun h7 => ?_)
  refine y_icmp_ne (off := 19) (tgt := 91) (pc := 72) dX0_goal_72 (by decide) h7 (by decide) (fun h8 => ?_) (fun h8 => ?_)
  · exact y_sub (ls_s (ls_s (ls_n (ls_n (ls_s ls_0))))) (t_X0_goal_91 n M a1 a4)
  · refine y_iload_n (pc := 75) dX0_goal_75 rfl ?_
    refine y_gd (fun h9 => ?_)
    refine y_if_ne (off := 8) (tgt := 84) (pc := 76) dX0_goal_76 (by decide) h9 (fun h10 => ?_) (fun h10 => ?_)
    · exact y_sub (ls_s (ls_s (ls_n (ls_n (ls_n ls_0))))) (t_X0_goal_84 n M a1)
    · refine y_iload_n (pc := 79) dX0_goal_79 rfl ?_
      refine y_iconst (pc := 80) dX0_goal_80 ?_
      refine y_gd (fun h11 => ?_)
      refine y_icmp_ne (off := 10) (tgt := 91) (pc := 81) dX0_goal_81 (by decide) h11 (by decide) (fun h12 => ?_) (fun h12 => ?_)
      · exact y_sub (ls_s (ls_s (ls_n (ls_n (ls_s ls_0))))) (t_X0_goal_91 n M a1 a4)
      · exact y_sub (ls_s (ls_s (ls_n (ls_n (ls_n ls_0))))) (t_X0_goal_84 n M a1)
def m_X0_goal_54 (n : Nat) (M : Mem) (a1 : Int) (a2 : Int) (s0 : Int) : Rs := if I32 s0 then (if s0 = 0 then (m_X0_goal_69 n M a1 a2 s0 (-1)) else (bd (m_X0_worthiest n M a1) (fun r16 M15 => m_X0_goal_69 n M15 a1 a2 s0 r16))) else none
theorem t_X0_goal_54 (n : Nat) (M : Mem) (a1 : Int) (a2 : Int) (s0 : Int) : Y RX0 cX0_goal 5 3 0 none 54 [some (rv 129), some (iv a1), some (iv a2), none, none] [iv s0] M (m_X0_goal_54 n M a1 a2 s0) := by
  unfold m_X0_goal_54
  refine y_istore_n (L' := [some (rv 129), some (iv a1), some (iv a2), some (iv s0), none]) (pc := 54) dX0_goal_54 (by decide) rfl rfl ?_
  refine y_iconst (pc := 55) dX0_goal_55 ?_
  refine y_istore (L' := [some (rv 129), some (iv a1), some (iv a2), some (iv s0), some (iv (-1))]) (pc := 56) dX0_goal_56 (by decide) rfl rfl ?_
  refine y_iload_n (pc := 58) dX0_goal_58 rfl ?_
  refine y_gd (fun h13 => ?_)
  refine y_if_eq (off := 10) (tgt := 69) (pc := 59) dX0_goal_59 (by decide) h13 (fun h14 => ?_) (fun h14 => ?_)
  · exact y_sub (ls_s (ls_s (ls_s (ls_s (ls_s ls_0))))) (t_X0_goal_69 n M a1 a2 s0 (-1))
  · refine y_aload_n (pc := 62) dX0_goal_62 rfl ?_
    refine y_iload_n (pc := 63) dX0_goal_63 rfl ?_
    refine y_callVi (pc := 64) v_X0_worthiest l_X0_131 dX0_goal_64 (c_X0_worthiest n _ _) (fun _ h => nomatch h) rfl rc_X0 rfl (by decide) (by decide) (Nat.le_of_ble_eq_true rfl) (fun r16 M15 _ => ?_)
    refine y_istore (L' := [some (rv 129), some (iv a1), some (iv a2), some (iv s0), some (iv r16)]) (pc := 67) dX0_goal_67 (by decide) rfl rfl ?_
    exact y_sub (ls_s (ls_s (ls_s (ls_s (ls_s ls_0))))) (t_X0_goal_69 n M15 a1 a2 s0 r16)
def m_X0_goal_53 (n : Nat) (M : Mem) (a1 : Int) (a2 : Int) : Rs := m_X0_goal_54 n M a1 a2 0
theorem t_X0_goal_53 (n : Nat) (M : Mem) (a1 : Int) (a2 : Int) : Y RX0 cX0_goal 5 3 0 none 53 [some (rv 129), some (iv a1), some (iv a2), none, none] [] M (m_X0_goal_53 n M a1 a2) := by
  unfold m_X0_goal_53
  refine y_iconst (pc := 53) dX0_goal_53 ?_
  exact y_sub (ls_s (ls_s (ls_s (ls_n (ls_n ls_0))))) (t_X0_goal_54 n M a1 a2 0)
def m_X0_goal_49 (n : Nat) (M : Mem) (a1 : Int) (a2 : Int) : Rs := m_X0_goal_54 n M a1 a2 1
theorem t_X0_goal_49 (n : Nat) (M : Mem) (a1 : Int) (a2 : Int) : Y RX0 cX0_goal 5 3 0 none 49 [some (rv 129), some (iv a1), some (iv a2), none, none] [] M (m_X0_goal_49 n M a1 a2) := by
  unfold m_X0_goal_49
  refine y_iconst (pc := 49) dX0_goal_49 ?_
  refine y_goto (tgt := 54) (pc := 50) dX0_goal_50 (by decide) ?_
  exact y_sub (ls_s (ls_s (ls_s (ls_n (ls_n ls_0))))) (t_X0_goal_54 n M a1 a2 1)
def m_X0_goal_21 (n : Nat) (M : Mem) : Rs := bd (m_X0_airiest n M) (fun r18 M17 => some (r18, M17))
theorem t_X0_goal_21 (n : Nat) (M : Mem) : Y RX0 cX0_goal 5 3 0 none 21 [some (rv 129), none, none, none, none] [] M (m_X0_goal_21 n M) := by
  unfold m_X0_goal_21
  refine y_aload_n (pc := 21) dX0_goal_21 rfl ?_
  refine y_callVi (pc := 22) v_X0_airiest l_X0_127 dX0_goal_22 (c_X0_airiest n _) (fun _ h => nomatch h) rfl rc_X0 rfl (by decide) (by decide) (Nat.le_of_ble_eq_true rfl) (fun r18 M17 _ => ?_)
  exact y_iret (pc := 25) dX0_goal_25
def m_X0_goal (n : Nat) (M : Mem) (a1 : Int) : Rs := if 0 ≤ a1 ∧ a1 < 5 then (lt (rd M 29 (Int.toNat a1)) (fun x20 => if I32 x20 then (if x20 = 5 then (m_X0_goal_21 n M) else (if x20 = 6 then (m_X0_goal_21 n M) else (if x20 = 2 then (m_X0_goal_49 n M a1 x20) else (if x20 = 7 then (if I32 (Int.tmod (rd M 22 13) 2) then (if (Int.tmod (rd M 22 13) 2) = 0 then (m_X0_goal_49 n M a1 x20) else (m_X0_goal_53 n M a1 x20)) else none) else (m_X0_goal_53 n M a1 x20))))) else none)) else none
theorem y_X0_goal (n : Nat) (M : Mem) (a1 : Int) : Y RX0 cX0_goal 5 3 0 none 0 [some (rv 129), some (iv a1), none, none, none] [] M (m_X0_goal n M a1) := by
  unfold m_X0_goal
  refine y_aload_n (pc := 0) dX0_goal_0 rfl ?_
  refine y_getref (pc := 1) (x := 22) g_X0_12 dX0_goal_1 ?_
  refine y_getref (pc := 4) (x := 29) (g_X0_64 (by decide)) dX0_goal_4 ?_
  refine y_iload_n (pc := 7) dX0_goal_7 rfl ?_
  refine y_gd (fun h19 => ?_)
  refine y_iald (pc := 8) dX0_goal_8 ar_29 h19 ?_
  refine y_leti (fun x20 => ?_)
  refine y_istore_n (L' := [some (rv 129), some (iv a1), some (iv x20), none, none]) (pc := 9) dX0_goal_9 (by decide) rfl rfl ?_
  refine y_iload_n (pc := 10) dX0_goal_10 rfl ?_
  refine y_iconst (pc := 11) dX0_goal_11 ?_
  refine y_gd (fun h21 => ?_)
  refine y_icmp_eq (off := 9) (tgt := 21) (pc := 12) dX0_goal_12 (by decide) h21 (by decide) (fun h22 => ?_) (fun h22 => ?_)
  · exact y_sub (ls_s (ls_n (ls_n (ls_n (ls_n ls_0))))) (t_X0_goal_21 n M)
  · refine y_iload_n (pc := 15) dX0_goal_15 rfl ?_
    refine y_bipush (pc := 16) dX0_goal_16 (by decide) ?_
    refine y_icmp_ne (off := 8) (tgt := 26) (pc := 18) dX0_goal_18 (by decide) h21 (by decide) (fun h23 => ?_) (fun h23 => ?_)
    · refine y_iload_n (pc := 26) dX0_goal_26 rfl ?_
      refine y_iconst (pc := 27) dX0_goal_27 ?_
      refine y_icmp_eq (off := 21) (tgt := 49) (pc := 28) dX0_goal_28 (by decide) h21 (by decide) (fun h24 => ?_) (fun h24 => ?_)
      · exact y_sub (ls_s (ls_s (ls_s (ls_n (ls_n ls_0))))) (t_X0_goal_49 n M a1 x20)
      · refine y_iload_n (pc := 31) dX0_goal_31 rfl ?_
        refine y_bipush (pc := 32) dX0_goal_32 (by decide) ?_
        refine y_icmp_ne (off := 19) (tgt := 53) (pc := 34) dX0_goal_34 (by decide) h21 (by decide) (fun h25 => ?_) (fun h25 => ?_)
        · exact y_sub (ls_s (ls_s (ls_s (ls_n (ls_n ls_0))))) (t_X0_goal_53 n M a1 x20)
        · refine y_aload_n (pc := 37) dX0_goal_37 rfl ?_
          refine y_getref (pc := 38) (x := 22) g_X0_12 dX0_goal_38 ?_
          refine y_getint (pc := 41) (g_X0_43 (by decide)) dX0_goal_41 ?_
          refine y_iconst (pc := 44) dX0_goal_44 ?_
          refine y_irem (pc := 45) dX0_goal_45 (rd_rng _ _ _) (by decide) (by decide) ?_
          refine y_gd (fun h26 => ?_)
          refine y_if_ne (off := 7) (tgt := 53) (pc := 46) dX0_goal_46 (by decide) h26 (fun h27 => ?_) (fun h27 => ?_)
          · exact y_sub (ls_s (ls_s (ls_s (ls_n (ls_n ls_0))))) (t_X0_goal_53 n M a1 x20)
          · exact y_sub (ls_s (ls_s (ls_s (ls_n (ls_n ls_0))))) (t_X0_goal_49 n M a1 x20)
    · exact y_sub (ls_s (ls_n (ls_n (ls_n (ls_n ls_0))))) (t_X0_goal_21 n M)
theorem c_X0_goal (n : Nat) (M : Mem) (a1 : Int) : ∀ res : Int × Mem, m_X0_goal n M a1 = some res → CTi none yX0_goal cX0_goal 5 (some .int) 3 [rv 129, iv a1] M res := CTi_of (by decide +kernel) rfl (Nat.le_of_ble_eq_true rfl) rfl (y_X0_goal n M a1)
def m_X1_grabs_50 (n : Nat) (M : Mem) (a1 : Int) : Rs := if I32 a1 then (some (((Int.tdiv a1 2) + 2), M)) else none
theorem t_X1_grabs_50 (n : Nat) (M : Mem) (a1 : Int) : Y RX1 cX1_grabs 2 0 0 none 50 [none, some (iv a1)] [] M (m_X1_grabs_50 n M a1) := by
  unfold m_X1_grabs_50
  refine y_iload_n (pc := 50) dX1_grabs_50 rfl ?_
  refine y_iconst (pc := 51) dX1_grabs_51 ?_
  refine y_gd (fun h1 => ?_)
  refine y_idiv (pc := 52) dX1_grabs_52 h1 (by decide) (by decide) ?_
  refine y_iconst (pc := 53) dX1_grabs_53 ?_
  refine y_iadd (pc := 54) dX1_grabs_54 ?_
  exact y_iret (pc := 55) dX1_grabs_55
def m_X1_grabs (n : Nat) (M : Mem) (a0 : Int) (a1 : Int) : Rs := if I32 a0 then (if a0 = 1 then (if I32 a1 then (some (((Int.tdiv a1 2) + 1), M)) else none) else (if a0 = 2 then (m_X1_grabs_50 n M a1) else (if a0 = 3 then (some (1, M)) else (if a0 = 4 then (some (3, M)) else (if a0 = 5 then (some (a1, M)) else (if a0 = 6 then (some (0, M)) else (if a0 = 7 then (m_X1_grabs_50 n M a1) else (some (1, M))))))))) else none
theorem y_X1_grabs (n : Nat) (M : Mem) (a0 : Int) (a1 : Int) : Y RX1 cX1_grabs 2 0 0 none 0 [some (iv a0), some (iv a1)] [] M (m_X1_grabs n M a0 a1) := by
  unfold m_X1_grabs
  refine y_iload_n (pc := 0) dX1_grabs_0 rfl ?_
  refine y_gd (fun h2 => ?_)
  refine y_br (fun h3 => ?_) (fun h3 => ?_)
  · refine y_tableIn (off := 43) (tgt := 44) (pc := 1) dX1_grabs_1 h3 (by decide) (by decide) (by decide) rfl (by decide) ?_
    refine y_iload_n (pc := 44) dX1_grabs_44 rfl ?_
    refine y_iconst (pc := 45) dX1_grabs_45 ?_
    refine y_gd (fun h4 => ?_)
    refine y_idiv (pc := 46) dX1_grabs_46 h4 (by decide) (by decide) ?_
    refine y_iconst (pc := 47) dX1_grabs_47 ?_
    refine y_iadd (pc := 48) dX1_grabs_48 ?_
    exact y_iret (pc := 49) dX1_grabs_49
  · refine y_br (fun h5 => ?_) (fun h5 => ?_)
    · refine y_tableIn (off := 49) (tgt := 50) (pc := 1) dX1_grabs_1 h5 (by decide) (by decide) (by decide) rfl (by decide) ?_
      exact y_sub (ls_n (ls_s ls_0)) (t_X1_grabs_50 n M a1)
    · refine y_br (fun h6 => ?_) (fun h6 => ?_)
      · refine y_tableIn (off := 61) (tgt := 62) (pc := 1) dX1_grabs_1 h6 (by decide) (by decide) (by decide) rfl (by decide) ?_
        refine y_iconst (pc := 62) dX1_grabs_62 ?_
        exact y_iret (pc := 63) dX1_grabs_63
      · refine y_br (fun h7 => ?_) (fun h7 => ?_)
        · refine y_tableIn (off := 55) (tgt := 56) (pc := 1) dX1_grabs_1 h7 (by decide) (by decide) (by decide) rfl (by decide) ?_
          refine y_iconst (pc := 56) dX1_grabs_56 ?_
          exact y_iret (pc := 57) dX1_grabs_57
        · refine y_br (fun h8 => ?_) (fun h8 => ?_)
          · refine y_tableIn (off := 57) (tgt := 58) (pc := 1) dX1_grabs_1 h8 (by decide) (by decide) (by decide) rfl (by decide) ?_
            refine y_iload_n (pc := 58) dX1_grabs_58 rfl ?_
            exact y_iret (pc := 59) dX1_grabs_59
          · refine y_br (fun h9 => ?_) (fun h9 => ?_)
            · refine y_tableIn (off := 59) (tgt := 60) (pc := 1) dX1_grabs_1 h9 (by decide) (by decide) (by decide) rfl (by decide) ?_
              refine y_iconst (pc := 60) dX1_grabs_60 ?_
              exact y_iret (pc := 61) dX1_grabs_61
            · refine y_br (fun h10 => ?_) (fun h10 => ?_)
              · refine y_tableIn (off := 49) (tgt := 50) (pc := 1) dX1_grabs_1 h10 (by decide) (by decide) (by decide) rfl (by decide) ?_
                exact y_sub (ls_n (ls_s ls_0)) (t_X1_grabs_50 n M a1)
              · refine y_tableOut (tgt := 62) (pc := 1) dX1_grabs_1 h2 (by omega) (by decide) ?_
                refine y_iconst (pc := 62) dX1_grabs_62 ?_
                exact y_iret (pc := 63) dX1_grabs_63
theorem c_X1_grabs (n : Nat) (M : Mem) (a0 : Int) (a1 : Int) : ∀ res : Int × Mem, m_X1_grabs n M a0 a1 = some res → CTi none yX1_grabs cX1_grabs 2 (some .int) 0 [iv a0, iv a1] M res := CTi_of (by decide +kernel) rfl (Nat.le_of_ble_eq_true rfl) rfl (y_X1_grabs n M a0 a1)
def m_X1_mayTakeAnothers (n : Nat) (M : Mem) (a0 : Int) (a1 : Int) (a2 : Int) : Rs := if I32 a0 then (if a0 = 2 then (if I32 a2 then (if I32 a1 then (if a1 ≤ a2 then (some (0, M)) else (some (1, M))) else none) else none) else (if a0 = 7 then (if I32 a2 then (if I32 a1 then (if a1 < a2 then (some (0, M)) else (some (1, M))) else none) else none) else (some (0, M)))) else none
theorem y_X1_mayTakeAnothers (n : Nat) (M : Mem) (a0 : Int) (a1 : Int) (a2 : Int) : Y RX1 cX1_mayTakeAnothers 3 0 1 none 0 [some (iv a0), some (iv a1), some (iv a2)] [] M (m_X1_mayTakeAnothers n M a0 a1 a2) := by
  unfold m_X1_mayTakeAnothers
  refine y_iload_n (pc := 0) dX1_mayTakeAnothers_0 rfl ?_
  refine y_gd (fun h1 => ?_)
  refine y_br (fun h2 => ?_) (fun h2 => ?_)
  · refine y_lookup (off := 27) (tgt := 28) (pc := 1) dX1_mayTakeAnothers_1 rfl h1 (by rw [h2]; rfl) (by decide) ?_
    refine y_iload_n (pc := 28) dX1_mayTakeAnothers_28 rfl ?_
    refine y_iload_n (pc := 29) dX1_mayTakeAnothers_29 rfl ?_
    refine y_gd (fun h3 => ?_)
    refine y_gd (fun h4 => ?_)
    refine y_icmp_ge (off := 7) (tgt := 37) (pc := 30) dX1_mayTakeAnothers_30 (by decide) h3 h4 (fun h5 => ?_) (fun h5 => ?_)
    · refine y_iconst (pc := 37) dX1_mayTakeAnothers_37 ?_
      exact y_zret (pc := 38) dX1_mayTakeAnothers_38 (by decide)
    · refine y_iconst (pc := 33) dX1_mayTakeAnothers_33 ?_
      refine y_goto (tgt := 38) (pc := 34) dX1_mayTakeAnothers_34 (by decide) ?_
      exact y_zret (pc := 38) dX1_mayTakeAnothers_38 (by decide)
  · refine y_br (fun h6 => ?_) (fun h6 => ?_)
    · refine y_lookup (off := 38) (tgt := 39) (pc := 1) dX1_mayTakeAnothers_1 rfl h1 (by rw [h6]; rfl) (by decide) ?_
      refine y_iload_n (pc := 39) dX1_mayTakeAnothers_39 rfl ?_
      refine y_iload_n (pc := 40) dX1_mayTakeAnothers_40 rfl ?_
      refine y_gd (fun h7 => ?_)
      refine y_gd (fun h8 => ?_)
      refine y_icmp_gt (off := 7) (tgt := 48) (pc := 41) dX1_mayTakeAnothers_41 (by decide) h7 h8 (fun h9 => ?_) (fun h9 => ?_)
      · refine y_iconst (pc := 48) dX1_mayTakeAnothers_48 ?_
        exact y_zret (pc := 49) dX1_mayTakeAnothers_49 (by decide)
      · refine y_iconst (pc := 44) dX1_mayTakeAnothers_44 ?_
        refine y_goto (tgt := 49) (pc := 45) dX1_mayTakeAnothers_45 (by decide) ?_
        exact y_zret (pc := 49) dX1_mayTakeAnothers_49 (by decide)
    · refine y_lookup (off := 49) (tgt := 50) (pc := 1) dX1_mayTakeAnothers_1 rfl h1 (lk_out2 h2 h6) (by decide) ?_
      refine y_iconst (pc := 50) dX1_mayTakeAnothers_50 ?_
      exact y_zret (pc := 51) dX1_mayTakeAnothers_51 (by decide)
theorem c_X1_mayTakeAnothers (n : Nat) (M : Mem) (a0 : Int) (a1 : Int) (a2 : Int) : ∀ res : Int × Mem, m_X1_mayTakeAnothers n M a0 a1 a2 = some res → CTi none yX1_mayTakeAnothers cX1_mayTakeAnothers 3 (some .boolean) 0 [iv a0, iv a1, iv a2] M res := CTz_of (by decide +kernel) rfl (Nat.le_of_ble_eq_true rfl) rfl (y_X1_mayTakeAnothers n M a0 a1 a2)
