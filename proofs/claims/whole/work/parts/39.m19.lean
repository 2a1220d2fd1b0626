def m_X6_pieces_13 (n : Nat) : Nat → Mem → Int → Int → Int → Int → Int → Rs
  | 0, _, _, _, _, _, _ => none
  | t + 1, M, a1, a2, a3, a4, a5 => if I32 a5 then (if 24 ≤ a5 then (if I32 a1 then (if a1 = 0 then (some (a3, M)) else (some (a4, M))) else none) else (bd (m_X6_has n M a2 a5) (fun r6 M5 => if I32 r6 then (if r6 = 0 then ((m_X6_pieces_13 n t) M5 a1 a2 a3 a4 (a5 + 1)) else (bd (m_X6_pieceWith n M5 a5 a2) (fun r10 M9 => lt (bAnd a2 (bXor r10 (-1))) (fun x11 => bd (m_X6_bits n M9 r10) (fun r13 M12 => bd (m_X6_greater n M12 a4 r13) (fun r15 M14 => (m_X6_pieces_13 n t) M14 a1 x11 (a3 + 1) r15 (a5 + 1))))))) else none))) else none
theorem t_X6_pieces_13 (n : Nat) : ∀ (t : Nat) (M : Mem) (a1 : Int) (a2 : Int) (a3 : Int) (a4 : Int) (a5 : Int), Y RX6 cX6_pieces 7 6 0 none 13 [none, some (iv a1), some (iv a2), some (iv a3), some (iv a4), some (iv a5), none] [] M (m_X6_pieces_13 n t M a1 a2 a3 a4 a5) := by
  intro t
  induction t with
  | zero => intro M a1 a2 a3 a4 a5; exact y_none
  | succ t ih =>
    intro M a1 a2 a3 a4 a5
    rewrite [m_X6_pieces_13]
    refine y_iload (pc := 13) dX6_pieces_13 rfl ?_
    refine y_bipush (pc := 15) dX6_pieces_15 (by decide) ?_
    refine y_gd (fun h1 => ?_)
    refine y_icmp_ge (off := 51) (tgt := 68) (pc := 17) dX6_pieces_17 (by decide) h1 (by decide) (fun h2 => ?_) (fun h2 => ?_)
    · refine y_iload_n (pc := 68) dX6_pieces_68 rfl ?_
      refine y_gd (fun h3 => ?_)
      refine y_if_eq (off := 8) (tgt := 77) (pc := 69) dX6_pieces_69 (by decide) h3 (fun h4 => ?_) (fun h4 => ?_)
      · refine y_iload_n (pc := 77) dX6_pieces_77 rfl ?_
        exact y_iret (pc := 78) dX6_pieces_78
      · refine y_iload (pc := 72) dX6_pieces_72 rfl ?_
        refine y_goto (tgt := 78) (pc := 74) dX6_pieces_74 (by decide) ?_
        exact y_iret (pc := 78) dX6_pieces_78
    · refine y_iload_n (pc := 20) dX6_pieces_20 rfl ?_
      refine y_iload (pc := 21) dX6_pieces_21 rfl ?_
      refine y_callSi (pc := 23) s_X6_has l_X6_292 dX6_pieces_23 (c_X6_has n _ _ _) rfl rfl (by decide) (by decide) (Nat.le_of_ble_eq_true rfl) (fun r6 M5 _ => ?_)
      refine y_gd (fun h7 => ?_)
      refine y_if_ne (off := 6) (tgt := 32) (pc := 26) dX6_pieces_26 (by decide) h7 (fun h8 => ?_) (fun h8 => ?_)
      · refine y_iload (pc := 32) dX6_pieces_32 rfl ?_
        refine y_iload_n (pc := 34) dX6_pieces_34 rfl ?_
        refine y_callSi (pc := 35) s_X6_pieceWith l_X6_338 dX6_pieces_35 (c_X6_pieceWith n _ _ _) rfl rfl (by decide) (by decide) (Nat.le_of_ble_eq_true rfl) (fun r10 M9 _ => ?_)
        refine y_istore (L' := [none, some (iv a1), some (iv a2), some (iv a3), some (iv a4), some (iv a5), some (iv r10)]) (pc := 38) dX6_pieces_38 (by decide) rfl rfl ?_
        refine y_iload_n (pc := 40) dX6_pieces_40 rfl ?_
        refine y_iload (pc := 41) dX6_pieces_41 rfl ?_
        refine y_iconst (pc := 43) dX6_pieces_43 ?_
        refine y_ixor (pc := 44) dX6_pieces_44 ?_
        refine y_iand (pc := 45) dX6_pieces_45 ?_
        refine y_leti (fun x11 => ?_)
        refine y_istore_n (L' := [none, some (iv a1), some (iv x11), some (iv a3), some (iv a4), some (iv a5), some (iv r10)]) (pc := 46) dX6_pieces_46 (by decide) rfl rfl ?_
        refine y_iinc (L' := [none, some (iv a1), some (iv x11), some (iv (a3 + 1)), some (iv a4), some (iv a5), some (iv r10)]) (pc := 47) dX6_pieces_47 rfl (by decide) rfl rfl ?_
        refine y_iload (pc := 50) dX6_pieces_50 rfl ?_
        refine y_iload (pc := 52) dX6_pieces_52 rfl ?_
        refine y_callSi (pc := 54) s_X6_bits l_X6_298 dX6_pieces_54 (c_X6_bits n _ _) rfl rfl (by decide) (by decide) (Nat.le_of_ble_eq_true rfl) (fun r13 M12 _ => ?_)
        refine y_callSi (pc := 57) s_X6_greater l_X6_96 dX6_pieces_57 (c_X6_greater n _ _ _) rfl rfl (by decide) (by decide) (Nat.le_of_ble_eq_true rfl) (fun r15 M14 _ => ?_)
        refine y_istore (L' := [none, some (iv a1), some (iv x11), some (iv (a3 + 1)), some (iv r15), some (iv a5), some (iv r10)]) (pc := 60) dX6_pieces_60 (by decide) rfl rfl ?_
        refine y_iinc (L' := [none, some (iv a1), some (iv x11), some (iv (a3 + 1)), some (iv r15), some (iv (a5 + 1)), some (iv r10)]) (pc := 62) dX6_pieces_62 rfl (by decide) rfl rfl ?_
        refine y_goto (tgt := 13) (pc := 65) dX6_pieces_65 (by decide) ?_
        exact y_sub (ls_n (ls_s (ls_s (ls_s (ls_s (ls_s (ls_n ls_0))))))) (ih M14 a1 x11 (a3 + 1) r15 (a5 + 1))
      · refine y_goto (tgt := 62) (pc := 29) dX6_pieces_29 (by decide) ?_
        refine y_iinc (L' := [none, some (iv a1), some (iv a2), some (iv a3), some (iv a4), some (iv (a5 + 1)), none]) (pc := 62) dX6_pieces_62 rfl (by decide) rfl rfl ?_
        refine y_goto (tgt := 13) (pc := 65) dX6_pieces_65 (by decide) ?_
        exact y_sub (ls_n (ls_s (ls_s (ls_s (ls_s (ls_s (ls_n ls_0))))))) (ih M5 a1 a2 a3 a4 (a5 + 1))
def m_X6_pieces (n : Nat) (M : Mem) (a1 : Int) : Rs := bd (m_X6_foggyCells n M) (fun r17 M16 => m_X6_pieces_13 n n M16 a1 r17 0 0 0)
theorem y_X6_pieces (n : Nat) (M : Mem) (a1 : Int) : Y RX6 cX6_pieces 7 6 0 none 0 [some (rv 137), some (iv a1), none, none, none, none, none] [] M (m_X6_pieces n M a1) := by
  unfold m_X6_pieces
  refine y_aload_n (pc := 0) dX6_pieces_0 rfl ?_
  refine y_callVi (pc := 1) v_X6_foggyCells l_X6_286 dX6_pieces_1 (c_X6_foggyCells n _) rfl rc_X6 rfl (by decide) (by decide) (Nat.le_of_ble_eq_true rfl) (fun r17 M16 _ => ?_)
  refine y_istore_n (L' := [some (rv 137), some (iv a1), some (iv r17), none, none, none, none]) (pc := 4) dX6_pieces_4 (by decide) rfl rfl ?_
  refine y_iconst (pc := 5) dX6_pieces_5 ?_
  refine y_istore_n (L' := [some (rv 137), some (iv a1), some (iv r17), some (iv 0), none, none, none]) (pc := 6) dX6_pieces_6 (by decide) rfl rfl ?_
  refine y_iconst (pc := 7) dX6_pieces_7 ?_
  refine y_istore (L' := [some (rv 137), some (iv a1), some (iv r17), some (iv 0), some (iv 0), none, none]) (pc := 8) dX6_pieces_8 (by decide) rfl rfl ?_
  refine y_iconst (pc := 10) dX6_pieces_10 ?_
  refine y_istore (L' := [some (rv 137), some (iv a1), some (iv r17), some (iv 0), some (iv 0), some (iv 0), none]) (pc := 11) dX6_pieces_11 (by decide) rfl rfl ?_
  exact y_sub (ls_n (ls_s (ls_s (ls_s (ls_s (ls_s (ls_n ls_0))))))) (t_X6_pieces_13 n n M16 a1 r17 0 0 0)
theorem c_X6_pieces (n : Nat) (M : Mem) (a1 : Int) : ∀ res : Int × Mem, m_X6_pieces n M a1 = some res → CTi yX6_pieces cX6_pieces 7 (some .int) 6 [rv 137, iv a1] M res := CTi_of (by decide +kernel) rfl (Nat.le_of_ble_eq_true rfl) rfl (y_X6_pieces n M a1)
def m_X6_islands_33 (n : Nat) (M : Mem) (s0 : Int) : Rs := bd (m_X6_pieces n M s0) (fun r2 M1 => some (r2, M1))
theorem t_X6_islands_33 (n : Nat) (M : Mem) (s0 : Int) : Y RX6 cX6_islands 2 7 0 none 33 [none, none] [iv s0, rv 137] M (m_X6_islands_33 n M s0) := by
  unfold m_X6_islands_33
  refine y_callVi (pc := 33) v_X6_pieces l_X6_341 dX6_islands_33 (c_X6_pieces n _ _) rfl rc_X6 rfl (by decide) (by decide) (Nat.le_of_ble_eq_true rfl) (fun r2 M1 _ => ?_)
  refine y_goto (tgt := 47) (pc := 36) dX6_islands_36 (by decide) ?_
  exact y_iret (pc := 47) dX6_islands_47
def m_X6_islands (n : Nat) (M : Mem) (a1 : Int) : Rs := bd (m_X6_isIn n M a1 (-2) 23) (fun r4 M3 => if I32 r4 then (if r4 = 0 then (bd (m_X6_no n M3 (-1)) (fun r15 M14 => some (r15, M14))) else (if I32 a1 then (if 0 ≤ a1 then (bd (m_X6_foggyCells n M3) (fun r10 M9 => bd (m_X6_pieceWith n M9 a1 r10) (fun r12 M11 => some (r12, M11)))) else (if a1 = (-2) then (m_X6_islands_33 n M3 1) else (m_X6_islands_33 n M3 0))) else none)) else none)
theorem y_X6_islands (n : Nat) (M : Mem) (a1 : Int) : Y RX6 cX6_islands 2 7 0 none 0 [some (rv 137), some (iv a1)] [] M (m_X6_islands n M a1) := by
  unfold m_X6_islands
  refine y_iload_n (pc := 0) dX6_islands_0 rfl ?_
  refine y_bipush (pc := 1) dX6_islands_1 (by decide) ?_
  refine y_bipush (pc := 3) dX6_islands_3 (by decide) ?_
  refine y_callSi (pc := 5) s_X6_isIn l_X6_82 dX6_islands_5 (c_X6_isIn n _ _ _ _) rfl rfl (by decide) (by decide) (Nat.le_of_ble_eq_true rfl) (fun r4 M3 _ => ?_)
  refine y_gd (fun h5 => ?_)
  refine y_if_ne (off := 9) (tgt := 17) (pc := 8) dX6_islands_8 (by decide) h5 (fun h6 => ?_) (fun h6 => ?_)
  · refine y_iload_n (pc := 17) dX6_islands_17 rfl ?_
    refine y_gd (fun h7 => ?_)
    refine y_if_ge (off := 21) (tgt := 39) (pc := 18) dX6_islands_18 (by decide) h7 (fun h8 => ?_) (fun h8 => ?_)
    · refine y_iload_n (pc := 39) dX6_islands_39 rfl ?_
      refine y_aload_n (pc := 40) dX6_islands_40 rfl ?_
      refine y_callVi (pc := 41) v_X6_foggyCells l_X6_286 dX6_islands_41 (c_X6_foggyCells n _) rfl rc_X6 rfl (by decide) (by decide) (Nat.le_of_ble_eq_true rfl) (fun r10 M9 _ => ?_)
      refine y_callSi (pc := 44) s_X6_pieceWith l_X6_338 dX6_islands_44 (c_X6_pieceWith n _ _ _) rfl rfl (by decide) (by decide) (Nat.le_of_ble_eq_true rfl) (fun r12 M11 _ => ?_)
      exact y_iret (pc := 47) dX6_islands_47
    · refine y_aload_n (pc := 21) dX6_islands_21 rfl ?_
      refine y_iload_n (pc := 22) dX6_islands_22 rfl ?_
      refine y_bipush (pc := 23) dX6_islands_23 (by decide) ?_
      refine y_icmp_ne (off := 7) (tgt := 32) (pc := 25) dX6_islands_25 (by decide) h7 (by decide) (fun h13 => ?_) (fun h13 => ?_)
      · refine y_iconst (pc := 32) dX6_islands_32 ?_
        exact y_sub (ls_n (ls_n ls_0)) (t_X6_islands_33 n M3 0)
      · refine y_iconst (pc := 28) dX6_islands_28 ?_
        refine y_goto (tgt := 33) (pc := 29) dX6_islands_29 (by decide) ?_
        exact y_sub (ls_n (ls_n ls_0)) (t_X6_islands_33 n M3 1)
  · refine y_aload_n (pc := 11) dX6_islands_11 rfl ?_
    refine y_iconst (pc := 12) dX6_islands_12 ?_
    refine y_callVi (pc := 13) v_X6_no l_X6_172 dX6_islands_13 (c_X6_no n _ _) rfl rc_X6 rfl (by decide) (by decide) (Nat.le_of_ble_eq_true rfl) (fun r15 M14 _ => ?_)
    exact y_iret (pc := 16) dX6_islands_16
theorem c_X6_islands (n : Nat) (M : Mem) (a1 : Int) : ∀ res : Int × Mem, m_X6_islands n M a1 = some res → CTi yX6_islands cX6_islands 2 (some .int) 7 [rv 137, iv a1] M res := CTi_of (by decide +kernel) rfl (Nat.le_of_ble_eq_true rfl) rfl (y_X6_islands n M a1)
def m_X6_clearRun_34 (n : Nat) (k10 : Mem → Int → Int → Int → Rs) (M : Mem) (a1 : Int) (a3 : Int) (s0 : Int) : Rs := bd (m_X6_greater n M a1 s0) (fun r2 M1 => k10 M1 r2 s0 (a3 + 1))
theorem t_X6_clearRun_34 (n : Nat) (k10 : Mem → Int → Int → Int → Rs) (hk10 : ∀ (M : Mem) (a1 : Int) (a2 : Int) (a3 : Int), Y RX6 cX6_clearRun 4 7 0 none 10 [some (rv 137), some (iv a1), some (iv a2), some (iv a3)] [] M (k10 M a1 a2 a3)) (M : Mem) (a1 : Int) (a3 : Int) (s0 : Int) : Y RX6 cX6_clearRun 4 7 0 none 34 [some (rv 137), some (iv a1), none, some (iv a3)] [iv s0] M (m_X6_clearRun_34 n k10 M a1 a3 s0) := by
  unfold m_X6_clearRun_34
  refine y_istore_n (L' := [some (rv 137), some (iv a1), some (iv s0), some (iv a3)]) (pc := 34) dX6_clearRun_34 (by decide) rfl rfl ?_
  refine y_iload_n (pc := 35) dX6_clearRun_35 rfl ?_
  refine y_iload_n (pc := 36) dX6_clearRun_36 rfl ?_
  refine y_callSi (pc := 37) s_X6_greater l_X6_96 dX6_clearRun_37 (c_X6_greater n _ _ _) rfl rfl (by decide) (by decide) (Nat.le_of_ble_eq_true rfl) (fun r2 M1 _ => ?_)
  refine y_istore_n (L' := [some (rv 137), some (iv r2), some (iv s0), some (iv a3)]) (pc := 40) dX6_clearRun_40 (by decide) rfl rfl ?_
  refine y_iinc (L' := [some (rv 137), some (iv r2), some (iv s0), some (iv (a3 + 1))]) (pc := 41) dX6_clearRun_41 rfl (by decide) rfl rfl ?_
  refine y_goto (tgt := 10) (pc := 44) dX6_clearRun_44 (by decide) ?_
  exact y_sub (ls_s (ls_s (ls_s (ls_s ls_0)))) (hk10 M1 r2 s0 (a3 + 1))
def m_X6_clearRun_10 (n : Nat) : Nat → Mem → Int → Int → Int → Rs
  | 0, _, _, _, _ => none
  | t + 1, M, a1, a2, a3 => if I32 a3 then (if 60 ≤ a3 then (bd (m_X6_forgets n M) (fun _ M5 => some (a1, M5))) else (bd (m_X6_goesHour n M) (fun _ M6 => bd (m_X6_foggyCells n M6) (fun r8 M7 => if I32 r8 then (if r8 = 0 then (m_X6_clearRun_34 n (m_X6_clearRun_10 n t) M7 a1 a3 (a2 + 1)) else (m_X6_clearRun_34 n (m_X6_clearRun_10 n t) M7 a1 a3 0)) else none)))) else none
theorem t_X6_clearRun_10 (n : Nat) : ∀ (t : Nat) (M : Mem) (a1 : Int) (a2 : Int) (a3 : Int), Y RX6 cX6_clearRun 4 7 0 none 10 [some (rv 137), some (iv a1), some (iv a2), some (iv a3)] [] M (m_X6_clearRun_10 n t M a1 a2 a3) := by
  intro t
  induction t with
  | zero => intro M a1 a2 a3; exact y_none
  | succ t ih =>
    intro M a1 a2 a3
    rewrite [m_X6_clearRun_10]
    refine y_iload_n (pc := 10) dX6_clearRun_10 rfl ?_
    refine y_bipush (pc := 11) dX6_clearRun_11 (by decide) ?_
    refine y_gd (fun h3 => ?_)
    refine y_icmp_ge (off := 34) (tgt := 47) (pc := 13) dX6_clearRun_13 (by decide) h3 (by decide) (fun h4 => ?_) (fun h4 => ?_)
    · refine y_aload_n (pc := 47) dX6_clearRun_47 rfl ?_
      refine y_callVv (pc := 48) v_X6_forgets l_X6_283 dX6_clearRun_48 (c_X6_forgets n _) rfl rc_X6 rfl (by decide) (by decide) (Nat.le_of_ble_eq_true rfl) (fun _ M5 _ => ?_)
      refine y_iload_n (pc := 51) dX6_clearRun_51 rfl ?_
      exact y_iret (pc := 52) dX6_clearRun_52
    · refine y_aload_n (pc := 16) dX6_clearRun_16 rfl ?_
      refine y_callVv (pc := 17) v_X6_goesHour l_X6_162 dX6_clearRun_17 (c_X6_goesHour n _) rfl rc_X6 rfl (by decide) (by decide) (Nat.le_of_ble_eq_true rfl) (fun _ M6 _ => ?_)
      refine y_aload_n (pc := 20) dX6_clearRun_20 rfl ?_
      refine y_callVi (pc := 21) v_X6_foggyCells l_X6_286 dX6_clearRun_21 (c_X6_foggyCells n _) rfl rc_X6 rfl (by decide) (by decide) (Nat.le_of_ble_eq_true rfl) (fun r8 M7 _ => ?_)
      refine y_gd (fun h9 => ?_)
      refine y_if_ne (off := 9) (tgt := 33) (pc := 24) dX6_clearRun_24 (by decide) h9 (fun h10 => ?_) (fun h10 => ?_)
      · refine y_iconst (pc := 33) dX6_clearRun_33 ?_
        exact y_sub (ls_s (ls_s (ls_n (ls_s ls_0)))) (t_X6_clearRun_34 n (m_X6_clearRun_10 n t) ih M7 a1 a3 0)
      · refine y_iload_n (pc := 27) dX6_clearRun_27 rfl ?_
        refine y_iconst (pc := 28) dX6_clearRun_28 ?_
        refine y_iadd (pc := 29) dX6_clearRun_29 ?_
        refine y_goto (tgt := 34) (pc := 30) dX6_clearRun_30 (by decide) ?_
        exact y_sub (ls_s (ls_s (ls_n (ls_s ls_0)))) (t_X6_clearRun_34 n (m_X6_clearRun_10 n t) ih M7 a1 a3 (a2 + 1))
def m_X6_clearRun (n : Nat) (M : Mem) : Rs := bd (m_X6_minds n M) (fun _ M11 => m_X6_clearRun_10 n n M11 0 0 0)
theorem y_X6_clearRun (n : Nat) (M : Mem) : Y RX6 cX6_clearRun 4 7 0 none 0 [some (rv 137), none, none, none] [] M (m_X6_clearRun n M) := by
  unfold m_X6_clearRun
  refine y_iconst (pc := 0) dX6_clearRun_0 ?_
  refine y_istore_n (L' := [some (rv 137), some (iv 0), none, none]) (pc := 1) dX6_clearRun_1 (by decide) rfl rfl ?_
  refine y_iconst (pc := 2) dX6_clearRun_2 ?_
  refine y_istore_n (L' := [some (rv 137), some (iv 0), some (iv 0), none]) (pc := 3) dX6_clearRun_3 (by decide) rfl rfl ?_
  refine y_aload_n (pc := 4) dX6_clearRun_4 rfl ?_
  refine y_callVv (pc := 5) v_X6_minds l_X6_280 dX6_clearRun_5 (c_X6_minds n _) rfl rc_X6 rfl (by decide) (by decide) (Nat.le_of_ble_eq_true rfl) (fun _ M11 _ => ?_)
  refine y_iconst (pc := 8) dX6_clearRun_8 ?_
  refine y_istore_n (L' := [some (rv 137), some (iv 0), some (iv 0), some (iv 0)]) (pc := 9) dX6_clearRun_9 (by decide) rfl rfl ?_
  exact y_sub (ls_s (ls_s (ls_s (ls_s ls_0)))) (t_X6_clearRun_10 n n M11 0 0 0)
theorem c_X6_clearRun (n : Nat) (M : Mem) : ∀ res : Int × Mem, m_X6_clearRun n M = some res → CTi yX6_clearRun cX6_clearRun 4 (some .int) 7 [rv 137] M res := CTi_of (by decide +kernel) rfl (Nat.le_of_ble_eq_true rfl) rfl (y_X6_clearRun n M)
def m_X6_way_56 (n : Nat) : Nat → Mem → Int → Int → Int → Int → Rs
  | 0, _, _, _, _, _ => none
  | t + 1, M, a2, a3, a4, a5 => bd (m_X6_has n M a4 a2) (fun r2 M1 => if I32 r2 then (if r2 = 0 then (bd (m_X6_grown n M1 a4 a3) (fun r6 M5 => (m_X6_way_56 n t) M5 a2 a3 r6 (a5 + 1))) else (some (a5, M1))) else none)
theorem t_X6_way_56 (n : Nat) : ∀ (t : Nat) (M : Mem) (a2 : Int) (a3 : Int) (a4 : Int) (a5 : Int), Y RX6 cX6_way 6 6 0 none 56 [none, none, some (iv a2), some (iv a3), some (iv a4), some (iv a5)] [] M (m_X6_way_56 n t M a2 a3 a4 a5) := by
  intro t
  induction t with
  | zero => intro M a2 a3 a4 a5; exact y_none
  | succ t ih =>
    intro M a2 a3 a4 a5
    rewrite [m_X6_way_56]
    refine y_iload (pc := 56) dX6_way_56 rfl ?_
    refine y_iload_n (pc := 58) dX6_way_58 rfl ?_
    refine y_callSi (pc := 59) s_X6_has l_X6_292 dX6_way_59 (c_X6_has n _ _ _) rfl rfl (by decide) (by decide) (Nat.le_of_ble_eq_true rfl) (fun r2 M1 _ => ?_)
    refine y_gd (fun h3 => ?_)
    refine y_if_ne (off := 17) (tgt := 79) (pc := 62) dX6_way_62 (by decide) h3 (fun h4 => ?_) (fun h4 => ?_)
    · refine y_iload (pc := 79) dX6_way_79 rfl ?_
      exact y_iret (pc := 81) dX6_way_81
    · refine y_iload (pc := 65) dX6_way_65 rfl ?_
      refine y_iload_n (pc := 67) dX6_way_67 rfl ?_
      refine y_callSi (pc := 68) s_X6_grown l_X6_335 dX6_way_68 (c_X6_grown n _ _ _) rfl rfl (by decide) (by decide) (Nat.le_of_ble_eq_true rfl) (fun r6 M5 _ => ?_)
      refine y_istore (L' := [none, none, some (iv a2), some (iv a3), some (iv r6), some (iv a5)]) (pc := 71) dX6_way_71 (by decide) rfl rfl ?_
      refine y_iinc (L' := [none, none, some (iv a2), some (iv a3), some (iv r6), some (iv (a5 + 1))]) (pc := 73) dX6_way_73 rfl (by decide) rfl rfl ?_
      refine y_goto (tgt := 56) (pc := 76) dX6_way_76 (by decide) ?_
      exact y_sub (ls_n (ls_n (ls_s (ls_s (ls_s (ls_s ls_0)))))) (ih M5 a2 a3 r6 (a5 + 1))
def m_X6_way_14 (n : Nat) (M : Mem) : Rs := bd (m_X6_no n M (-1)) (fun r8 M7 => some (r8, M7))
theorem t_X6_way_14 (n : Nat) (M : Mem) : Y RX6 cX6_way 6 6 0 none 14 [some (rv 137), none, none, none, none, none] [] M (m_X6_way_14 n M) := by
  unfold m_X6_way_14
  refine y_aload_n (pc := 14) dX6_way_14 rfl ?_
  refine y_iconst (pc := 15) dX6_way_15 ?_
  refine y_callVi (pc := 16) v_X6_no l_X6_172 dX6_way_16 (c_X6_no n _ _) rfl rc_X6 rfl (by decide) (by decide) (Nat.le_of_ble_eq_true rfl) (fun r8 M7 _ => ?_)
  exact y_iret (pc := 19) dX6_way_19
def m_X6_way (n : Nat) (M : Mem) (a1 : Int) (a2 : Int) : Rs := bd (m_X6_isCell n M a1) (fun r10 M9 => if I32 r10 then (if r10 = 0 then (m_X6_way_14 n M9) else (bd (m_X6_isCell n M9 a2) (fun r14 M13 => if I32 r14 then (if r14 = 0 then (m_X6_way_14 n M13) else (bd (m_X6_foggyCells n M13) (fun r18 M17 => bd (m_X6_has n M17 r18 a1) (fun r20 M19 => if I32 r20 then (if r20 = 0 then (some ((-9), M19)) else (bd (m_X6_pieceWith n M19 a1 r18) (fun r24 M23 => bd (m_X6_has n M23 r24 a2) (fun r26 M25 => if I32 r26 then (if r26 = 0 then (some ((-9), M25)) else (m_X6_way_56 n n M25 a2 r18 (bShl 1 a1) 0)) else none)))) else none)))) else none))) else none)
theorem y_X6_way (n : Nat) (M : Mem) (a1 : Int) (a2 : Int) : Y RX6 cX6_way 6 6 0 none 0 [some (rv 137), some (iv a1), some (iv a2), none, none, none] [] M (m_X6_way n M a1 a2) := by
  unfold m_X6_way
  refine y_iload_n (pc := 0) dX6_way_0 rfl ?_
  refine y_callSi (pc := 1) s_X6_isCell l_X6_198 dX6_way_1 (c_X6_isCell n _ _) rfl rfl (by decide) (by decide) (Nat.le_of_ble_eq_true rfl) (fun r10 M9 _ => ?_)
  refine y_gd (fun h11 => ?_)
  refine y_if_eq (off := 10) (tgt := 14) (pc := 4) dX6_way_4 (by decide) h11 (fun h12 => ?_) (fun h12 => ?_)
  · exact y_sub (ls_s (ls_n (ls_n (ls_n (ls_n (ls_n ls_0)))))) (t_X6_way_14 n M9)
  · refine y_iload_n (pc := 7) dX6_way_7 rfl ?_
    refine y_callSi (pc := 8) s_X6_isCell l_X6_198 dX6_way_8 (c_X6_isCell n _ _) rfl rfl (by decide) (by decide) (Nat.le_of_ble_eq_true rfl) (fun r14 M13 _ => ?_)
    refine y_gd (fun h15 => ?_)
    refine y_if_ne (off := 9) (tgt := 20) (pc := 11) dX6_way_11 (by decide) h15 (fun h16 => ?_) (fun h16 => ?_)
    · refine y_aload_n (pc := 20) dX6_way_20 rfl ?_
      refine y_callVi (pc := 21) v_X6_foggyCells l_X6_286 dX6_way_21 (c_X6_foggyCells n _) rfl rc_X6 rfl (by decide) (by decide) (Nat.le_of_ble_eq_true rfl) (fun r18 M17 _ => ?_)
      refine y_istore_n (L' := [some (rv 137), some (iv a1), some (iv a2), some (iv r18), none, none]) (pc := 24) dX6_way_24 (by decide) rfl rfl ?_
      refine y_iload_n (pc := 25) dX6_way_25 rfl ?_
      refine y_iload_n (pc := 26) dX6_way_26 rfl ?_
      refine y_callSi (pc := 27) s_X6_has l_X6_292 dX6_way_27 (c_X6_has n _ _ _) rfl rfl (by decide) (by decide) (Nat.le_of_ble_eq_true rfl) (fun r20 M19 _ => ?_)
      refine y_gd (fun h21 => ?_)
      refine y_if_eq (off := 15) (tgt := 45) (pc := 30) dX6_way_30 (by decide) h21 (fun h22 => ?_) (fun h22 => ?_)
      · refine y_bipush (pc := 45) dX6_way_45 (by decide) ?_
        exact y_iret (pc := 47) dX6_way_47
      · refine y_iload_n (pc := 33) dX6_way_33 rfl ?_
        refine y_iload_n (pc := 34) dX6_way_34 rfl ?_
        refine y_callSi (pc := 35) s_X6_pieceWith l_X6_338 dX6_way_35 (c_X6_pieceWith n _ _ _) rfl rfl (by decide) (by decide) (Nat.le_of_ble_eq_true rfl) (fun r24 M23 _ => ?_)
        refine y_iload_n (pc := 38) dX6_way_38 rfl ?_
        refine y_callSi (pc := 39) s_X6_has l_X6_292 dX6_way_39 (c_X6_has n _ _ _) rfl rfl (by decide) (by decide) (Nat.le_of_ble_eq_true rfl) (fun r26 M25 _ => ?_)
        refine y_gd (fun h27 => ?_)
        refine y_if_ne (off := 6) (tgt := 48) (pc := 42) dX6_way_42 (by decide) h27 (fun h28 => ?_) (fun h28 => ?_)
        · refine y_iconst (pc := 48) dX6_way_48 ?_
          refine y_iload_n (pc := 49) dX6_way_49 rfl ?_
          refine y_ishl (pc := 50) dX6_way_50 ?_
          refine y_istore (L' := [some (rv 137), some (iv a1), some (iv a2), some (iv r18), some (iv (bShl 1 a1)), none]) (pc := 51) dX6_way_51 (by decide) rfl rfl ?_
          refine y_iconst (pc := 53) dX6_way_53 ?_
          refine y_istore (L' := [some (rv 137), some (iv a1), some (iv a2), some (iv r18), some (iv (bShl 1 a1)), some (iv 0)]) (pc := 54) dX6_way_54 (by decide) rfl rfl ?_
          exact y_sub (ls_n (ls_n (ls_s (ls_s (ls_s (ls_s ls_0)))))) (t_X6_way_56 n n M25 a2 r18 (bShl 1 a1) 0)
        · refine y_bipush (pc := 45) dX6_way_45 (by decide) ?_
          exact y_iret (pc := 47) dX6_way_47
    · exact y_sub (ls_s (ls_n (ls_n (ls_n (ls_n (ls_n ls_0)))))) (t_X6_way_14 n M13)
theorem c_X6_way (n : Nat) (M : Mem) (a1 : Int) (a2 : Int) : ∀ res : Int × Mem, m_X6_way n M a1 a2 = some res → CTi yX6_way cX6_way 6 (some .int) 6 [rv 137, iv a1, iv a2] M res := CTi_of (by decide +kernel) rfl (Nat.le_of_ble_eq_true rfl) rfl (y_X6_way n M a1 a2)
def m_X6_share_44 (n : Nat) : Nat → Mem → Int → Int → Int → Int → Rs
  | 0, _, _, _, _, _ => none
  | t + 1, M, a1, a2, a4, a5 => if I32 a5 then (if (rd M 137 7) ≤ a5 then (if I32 a4 then (if a4 = 0 then (if I32 a2 then (some (a2, M)) else none) else (bd (m_X6_worthsOf n M a1) (fun r6 M5 => if I32 r6 then (bd (m_X6_partOf n M5 r6 a4 a2) (fun r9 M8 => some (r9, M8))) else none))) else none) else (if 0 ≤ a5 ∧ a5 < 8 then (lt (a4 + (rd M 141 (Int.toNat a5))) (fun x12 => (m_X6_share_44 n t) M a1 a2 x12 (a5 + 1))) else none)) else none
theorem t_X6_share_44 (n : Nat) : ∀ (t : Nat) (M : Mem) (a1 : Int) (a2 : Int) (a4 : Int) (a5 : Int), Y RX6 cX6_share 6 2 2 none 44 [some (rv 137), some (iv a1), some (iv a2), none, some (iv a4), some (iv a5)] [] M (m_X6_share_44 n t M a1 a2 a4 a5) := by
  intro t
  induction t with
  | zero => intro M a1 a2 a4 a5; exact y_none
  | succ t ih =>
    intro M a1 a2 a4 a5
    rewrite [m_X6_share_44]
    refine y_iload (pc := 44) dX6_share_44 rfl ?_
    refine y_aload_n (pc := 46) dX6_share_46 rfl ?_
    refine y_getint (pc := 47) g_X6_86 dX6_share_47 ?_
    refine y_gd (fun h1 => ?_)
    refine y_icmp_ge (off := 21) (tgt := 71) (pc := 50) dX6_share_50 (by decide) h1 (rd_rng _ _ _) (fun h2 => ?_) (fun h2 => ?_)
    · refine y_iload (pc := 71) dX6_share_71 rfl ?_
      refine y_gd (fun h3 => ?_)
      refine y_if_ne (off := 8) (tgt := 81) (pc := 73) dX6_share_73 (by decide) h3 (fun h4 => ?_) (fun h4 => ?_)
      · refine y_aload_n (pc := 81) dX6_share_81 rfl ?_
        refine y_iload_n (pc := 82) dX6_share_82 rfl ?_
        refine y_callVi (pc := 83) v_X6_worthsOf l_X6_264 dX6_share_83 (c_X6_worthsOf n _ _) rfl rc_X6 rfl (by decide) (by decide) (Nat.le_of_ble_eq_true rfl) (fun r6 M5 _ => ?_)
        refine y_gd (fun h7 => ?_)
        refine y_i2l (pc := 86) dX6_share_86 h7 ?_
        refine y_iload (pc := 87) dX6_share_87 rfl ?_
        refine y_i2l (pc := 89) dX6_share_89 h3 ?_
        refine y_iload_n (pc := 90) dX6_share_90 rfl ?_
        refine y_callSl (pc := 91) s_X6_partOf l_X6_328 dX6_share_91 (c_X6_partOf n _ _ _ _) rfl rfl (by decide) (by decide) (Nat.le_of_ble_eq_true rfl) (fun r9 M8 _ => ?_)
        exact y_lret (pc := 94) dX6_share_94
      · refine y_iload_n (pc := 76) dX6_share_76 rfl ?_
        refine y_gd (fun h10 => ?_)
        refine y_i2l (pc := 77) dX6_share_77 h10 ?_
        refine y_goto (tgt := 94) (pc := 78) dX6_share_78 (by decide) ?_
        exact y_lret (pc := 94) dX6_share_94
    · refine y_iload (pc := 53) dX6_share_53 rfl ?_
      refine y_aload_n (pc := 55) dX6_share_55 rfl ?_
      refine y_getref (pc := 56) (x := 141) g_X6_22 dX6_share_56 ?_
      refine y_iload (pc := 59) dX6_share_59 rfl ?_
      refine y_gd (fun h11 => ?_)
      refine y_iald (pc := 61) dX6_share_61 ar_141 h11 ?_
      refine y_iadd (pc := 62) dX6_share_62 ?_
      refine y_leti (fun x12 => ?_)
      refine y_istore (L' := [some (rv 137), some (iv a1), some (iv a2), none, some (iv x12), some (iv a5)]) (pc := 63) dX6_share_63 (by decide) rfl rfl ?_
      refine y_iinc (L' := [some (rv 137), some (iv a1), some (iv a2), none, some (iv x12), some (iv (a5 + 1))]) (pc := 65) dX6_share_65 rfl (by decide) rfl rfl ?_
      refine y_goto (tgt := 44) (pc := 68) dX6_share_68 (by decide) ?_
      exact y_sub (ls_s (ls_s (ls_s (ls_n (ls_s (ls_s ls_0)))))) (ih M a1 a2 x12 (a5 + 1))
def m_X6_share_27 (n : Nat) (M : Mem) (a1 : Int) (a2 : Int) (s0 : Int) : Rs := if I32 s0 then (if s0 = 0 then (m_X6_share_44 n n M a1 a2 0 0) else (bd (m_X6_lowestOf n M s0) (fun r16 M15 => some (r16, M15)))) else none
theorem t_X6_share_27 (n : Nat) (M : Mem) (a1 : Int) (a2 : Int) (s0 : Int) : Y RX6 cX6_share 6 2 2 none 27 [some (rv 137), some (iv a1), some (iv a2), none, none, none] [iv s0] M (m_X6_share_27 n M a1 a2 s0) := by
  unfold m_X6_share_27
  refine y_istore_n (L' := [some (rv 137), some (iv a1), some (iv a2), some (iv s0), none, none]) (pc := 27) dX6_share_27 (by decide) rfl rfl ?_
  refine y_iload_n (pc := 28) dX6_share_28 rfl ?_
  refine y_gd (fun h13 => ?_)
  refine y_if_eq (off := 9) (tgt := 38) (pc := 29) dX6_share_29 (by decide) h13 (fun h14 => ?_) (fun h14 => ?_)
  · refine y_iconst (pc := 38) dX6_share_38 ?_
    refine y_istore (L' := [some (rv 137), some (iv a1), some (iv a2), some (iv s0), some (iv 0), none]) (pc := 39) dX6_share_39 (by decide) rfl rfl ?_
    refine y_iconst (pc := 41) dX6_share_41 ?_
    refine y_istore (L' := [some (rv 137), some (iv a1), some (iv a2), some (iv s0), some (iv 0), some (iv 0)]) (pc := 42) dX6_share_42 (by decide) rfl rfl ?_
    exact y_sub (ls_s (ls_s (ls_s (ls_n (ls_s (ls_s ls_0)))))) (t_X6_share_44 n n M a1 a2 0 0)
  · refine y_aload_n (pc := 32) dX6_share_32 rfl ?_
    refine y_iload_n (pc := 33) dX6_share_33 rfl ?_
    refine y_callVl (pc := 34) v_X6_lowestOf l_X6_324 dX6_share_34 (c_X6_lowestOf n _ _) rfl rc_X6 rfl (by decide) (by decide) (Nat.le_of_ble_eq_true rfl) (fun r16 M15 _ => ?_)
    exact y_lret (pc := 37) dX6_share_37
def m_X6_share (n : Nat) (M : Mem) (a1 : Int) (a2 : Int) : Rs := bd (m_X6_isPerson n M a1) (fun r18 M17 => if I32 r18 then (if r18 = 0 then (m_X6_share_27 n M17 a1 a2 (-1)) else (bd (m_X6_isIn n M17 a2 0 1) (fun r22 M21 => if I32 r22 then (if r22 = 0 then (m_X6_share_27 n M21 a1 a2 (-2)) else (m_X6_share_27 n M21 a1 a2 0)) else none))) else none)
theorem y_X6_share (n : Nat) (M : Mem) (a1 : Int) (a2 : Int) : Y RX6 cX6_share 6 2 2 none 0 [some (rv 137), some (iv a1), some (iv a2), none, none, none] [] M (m_X6_share n M a1 a2) := by
  unfold m_X6_share
  refine y_aload_n (pc := 0) dX6_share_0 rfl ?_
  refine y_iload_n (pc := 1) dX6_share_1 rfl ?_
  refine y_callVi (pc := 2) v_X6_isPerson l_X6_92 dX6_share_2 (c_X6_isPerson n _ _) rfl rc_X6 rfl (by decide) (by decide) (Nat.le_of_ble_eq_true rfl) (fun r18 M17 _ => ?_)
  refine y_gd (fun h19 => ?_)
  refine y_if_ne (off := 7) (tgt := 12) (pc := 5) dX6_share_5 (by decide) h19 (fun h20 => ?_) (fun h20 => ?_)
  · refine y_iload_n (pc := 12) dX6_share_12 rfl ?_
    refine y_iconst (pc := 13) dX6_share_13 ?_
    refine y_iconst (pc := 14) dX6_share_14 ?_
    refine y_callSi (pc := 15) s_X6_isIn l_X6_82 dX6_share_15 (c_X6_isIn n _ _ _ _) rfl rfl (by decide) (by decide) (Nat.le_of_ble_eq_true rfl) (fun r22 M21 _ => ?_)
    refine y_gd (fun h23 => ?_)
    refine y_if_ne (off := 8) (tgt := 26) (pc := 18) dX6_share_18 (by decide) h23 (fun h24 => ?_) (fun h24 => ?_)
    · refine y_iconst (pc := 26) dX6_share_26 ?_
      exact y_sub (ls_s (ls_s (ls_s (ls_n (ls_n (ls_n ls_0)))))) (t_X6_share_27 n M21 a1 a2 0)
    · refine y_bipush (pc := 21) dX6_share_21 (by decide) ?_
      refine y_goto (tgt := 27) (pc := 23) dX6_share_23 (by decide) ?_
      exact y_sub (ls_s (ls_s (ls_s (ls_n (ls_n (ls_n ls_0)))))) (t_X6_share_27 n M21 a1 a2 (-2))
  · refine y_iconst (pc := 8) dX6_share_8 ?_
    refine y_goto (tgt := 27) (pc := 9) dX6_share_9 (by decide) ?_
    exact y_sub (ls_s (ls_s (ls_s (ls_n (ls_n (ls_n ls_0)))))) (t_X6_share_27 n M17 a1 a2 (-1))
theorem c_X6_share (n : Nat) (M : Mem) (a1 : Int) (a2 : Int) : ∀ res : Int × Mem, m_X6_share n M a1 a2 = some res → CTl yX6_share cX6_share 6 2 [rv 137, iv a1, iv a2] M res := CTl_of (by decide +kernel) rfl (Nat.le_of_ble_eq_true rfl) rfl (y_X6_share n M a1 a2)
def m_X6_richest_35 (n : Nat) (k5 : Mem → Int → Int → Rs) (M : Mem) (a2 : Int) (s0 : Int) : Rs := k5 M s0 (a2 + 1)
theorem t_X6_richest_35 (n : Nat) (k5 : Mem → Int → Int → Rs) (hk5 : ∀ (M : Mem) (a1 : Int) (a2 : Int), Y RX6 cX6_richest 3 1 0 none 5 [some (rv 137), some (iv a1), some (iv a2)] [] M (k5 M a1 a2)) (M : Mem) (a2 : Int) (s0 : Int) : Y RX6 cX6_richest 3 1 0 none 35 [some (rv 137), none, some (iv a2)] [iv s0] M (m_X6_richest_35 n k5 M a2 s0) := by
  unfold m_X6_richest_35
  refine y_istore_n (L' := [some (rv 137), some (iv s0), some (iv a2)]) (pc := 35) dX6_richest_35 (by decide) rfl rfl ?_
  refine y_iinc (L' := [some (rv 137), some (iv s0), some (iv (a2 + 1))]) (pc := 36) dX6_richest_36 rfl (by decide) rfl rfl ?_
  refine y_goto (tgt := 5) (pc := 39) dX6_richest_39 (by decide) ?_
  exact y_sub (ls_s (ls_s (ls_s ls_0))) (hk5 M s0 (a2 + 1))
def m_X6_richest_30 (n : Nat) (k5 : Mem → Int → Int → Rs) (M : Mem) (a2 : Int) : Rs := m_X6_richest_35 n k5 M a2 a2
theorem t_X6_richest_30 (n : Nat) (k5 : Mem → Int → Int → Rs) (hk5 : ∀ (M : Mem) (a1 : Int) (a2 : Int), Y RX6 cX6_richest 3 1 0 none 5 [some (rv 137), some (iv a1), some (iv a2)] [] M (k5 M a1 a2)) (M : Mem) (a2 : Int) : Y RX6 cX6_richest 3 1 0 none 30 [some (rv 137), none, some (iv a2)] [] M (m_X6_richest_30 n k5 M a2) := by
  unfold m_X6_richest_30
  refine y_iload_n (pc := 30) dX6_richest_30 rfl ?_
  refine y_goto (tgt := 35) (pc := 31) dX6_richest_31 (by decide) ?_
  exact y_sub (ls_s (ls_n (ls_s ls_0))) (t_X6_richest_35 n k5 hk5 M a2 a2)
def m_X6_richest_5 (n : Nat) : Nat → Mem → Int → Int → Rs
  | 0, _, _, _ => none
  | t + 1, M, a1, a2 => if I32 a2 then (if (rd M 137 12) ≤ a2 then (some (a1, M)) else (if I32 a1 then (if a1 < 0 then (m_X6_richest_30 n (m_X6_richest_5 n t) M a2) else (bd (m_X6_worthsOf n M a2) (fun r6 M5 => bd (m_X6_worthsOf n M5 a1) (fun r8 M7 => if I32 r6 then (if I32 r8 then (if r6 ≤ r8 then (m_X6_richest_35 n (m_X6_richest_5 n t) M7 a2 a1) else (m_X6_richest_30 n (m_X6_richest_5 n t) M7 a2)) else none) else none)))) else none)) else none
theorem t_X6_richest_5 (n : Nat) : ∀ (t : Nat) (M : Mem) (a1 : Int) (a2 : Int), Y RX6 cX6_richest 3 1 0 none 5 [some (rv 137), some (iv a1), some (iv a2)] [] M (m_X6_richest_5 n t M a1 a2) := by
  intro t
  induction t with
  | zero => intro M a1 a2; exact y_none
  | succ t ih =>
    intro M a1 a2
    rewrite [m_X6_richest_5]
    refine y_iload_n (pc := 5) dX6_richest_5 rfl ?_
    refine y_aload_n (pc := 6) dX6_richest_6 rfl ?_
    refine y_getint (pc := 7) g_X6_89 dX6_richest_7 ?_
    refine y_gd (fun h1 => ?_)
    refine y_icmp_ge (off := 32) (tgt := 42) (pc := 10) dX6_richest_10 (by decide) h1 (rd_rng _ _ _) (fun h2 => ?_) (fun h2 => ?_)
    · refine y_iload_n (pc := 42) dX6_richest_42 rfl ?_
      exact y_iret (pc := 43) dX6_richest_43
    · refine y_iload_n (pc := 13) dX6_richest_13 rfl ?_
      refine y_gd (fun h3 => ?_)
      refine y_if_lt (off := 16) (tgt := 30) (pc := 14) dX6_richest_14 (by decide) h3 (fun h4 => ?_) (fun h4 => ?_)
      · exact y_sub (ls_s (ls_n (ls_s ls_0))) (t_X6_richest_30 n (m_X6_richest_5 n t) ih M a2)
      · refine y_aload_n (pc := 17) dX6_richest_17 rfl ?_
        refine y_iload_n (pc := 18) dX6_richest_18 rfl ?_
        refine y_callVi (pc := 19) v_X6_worthsOf l_X6_264 dX6_richest_19 (c_X6_worthsOf n _ _) rfl rc_X6 rfl (by decide) (by decide) (Nat.le_of_ble_eq_true rfl) (fun r6 M5 _ => ?_)
        refine y_aload_n (pc := 22) dX6_richest_22 rfl ?_
        refine y_iload_n (pc := 23) dX6_richest_23 rfl ?_
        refine y_callVi (pc := 24) v_X6_worthsOf l_X6_264 dX6_richest_24 (c_X6_worthsOf n _ _) rfl rc_X6 rfl (by decide) (by decide) (Nat.le_of_ble_eq_true rfl) (fun r8 M7 _ => ?_)
        refine y_gd (fun h9 => ?_)
        refine y_gd (fun h10 => ?_)
        refine y_icmp_le (off := 7) (tgt := 34) (pc := 27) dX6_richest_27 (by decide) h9 h10 (fun h11 => ?_) (fun h11 => ?_)
        · refine y_iload_n (pc := 34) dX6_richest_34 rfl ?_
          exact y_sub (ls_s (ls_n (ls_s ls_0))) (t_X6_richest_35 n (m_X6_richest_5 n t) ih M7 a2 a1)
        · exact y_sub (ls_s (ls_n (ls_s ls_0))) (t_X6_richest_30 n (m_X6_richest_5 n t) ih M7 a2)
def m_X6_richest (n : Nat) (M : Mem) : Rs := m_X6_richest_5 n n M (-9) 0
theorem y_X6_richest (n : Nat) (M : Mem) : Y RX6 cX6_richest 3 1 0 none 0 [some (rv 137), none, none] [] M (m_X6_richest n M) := by
  unfold m_X6_richest
  refine y_bipush (pc := 0) dX6_richest_0 (by decide) ?_
  refine y_istore_n (L' := [some (rv 137), some (iv (-9)), none]) (pc := 2) dX6_richest_2 (by decide) rfl rfl ?_
  refine y_iconst (pc := 3) dX6_richest_3 ?_
  refine y_istore_n (L' := [some (rv 137), some (iv (-9)), some (iv 0)]) (pc := 4) dX6_richest_4 (by decide) rfl rfl ?_
  exact y_sub (ls_s (ls_s (ls_s ls_0))) (t_X6_richest_5 n n M (-9) 0)
theorem c_X6_richest (n : Nat) (M : Mem) : ∀ res : Int × Mem, m_X6_richest n M = some res → CTi yX6_richest cX6_richest 3 (some .int) 1 [rv 137] M res := CTi_of (by decide +kernel) rfl (Nat.le_of_ble_eq_true rfl) rfl (y_X6_richest n M)
def m_X6_wet_33 (n : Nat) (k4 : Mem → Int → Int → Rs) (M : Mem) (a2 : Int) (s0 : Int) (s1 : Int) : Rs := k4 M (bOr s1 s0) (a2 + 1)
theorem t_X6_wet_33 (n : Nat) (k4 : Mem → Int → Int → Rs) (hk4 : ∀ (M : Mem) (a1 : Int) (a2 : Int), Y RX6 cX6_wet 3 5 0 none 4 [some (rv 137), some (iv a1), some (iv a2)] [] M (k4 M a1 a2)) (M : Mem) (a2 : Int) (s0 : Int) (s1 : Int) : Y RX6 cX6_wet 3 5 0 none 33 [some (rv 137), none, some (iv a2)] [iv s0, iv s1] M (m_X6_wet_33 n k4 M a2 s0 s1) := by
  unfold m_X6_wet_33
  refine y_ior (pc := 33) dX6_wet_33 ?_
  refine y_istore_n (L' := [some (rv 137), some (iv (bOr s1 s0)), some (iv a2)]) (pc := 34) dX6_wet_34 (by decide) rfl rfl ?_
  refine y_iinc (L' := [some (rv 137), some (iv (bOr s1 s0)), some (iv (a2 + 1))]) (pc := 35) dX6_wet_35 rfl (by decide) rfl rfl ?_
  refine y_goto (tgt := 4) (pc := 38) dX6_wet_38 (by decide) ?_
  exact y_sub (ls_s (ls_s (ls_s ls_0))) (hk4 M (bOr s1 s0) (a2 + 1))
def m_X6_wet_4 (n : Nat) : Nat → Mem → Int → Int → Rs
  | 0, _, _, _ => none
  | t + 1, M, a1, a2 => if I32 a2 then (if (rd M 137 7) ≤ a2 then (some (a1, M)) else (if 0 ≤ a2 ∧ a2 < 8 then (bd (m_X6_isFoggy n M (rd M 142 (Int.toNat a2))) (fun r5 M4 => if I32 r5 then (if r5 = 0 then (m_X6_wet_33 n (m_X6_wet_4 n t) M4 a2 0 a1) else (m_X6_wet_33 n (m_X6_wet_4 n t) M4 a2 (bShl 1 a2) a1)) else none)) else none)) else none
theorem t_X6_wet_4 (n : Nat) : ∀ (t : Nat) (M : Mem) (a1 : Int) (a2 : Int), Y RX6 cX6_wet 3 5 0 none 4 [some (rv 137), some (iv a1), some (iv a2)] [] M (m_X6_wet_4 n t M a1 a2) := by
  intro t
  induction t with
  | zero => intro M a1 a2; exact y_none
  | succ t ih =>
    intro M a1 a2
    rewrite [m_X6_wet_4]
    refine y_iload_n (pc := 4) dX6_wet_4 rfl ?_
    refine y_aload_n (pc := 5) dX6_wet_5 rfl ?_
    refine y_getint (pc := 6) g_X6_86 dX6_wet_6 ?_
    refine y_gd (fun h1 => ?_)
    refine y_icmp_ge (off := 32) (tgt := 41) (pc := 9) dX6_wet_9 (by decide) h1 (rd_rng _ _ _) (fun h2 => ?_) (fun h2 => ?_)
    · refine y_iload_n (pc := 41) dX6_wet_41 rfl ?_
      exact y_iret (pc := 42) dX6_wet_42
    · refine y_iload_n (pc := 12) dX6_wet_12 rfl ?_
      refine y_aload_n (pc := 13) dX6_wet_13 rfl ?_
      refine y_aload_n (pc := 14) dX6_wet_14 rfl ?_
      refine y_getref (pc := 15) (x := 142) g_X6_25 dX6_wet_15 ?_
      refine y_iload_n (pc := 18) dX6_wet_18 rfl ?_
      refine y_gd (fun h3 => ?_)
      refine y_iald (pc := 19) dX6_wet_19 ar_142 h3 ?_
      refine y_callVi (pc := 20) v_X6_isFoggy l_X6_127 dX6_wet_20 (c_X6_isFoggy n _ _) rfl rc_X6 rfl (by decide) (by decide) (Nat.le_of_ble_eq_true rfl) (fun r5 M4 _ => ?_)
      refine y_gd (fun h6 => ?_)
      refine y_if_eq (off := 9) (tgt := 32) (pc := 23) dX6_wet_23 (by decide) h6 (fun h7 => ?_) (fun h7 => ?_)
      · refine y_iconst (pc := 32) dX6_wet_32 ?_
        exact y_sub (ls_s (ls_n (ls_s ls_0))) (t_X6_wet_33 n (m_X6_wet_4 n t) ih M4 a2 0 a1)
      · refine y_iconst (pc := 26) dX6_wet_26 ?_
        refine y_iload_n (pc := 27) dX6_wet_27 rfl ?_
        refine y_ishl (pc := 28) dX6_wet_28 ?_
        refine y_goto (tgt := 33) (pc := 29) dX6_wet_29 (by decide) ?_
        exact y_sub (ls_s (ls_n (ls_s ls_0))) (t_X6_wet_33 n (m_X6_wet_4 n t) ih M4 a2 (bShl 1 a2) a1)
def m_X6_wet (n : Nat) (M : Mem) : Rs := m_X6_wet_4 n n M 0 0
theorem y_X6_wet (n : Nat) (M : Mem) : Y RX6 cX6_wet 3 5 0 none 0 [some (rv 137), none, none] [] M (m_X6_wet n M) := by
  unfold m_X6_wet
  refine y_iconst (pc := 0) dX6_wet_0 ?_
  refine y_istore_n (L' := [some (rv 137), some (iv 0), none]) (pc := 1) dX6_wet_1 (by decide) rfl rfl ?_
  refine y_iconst (pc := 2) dX6_wet_2 ?_
  refine y_istore_n (L' := [some (rv 137), some (iv 0), some (iv 0)]) (pc := 3) dX6_wet_3 (by decide) rfl rfl ?_
  exact y_sub (ls_s (ls_s (ls_s ls_0))) (t_X6_wet_4 n n M 0 0)
theorem c_X6_wet (n : Nat) (M : Mem) : ∀ res : Int × Mem, m_X6_wet n M = some res → CTi yX6_wet cX6_wet 3 (some .int) 5 [rv 137] M res := CTi_of (by decide +kernel) rfl (Nat.le_of_ble_eq_true rfl) rfl (y_X6_wet n M)
def m_X6_crowd_58 (n : Nat) (k14 : Mem → Int → Int → Rs) (M : Mem) (a2 : Int) (s0 : Int) : Rs := k14 M s0 (a2 + 1)
theorem t_X6_crowd_58 (n : Nat) (k14 : Mem → Int → Int → Rs) (hk14 : ∀ (M : Mem) (a1 : Int) (a2 : Int), Y RX6 cX6_crowd 3 1 0 none 14 [some (rv 137), some (iv a1), some (iv a2)] [] M (k14 M a1 a2)) (M : Mem) (a2 : Int) (s0 : Int) : Y RX6 cX6_crowd 3 1 0 none 58 [some (rv 137), none, some (iv a2)] [iv s0] M (m_X6_crowd_58 n k14 M a2 s0) := by
  unfold m_X6_crowd_58
  refine y_istore_n (L' := [some (rv 137), some (iv s0), some (iv a2)]) (pc := 58) dX6_crowd_58 (by decide) rfl rfl ?_
  refine y_iinc (L' := [some (rv 137), some (iv s0), some (iv (a2 + 1))]) (pc := 59) dX6_crowd_59 rfl (by decide) rfl rfl ?_
  refine y_goto (tgt := 14) (pc := 62) dX6_crowd_62 (by decide) ?_
  exact y_sub (ls_s (ls_s (ls_s ls_0))) (hk14 M s0 (a2 + 1))
def m_X6_crowd_14 (n : Nat) : Nat → Mem → Int → Int → Rs
  | 0, _, _, _ => none
  | t + 1, M, a1, a2 => if I32 a2 then (if 24 ≤ a2 then (some (a1, M)) else (bd (m_X6_setAt n M 147 (rd M 137 12) a2) (fun r4 M3 => bd (m_X6_bits n M3 r4) (fun r6 M5 => bd (m_X6_setAt n M5 147 (rd M5 137 12) a1) (fun r8 M7 => bd (m_X6_bits n M7 r8) (fun r10 M9 => if I32 r6 then (if I32 r10 then (if r6 ≤ r10 then (m_X6_crowd_58 n (m_X6_crowd_14 n t) M9 a2 a1) else (m_X6_crowd_58 n (m_X6_crowd_14 n t) M9 a2 a2)) else none) else none)))))) else none
theorem t_X6_crowd_14 (n : Nat) : ∀ (t : Nat) (M : Mem) (a1 : Int) (a2 : Int), Y RX6 cX6_crowd 3 1 0 none 14 [some (rv 137), some (iv a1), some (iv a2)] [] M (m_X6_crowd_14 n t M a1 a2) := by
  intro t
  induction t with
  | zero => intro M a1 a2; exact y_none
  | succ t ih =>
    intro M a1 a2
    rewrite [m_X6_crowd_14]
    refine y_iload_n (pc := 14) dX6_crowd_14 rfl ?_
    refine y_bipush (pc := 15) dX6_crowd_15 (by decide) ?_
    refine y_gd (fun h1 => ?_)
    refine y_icmp_ge (off := 48) (tgt := 65) (pc := 17) dX6_crowd_17 (by decide) h1 (by decide) (fun h2 => ?_) (fun h2 => ?_)
    · refine y_iload_n (pc := 65) dX6_crowd_65 rfl ?_
      exact y_iret (pc := 66) dX6_crowd_66
    · refine y_aload_n (pc := 20) dX6_crowd_20 rfl ?_
      refine y_getref (pc := 21) (x := 147) g_X6_40 dX6_crowd_21 ?_
      refine y_aload_n (pc := 24) dX6_crowd_24 rfl ?_
      refine y_getint (pc := 25) g_X6_89 dX6_crowd_25 ?_
      refine y_iload_n (pc := 28) dX6_crowd_28 rfl ?_
      refine y_callSi (pc := 29) s_X6_setAt l_X6_270 dX6_crowd_29 (c_X6_setAt n _ _ _ _) rfl rfl (by decide) (by decide) (Nat.le_of_ble_eq_true rfl) (fun r4 M3 _ => ?_)
      refine y_callSi (pc := 32) s_X6_bits l_X6_298 dX6_crowd_32 (c_X6_bits n _ _) rfl rfl (by decide) (by decide) (Nat.le_of_ble_eq_true rfl) (fun r6 M5 _ => ?_)
      refine y_aload_n (pc := 35) dX6_crowd_35 rfl ?_
      refine y_getref (pc := 36) (x := 147) g_X6_40 dX6_crowd_36 ?_
      refine y_aload_n (pc := 39) dX6_crowd_39 rfl ?_
      refine y_getint (pc := 40) g_X6_89 dX6_crowd_40 ?_
      refine y_iload_n (pc := 43) dX6_crowd_43 rfl ?_
      refine y_callSi (pc := 44) s_X6_setAt l_X6_270 dX6_crowd_44 (c_X6_setAt n _ _ _ _) rfl rfl (by decide) (by decide) (Nat.le_of_ble_eq_true rfl) (fun r8 M7 _ => ?_)
      refine y_callSi (pc := 47) s_X6_bits l_X6_298 dX6_crowd_47 (c_X6_bits n _ _) rfl rfl (by decide) (by decide) (Nat.le_of_ble_eq_true rfl) (fun r10 M9 _ => ?_)
      refine y_gd (fun h11 => ?_)
      refine y_gd (fun h12 => ?_)
      refine y_icmp_le (off := 7) (tgt := 57) (pc := 50) dX6_crowd_50 (by decide) h11 h12 (fun h13 => ?_) (fun h13 => ?_)
      · refine y_iload_n (pc := 57) dX6_crowd_57 rfl ?_
        exact y_sub (ls_s (ls_n (ls_s ls_0))) (t_X6_crowd_58 n (m_X6_crowd_14 n t) ih M9 a2 a1)
      · refine y_iload_n (pc := 53) dX6_crowd_53 rfl ?_
        refine y_goto (tgt := 58) (pc := 54) dX6_crowd_54 (by decide) ?_
        exact y_sub (ls_s (ls_n (ls_s ls_0))) (t_X6_crowd_58 n (m_X6_crowd_14 n t) ih M9 a2 a2)
def m_X6_crowd (n : Nat) (M : Mem) : Rs := if (rd M 137 12) = 0 then (some ((-9), M)) else (m_X6_crowd_14 n n M 0 1)
theorem y_X6_crowd (n : Nat) (M : Mem) : Y RX6 cX6_crowd 3 1 0 none 0 [some (rv 137), none, none] [] M (m_X6_crowd n M) := by
  unfold m_X6_crowd
  refine y_aload_n (pc := 0) dX6_crowd_0 rfl ?_
  refine y_getint (pc := 1) g_X6_89 dX6_crowd_1 ?_
  refine y_if_ne (off := 6) (tgt := 10) (pc := 4) dX6_crowd_4 (by decide) (rd_rng _ _ _) (fun h14 => ?_) (fun h14 => ?_)
  · refine y_iconst (pc := 10) dX6_crowd_10 ?_
    refine y_istore_n (L' := [some (rv 137), some (iv 0), none]) (pc := 11) dX6_crowd_11 (by decide) rfl rfl ?_
    refine y_iconst (pc := 12) dX6_crowd_12 ?_
    refine y_istore_n (L' := [some (rv 137), some (iv 0), some (iv 1)]) (pc := 13) dX6_crowd_13 (by decide) rfl rfl ?_
    exact y_sub (ls_s (ls_s (ls_s ls_0))) (t_X6_crowd_14 n n M 0 1)
  · refine y_bipush (pc := 7) dX6_crowd_7 (by decide) ?_
    exact y_iret (pc := 9) dX6_crowd_9
theorem c_X6_crowd (n : Nat) (M : Mem) : ∀ res : Int × Mem, m_X6_crowd n M = some res → CTi yX6_crowd cX6_crowd 3 (some .int) 1 [rv 137] M res := CTi_of (by decide +kernel) rfl (Nat.le_of_ble_eq_true rfl) rfl (y_X6_crowd n M)
def m_X6_alike_43 (n : Nat) (k16 : Mem → Int → Int → Int → Rs) (M : Mem) (a1 : Int) (a3 : Int) (s0 : Int) (s1 : Int) : Rs := k16 M a1 (s1 + s0) (a3 + 1)
theorem t_X6_alike_43 (n : Nat) (k16 : Mem → Int → Int → Int → Rs) (hk16 : ∀ (M : Mem) (a1 : Int) (a2 : Int) (a3 : Int), Y RX6 cX6_alike 4 7 0 none 16 [some (rv 137), some (iv a1), some (iv a2), some (iv a3)] [] M (k16 M a1 a2 a3)) (M : Mem) (a1 : Int) (a3 : Int) (s0 : Int) (s1 : Int) : Y RX6 cX6_alike 4 7 0 none 43 [some (rv 137), some (iv a1), none, some (iv a3)] [iv s0, iv s1] M (m_X6_alike_43 n k16 M a1 a3 s0 s1) := by
  unfold m_X6_alike_43
  refine y_iadd (pc := 43) dX6_alike_43 ?_
  refine y_istore_n (L' := [some (rv 137), some (iv a1), some (iv (s1 + s0)), some (iv a3)]) (pc := 44) dX6_alike_44 (by decide) rfl rfl ?_
  refine y_iinc (L' := [some (rv 137), some (iv a1), some (iv (s1 + s0)), some (iv (a3 + 1))]) (pc := 45) dX6_alike_45 rfl (by decide) rfl rfl ?_
  refine y_goto (tgt := 16) (pc := 48) dX6_alike_48 (by decide) ?_
  exact y_sub (ls_s (ls_s (ls_s (ls_s ls_0)))) (hk16 M a1 (s1 + s0) (a3 + 1))
def m_X6_alike_16 (n : Nat) : Nat → Mem → Int → Int → Int → Rs
  | 0, _, _, _, _ => none
  | t + 1, M, a1, a2, a3 => if I32 a3 then (if 60 ≤ a3 then (bd (m_X6_forgets n M) (fun _ M3 => some (a2, M3))) else (bd (m_X6_goesHour n M) (fun _ M4 => bd (m_X6_foggyCells n M4) (fun r6 M5 => bd (m_X6_bits n M5 r6) (fun r8 M7 => if I32 r8 then (if I32 a1 then (if r8 = a1 then (m_X6_alike_43 n (m_X6_alike_16 n t) M7 a1 a3 1 a2) else (m_X6_alike_43 n (m_X6_alike_16 n t) M7 a1 a3 0 a2)) else none) else none))))) else none
theorem t_X6_alike_16 (n : Nat) : ∀ (t : Nat) (M : Mem) (a1 : Int) (a2 : Int) (a3 : Int), Y RX6 cX6_alike 4 7 0 none 16 [some (rv 137), some (iv a1), some (iv a2), some (iv a3)] [] M (m_X6_alike_16 n t M a1 a2 a3) := by
  intro t
  induction t with
  | zero => intro M a1 a2 a3; exact y_none
  | succ t ih =>
    intro M a1 a2 a3
    rewrite [m_X6_alike_16]
    refine y_iload_n (pc := 16) dX6_alike_16 rfl ?_
    refine y_bipush (pc := 17) dX6_alike_17 (by decide) ?_
    refine y_gd (fun h1 => ?_)
    refine y_icmp_ge (off := 32) (tgt := 51) (pc := 19) dX6_alike_19 (by decide) h1 (by decide) (fun h2 => ?_) (fun h2 => ?_)
    · refine y_aload_n (pc := 51) dX6_alike_51 rfl ?_
      refine y_callVv (pc := 52) v_X6_forgets l_X6_283 dX6_alike_52 (c_X6_forgets n _) rfl rc_X6 rfl (by decide) (by decide) (Nat.le_of_ble_eq_true rfl) (fun _ M3 _ => ?_)
      refine y_iload_n (pc := 55) dX6_alike_55 rfl ?_
      exact y_iret (pc := 56) dX6_alike_56
    · refine y_aload_n (pc := 22) dX6_alike_22 rfl ?_
      refine y_callVv (pc := 23) v_X6_goesHour l_X6_162 dX6_alike_23 (c_X6_goesHour n _) rfl rc_X6 rfl (by decide) (by decide) (Nat.le_of_ble_eq_true rfl) (fun _ M4 _ => ?_)
      refine y_iload_n (pc := 26) dX6_alike_26 rfl ?_
      refine y_aload_n (pc := 27) dX6_alike_27 rfl ?_
      refine y_callVi (pc := 28) v_X6_foggyCells l_X6_286 dX6_alike_28 (c_X6_foggyCells n _) rfl rc_X6 rfl (by decide) (by decide) (Nat.le_of_ble_eq_true rfl) (fun r6 M5 _ => ?_)
      refine y_callSi (pc := 31) s_X6_bits l_X6_298 dX6_alike_31 (c_X6_bits n _ _) rfl rfl (by decide) (by decide) (Nat.le_of_ble_eq_true rfl) (fun r8 M7 _ => ?_)
      refine y_iload_n (pc := 34) dX6_alike_34 rfl ?_
      refine y_gd (fun h9 => ?_)
      refine y_gd (fun h10 => ?_)
      refine y_icmp_ne (off := 7) (tgt := 42) (pc := 35) dX6_alike_35 (by decide) h9 h10 (fun h11 => ?_) (fun h11 => ?_)
      · refine y_iconst (pc := 42) dX6_alike_42 ?_
        exact y_sub (ls_s (ls_s (ls_n (ls_s ls_0)))) (t_X6_alike_43 n (m_X6_alike_16 n t) ih M7 a1 a3 0 a2)
      · refine y_iconst (pc := 38) dX6_alike_38 ?_
        refine y_goto (tgt := 43) (pc := 39) dX6_alike_39 (by decide) ?_
        exact y_sub (ls_s (ls_s (ls_n (ls_s ls_0)))) (t_X6_alike_43 n (m_X6_alike_16 n t) ih M7 a1 a3 1 a2)
def m_X6_alike (n : Nat) (M : Mem) : Rs := bd (m_X6_foggyCells n M) (fun r13 M12 => bd (m_X6_bits n M12 r13) (fun r15 M14 => bd (m_X6_minds n M14) (fun _ M16 => m_X6_alike_16 n n M16 r15 0 0)))
theorem y_X6_alike (n : Nat) (M : Mem) : Y RX6 cX6_alike 4 7 0 none 0 [some (rv 137), none, none, none] [] M (m_X6_alike n M) := by
  unfold m_X6_alike
  refine y_aload_n (pc := 0) dX6_alike_0 rfl ?_
  refine y_callVi (pc := 1) v_X6_foggyCells l_X6_286 dX6_alike_1 (c_X6_foggyCells n _) rfl rc_X6 rfl (by decide) (by decide) (Nat.le_of_ble_eq_true rfl) (fun r13 M12 _ => ?_)
  refine y_callSi (pc := 4) s_X6_bits l_X6_298 dX6_alike_4 (c_X6_bits n _ _) rfl rfl (by decide) (by decide) (Nat.le_of_ble_eq_true rfl) (fun r15 M14 _ => ?_)
  refine y_istore_n (L' := [some (rv 137), some (iv r15), none, none]) (pc := 7) dX6_alike_7 (by decide) rfl rfl ?_
  refine y_iconst (pc := 8) dX6_alike_8 ?_
  refine y_istore_n (L' := [some (rv 137), some (iv r15), some (iv 0), none]) (pc := 9) dX6_alike_9 (by decide) rfl rfl ?_
  refine y_aload_n (pc := 10) dX6_alike_10 rfl ?_
  refine y_callVv (pc := 11) v_X6_minds l_X6_280 dX6_alike_11 (c_X6_minds n _) rfl rc_X6 rfl (by decide) (by decide) (Nat.le_of_ble_eq_true rfl) (fun _ M16 _ => ?_)
  refine y_iconst (pc := 14) dX6_alike_14 ?_
  refine y_istore_n (L' := [some (rv 137), some (iv r15), some (iv 0), some (iv 0)]) (pc := 15) dX6_alike_15 (by decide) rfl rfl ?_
  exact y_sub (ls_s (ls_s (ls_s (ls_s ls_0)))) (t_X6_alike_16 n n M16 r15 0 0)
theorem c_X6_alike (n : Nat) (M : Mem) : ∀ res : Int × Mem, m_X6_alike n M = some res → CTi yX6_alike cX6_alike 4 (some .int) 7 [rv 137] M res := CTi_of (by decide +kernel) rfl (Nat.le_of_ble_eq_true rfl) rfl (y_X6_alike n M)
def m_X6_sight (n : Nat) (M : Mem) (a1 : Int) : Rs := if I32 a1 then (if a1 = 0 then (bd (m_X6_richest n M) (fun r4 M3 => some (r4, M3))) else (if a1 = 1 then (bd (m_X6_dropped n M) (fun r7 M6 => some (r7, M6))) else (if a1 = 2 then (bd (m_X6_wet n M) (fun r10 M9 => some (r10, M9))) else (if a1 = 3 then (bd (m_X6_crowd n M) (fun r13 M12 => some (r13, M12))) else (if a1 = 4 then (bd (m_X6_alike n M) (fun r16 M15 => some (r16, M15))) else (bd (m_X6_no n M (-2)) (fun r18 M17 => some (r18, M17)))))))) else none
theorem y_X6_sight (n : Nat) (M : Mem) (a1 : Int) : Y RX6 cX6_sight 2 8 0 none 0 [some (rv 137), some (iv a1)] [] M (m_X6_sight n M a1) := by
  unfold m_X6_sight
  refine y_iload_n (pc := 0) dX6_sight_0 rfl ?_
  refine y_gd (fun h1 => ?_)
  refine y_br (fun h2 => ?_) (fun h2 => ?_)
  · refine y_tableIn (off := 35) (tgt := 36) (pc := 1) dX6_sight_1 h2 (by decide) (by decide) (by decide) rfl (by decide) ?_
    refine y_aload_n (pc := 36) dX6_sight_36 rfl ?_
    refine y_callVi (pc := 37) v_X6_richest l_X6_345 dX6_sight_37 (c_X6_richest n _) rfl rc_X6 rfl (by decide) (by decide) (Nat.le_of_ble_eq_true rfl) (fun r4 M3 _ => ?_)
    exact y_iret (pc := 40) dX6_sight_40
  · refine y_br (fun h5 => ?_) (fun h5 => ?_)
    · refine y_tableIn (off := 40) (tgt := 41) (pc := 1) dX6_sight_1 h5 (by decide) (by decide) (by decide) rfl (by decide) ?_
      refine y_aload_n (pc := 41) dX6_sight_41 rfl ?_
      refine y_callVi (pc := 42) v_X6_dropped l_X6_289 dX6_sight_42 (c_X6_dropped n _) rfl rc_X6 rfl (by decide) (by decide) (Nat.le_of_ble_eq_true rfl) (fun r7 M6 _ => ?_)
      exact y_iret (pc := 45) dX6_sight_45
    · refine y_br (fun h8 => ?_) (fun h8 => ?_)
      · refine y_tableIn (off := 45) (tgt := 46) (pc := 1) dX6_sight_1 h8 (by decide) (by decide) (by decide) rfl (by decide) ?_
        refine y_aload_n (pc := 46) dX6_sight_46 rfl ?_
        refine y_callVi (pc := 47) v_X6_wet l_X6_348 dX6_sight_47 (c_X6_wet n _) rfl rc_X6 rfl (by decide) (by decide) (Nat.le_of_ble_eq_true rfl) (fun r10 M9 _ => ?_)
        exact y_iret (pc := 50) dX6_sight_50
      · refine y_br (fun h11 => ?_) (fun h11 => ?_)
        · refine y_tableIn (off := 50) (tgt := 51) (pc := 1) dX6_sight_1 h11 (by decide) (by decide) (by decide) rfl (by decide) ?_
          refine y_aload_n (pc := 51) dX6_sight_51 rfl ?_
          refine y_callVi (pc := 52) v_X6_crowd l_X6_351 dX6_sight_52 (c_X6_crowd n _) rfl rc_X6 rfl (by decide) (by decide) (Nat.le_of_ble_eq_true rfl) (fun r13 M12 _ => ?_)
          exact y_iret (pc := 55) dX6_sight_55
        · refine y_br (fun h14 => ?_) (fun h14 => ?_)
          · refine y_tableIn (off := 55) (tgt := 56) (pc := 1) dX6_sight_1 h14 (by decide) (by decide) (by decide) rfl (by decide) ?_
            refine y_aload_n (pc := 56) dX6_sight_56 rfl ?_
            refine y_callVi (pc := 57) v_X6_alike l_X6_354 dX6_sight_57 (c_X6_alike n _) rfl rc_X6 rfl (by decide) (by decide) (Nat.le_of_ble_eq_true rfl) (fun r16 M15 _ => ?_)
            exact y_iret (pc := 60) dX6_sight_60
          · refine y_tableOut (tgt := 61) (pc := 1) dX6_sight_1 h1 (by omega) (by decide) ?_
            refine y_aload_n (pc := 61) dX6_sight_61 rfl ?_
            refine y_bipush (pc := 62) dX6_sight_62 (by decide) ?_
            refine y_callVi (pc := 64) v_X6_no l_X6_172 dX6_sight_64 (c_X6_no n _ _) rfl rc_X6 rfl (by decide) (by decide) (Nat.le_of_ble_eq_true rfl) (fun r18 M17 _ => ?_)
            exact y_iret (pc := 67) dX6_sight_67
theorem c_X6_sight (n : Nat) (M : Mem) (a1 : Int) : ∀ res : Int × Mem, m_X6_sight n M a1 = some res → CTi yX6_sight cX6_sight 2 (some .int) 8 [rv 137, iv a1] M res := CTi_of (by decide +kernel) rfl (Nat.le_of_ble_eq_true rfl) rfl (y_X6_sight n M a1)
def m_X6_kinds (n : Nat) (M : Mem) (a1 : Int) : Rs := bd (m_X6_isIn n M a1 0 7) (fun r2 M1 => if I32 r2 then (if r2 = 0 then (bd (m_X6_no n M1 (-2)) (fun r6 M5 => some (r6, M5))) else (bd (m_X6_setAt n M1 144 (rd M1 137 12) a1) (fun r8 M7 => bd (m_X6_bits n M7 r8) (fun r10 M9 => some (r10, M9))))) else none)
theorem y_X6_kinds (n : Nat) (M : Mem) (a1 : Int) : Y RX6 cX6_kinds 2 1 0 none 0 [some (rv 137), some (iv a1)] [] M (m_X6_kinds n M a1) := by
  unfold m_X6_kinds
  refine y_iload_n (pc := 0) dX6_kinds_0 rfl ?_
  refine y_iconst (pc := 1) dX6_kinds_1 ?_
  refine y_bipush (pc := 2) dX6_kinds_2 (by decide) ?_
  refine y_callSi (pc := 4) s_X6_isIn l_X6_82 dX6_kinds_4 (c_X6_isIn n _ _ _ _) rfl rfl (by decide) (by decide) (Nat.le_of_ble_eq_true rfl) (fun r2 M1 _ => ?_)
  refine y_gd (fun h3 => ?_)
  refine y_if_eq (off := 21) (tgt := 28) (pc := 7) dX6_kinds_7 (by decide) h3 (fun h4 => ?_) (fun h4 => ?_)
  · refine y_aload_n (pc := 28) dX6_kinds_28 rfl ?_
    refine y_bipush (pc := 29) dX6_kinds_29 (by decide) ?_
    refine y_callVi (pc := 31) v_X6_no l_X6_172 dX6_kinds_31 (c_X6_no n _ _) rfl rc_X6 rfl (by decide) (by decide) (Nat.le_of_ble_eq_true rfl) (fun r6 M5 _ => ?_)
    exact y_iret (pc := 34) dX6_kinds_34
  · refine y_aload_n (pc := 10) dX6_kinds_10 rfl ?_
    refine y_getref (pc := 11) (x := 144) g_X6_31 dX6_kinds_11 ?_
    refine y_aload_n (pc := 14) dX6_kinds_14 rfl ?_
    refine y_getint (pc := 15) g_X6_89 dX6_kinds_15 ?_
    refine y_iload_n (pc := 18) dX6_kinds_18 rfl ?_
    refine y_callSi (pc := 19) s_X6_setAt l_X6_270 dX6_kinds_19 (c_X6_setAt n _ _ _ _) rfl rfl (by decide) (by decide) (Nat.le_of_ble_eq_true rfl) (fun r8 M7 _ => ?_)
    refine y_callSi (pc := 22) s_X6_bits l_X6_298 dX6_kinds_22 (c_X6_bits n _ _) rfl rfl (by decide) (by decide) (Nat.le_of_ble_eq_true rfl) (fun r10 M9 _ => ?_)
    refine y_goto (tgt := 34) (pc := 25) dX6_kinds_25 (by decide) ?_
    exact y_iret (pc := 34) dX6_kinds_34
theorem c_X6_kinds (n : Nat) (M : Mem) (a1 : Int) : ∀ res : Int × Mem, m_X6_kinds n M a1 = some res → CTi yX6_kinds cX6_kinds 2 (some .int) 1 [rv 137, iv a1] M res := CTi_of (by decide +kernel) rfl (Nat.le_of_ble_eq_true rfl) rfl (y_X6_kinds n M a1)
def m_X6_row_24 (n : Nat) (M : Mem) (a1 : Int) (a2 : Int) : Rs := if I32 a2 then (if a2 = 0 then (if 0 ≤ (rd M 137 31) ∧ (rd M 137 31) < 12 then (wr M 156 (Int.toNat (rd M 137 31)) a1 (fun M4 => wr M4 137 31 ((rd M4 137 31) + 1) (fun M5 => some ((rd M5 137 31), M5)))) else none) else (bd (m_X6_no n M a2) (fun r7 M6 => some (r7, M6)))) else none
theorem t_X6_row_24 (n : Nat) (M : Mem) (a1 : Int) (a2 : Int) : Y RX6 cX6_row 3 1 0 none 24 [some (rv 137), some (iv a1), some (iv a2)] [] M (m_X6_row_24 n M a1 a2) := by
  unfold m_X6_row_24
  refine y_iload_n (pc := 24) dX6_row_24 rfl ?_
  refine y_gd (fun h1 => ?_)
  refine y_if_eq (off := 9) (tgt := 34) (pc := 25) dX6_row_25 (by decide) h1 (fun h2 => ?_) (fun h2 => ?_)
  · refine y_aload_n (pc := 34) dX6_row_34 rfl ?_
    refine y_getref (pc := 35) (x := 156) g_X6_68 dX6_row_35 ?_
    refine y_aload_n (pc := 38) dX6_row_38 rfl ?_
    refine y_getint (pc := 39) g_X6_305 dX6_row_39 ?_
    refine y_iload_n (pc := 42) dX6_row_42 rfl ?_
    refine y_gd (fun h3 => ?_)
    refine y_iastw (pc := 43) dX6_row_43 ar_156 h3 (fun M4 => ?_)
    refine y_aload_n (pc := 44) dX6_row_44 rfl ?_
    refine y_dup (pc := 45) dX6_row_45 rfl ?_
    refine y_getint (pc := 46) g_X6_305 dX6_row_46 ?_
    refine y_iconst (pc := 49) dX6_row_49 ?_
    refine y_iadd (pc := 50) dX6_row_50 ?_
    refine y_putintw (pc := 51) pf_X6_305 dX6_row_51 (fun M5 => ?_)
    refine y_aload_n (pc := 54) dX6_row_54 rfl ?_
    refine y_getint (pc := 55) g_X6_305 dX6_row_55 ?_
    exact y_iret (pc := 58) dX6_row_58
  · refine y_aload_n (pc := 28) dX6_row_28 rfl ?_
    refine y_iload_n (pc := 29) dX6_row_29 rfl ?_
    refine y_callVi (pc := 30) v_X6_no l_X6_172 dX6_row_30 (c_X6_no n _ _) rfl rc_X6 rfl (by decide) (by decide) (Nat.le_of_ble_eq_true rfl) (fun r7 M6 _ => ?_)
    exact y_iret (pc := 33) dX6_row_33
def m_X6_row (n : Nat) (M : Mem) (a1 : Int) : Rs := bd (m_X6_bound n M a1 0 99) (fun r9 M8 => if I32 r9 then (if r9 = 0 then (if (rd M8 137 31) = 12 then (m_X6_row_24 n M8 a1 (-6)) else (m_X6_row_24 n M8 a1 r9)) else (m_X6_row_24 n M8 a1 r9)) else none)
theorem y_X6_row (n : Nat) (M : Mem) (a1 : Int) : Y RX6 cX6_row 3 1 0 none 0 [some (rv 137), some (iv a1), none] [] M (m_X6_row n M a1) := by
  unfold m_X6_row
  refine y_iload_n (pc := 0) dX6_row_0 rfl ?_
  refine y_iconst (pc := 1) dX6_row_1 ?_
  refine y_bipush (pc := 2) dX6_row_2 (by decide) ?_
  refine y_callSi (pc := 4) s_X6_bound l_X6_165 dX6_row_4 (c_X6_bound n _ _ _ _) rfl rfl (by decide) (by decide) (Nat.le_of_ble_eq_true rfl) (fun r9 M8 _ => ?_)
  refine y_istore_n (L' := [some (rv 137), some (iv a1), some (iv r9)]) (pc := 7) dX6_row_7 (by decide) rfl rfl ?_
  refine y_iload_n (pc := 8) dX6_row_8 rfl ?_
  refine y_gd (fun h10 => ?_)
  refine y_if_ne (off := 15) (tgt := 24) (pc := 9) dX6_row_9 (by decide) h10 (fun h11 => ?_) (fun h11 => ?_)
  · exact y_sub (ls_s (ls_s (ls_s ls_0))) (t_X6_row_24 n M8 a1 r9)
  · refine y_aload_n (pc := 12) dX6_row_12 rfl ?_
    refine y_getint (pc := 13) g_X6_305 dX6_row_13 ?_
    refine y_bipush (pc := 16) dX6_row_16 (by decide) ?_
    refine y_icmp_ne (off := 6) (tgt := 24) (pc := 18) dX6_row_18 (by decide) (rd_rng _ _ _) (by decide) (fun h12 => ?_) (fun h12 => ?_)
    · exact y_sub (ls_s (ls_s (ls_s ls_0))) (t_X6_row_24 n M8 a1 r9)
    · refine y_bipush (pc := 21) dX6_row_21 (by decide) ?_
      refine y_istore_n (L' := [some (rv 137), some (iv a1), some (iv (-6))]) (pc := 23) dX6_row_23 (by decide) rfl rfl ?_
      exact y_sub (ls_s (ls_s (ls_s ls_0))) (t_X6_row_24 n M8 a1 (-6))
theorem c_X6_row (n : Nat) (M : Mem) (a1 : Int) : ∀ res : Int × Mem, m_X6_row n M a1 = some res → CTi yX6_row cX6_row 3 (some .int) 1 [rv 137, iv a1] M res := CTi_of (by decide +kernel) rfl (Nat.le_of_ble_eq_true rfl) rfl (y_X6_row n M a1)
