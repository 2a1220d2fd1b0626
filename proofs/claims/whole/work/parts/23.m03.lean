def m_X4_addFront (n : Nat) (M : Mem) (a0 : Nat) (a1 : Int) (a2 : Int) (a3 : Int) : Rs := if isW a0 then (if I32 a2 then (if 9 < a2 then (some (0, M)) else (if I32 a3 then (if 9 < a3 then (some (0, M)) else (if (rd M a0 3) < 6 then (if 0 ≤ (rd M a0 3) ∧ (rd M a0 3) < 6 then (wr M (a0 + 1) (Int.toNat (rd M a0 3)) a1 (fun M7 => if 0 ≤ (rd M7 a0 3) ∧ (rd M7 a0 3) < 6 then (wr M7 (a0 + 2) (Int.toNat (rd M7 a0 3)) a2 (fun M9 => if 0 ≤ (rd M9 a0 3) ∧ (rd M9 a0 3) < 6 then (wr M9 (a0 + 3) (Int.toNat (rd M9 a0 3)) a3 (fun M11 => wr M11 a0 3 ((rd M11 a0 3) + 1) (fun M12 => some (1, M12)))) else none)) else none)) else none) else (some (0, M)))) else none)) else none) else none
theorem y_X4_addFront (n : Nat) (M : Mem) (a0 : Nat) (a1 : Int) (a2 : Int) (a3 : Int) : Y RX4 cX4_addFront 4 0 1 none 0 [some (rv a0), some (iv a1), some (iv a2), some (iv a3)] [] M (m_X4_addFront n M a0 a1 a2 a3) := by
  unfold m_X4_addFront
  refine y_gd (fun ha0 => ?_)
  refine y_iload_n (pc := 0) dX4_addFront_0 rfl ?_
  refine y_bipush (pc := 1) dX4_addFront_1 (by decide) ?_
  refine y_gd (fun h1 => ?_)
  refine y_icmp_gt (off := 18) (tgt := 21) (pc := 3) dX4_addFront_3 (by decide) h1 (by decide) (fun h2 => ?_) (fun h2 => ?_)
  · refine y_iconst (pc := 21) dX4_addFront_21 ?_
    exact y_zret (pc := 22) dX4_addFront_22 (by decide)
  · refine y_iload_n (pc := 6) dX4_addFront_6 rfl ?_
    refine y_bipush (pc := 7) dX4_addFront_7 (by decide) ?_
    refine y_gd (fun h3 => ?_)
    refine y_icmp_gt (off := 12) (tgt := 21) (pc := 9) dX4_addFront_9 (by decide) h3 (by decide) (fun h4 => ?_) (fun h4 => ?_)
    · refine y_iconst (pc := 21) dX4_addFront_21 ?_
      exact y_zret (pc := 22) dX4_addFront_22 (by decide)
    · refine y_aload_n (pc := 12) dX4_addFront_12 rfl ?_
      refine y_getint (pc := 13) (g_X4_21 ha0) dX4_addFront_13 ?_
      refine y_bipush (pc := 16) dX4_addFront_16 (by decide) ?_
      refine y_icmp_lt (off := 5) (tgt := 23) (pc := 18) dX4_addFront_18 (by decide) (rd_rng _ _ _) (by decide) (fun h5 => ?_) (fun h5 => ?_)
      · refine y_aload_n (pc := 23) dX4_addFront_23 rfl ?_
        refine y_getref (pc := 24) (x := (a0 + 1)) (g_X4_9 ha0) dX4_addFront_24 ?_
        refine y_aload_n (pc := 27) dX4_addFront_27 rfl ?_
        refine y_getint (pc := 28) (g_X4_21 ha0) dX4_addFront_28 ?_
        refine y_iload_n (pc := 31) dX4_addFront_31 rfl ?_
        refine y_gd (fun h6 => ?_)
        refine y_iastw (pc := 32) dX4_addFront_32 (ar_w1 ha0) h6 (fun M7 => ?_)
        refine y_aload_n (pc := 33) dX4_addFront_33 rfl ?_
        refine y_getref (pc := 34) (x := (a0 + 2)) (g_X4_15 ha0) dX4_addFront_34 ?_
        refine y_aload_n (pc := 37) dX4_addFront_37 rfl ?_
        refine y_getint (pc := 38) (g_X4_21 ha0) dX4_addFront_38 ?_
        refine y_iload_n (pc := 41) dX4_addFront_41 rfl ?_
        refine y_gd (fun h8 => ?_)
        refine y_iastw (pc := 42) dX4_addFront_42 (ar_w2 ha0) h8 (fun M9 => ?_)
        refine y_aload_n (pc := 43) dX4_addFront_43 rfl ?_
        refine y_getref (pc := 44) (x := (a0 + 3)) (g_X4_18 ha0) dX4_addFront_44 ?_
        refine y_aload_n (pc := 47) dX4_addFront_47 rfl ?_
        refine y_getint (pc := 48) (g_X4_21 ha0) dX4_addFront_48 ?_
        refine y_iload_n (pc := 51) dX4_addFront_51 rfl ?_
        refine y_gd (fun h10 => ?_)
        refine y_iastw (pc := 52) dX4_addFront_52 (ar_w3 ha0) h10 (fun M11 => ?_)
        refine y_aload_n (pc := 53) dX4_addFront_53 rfl ?_
        refine y_dup (pc := 54) dX4_addFront_54 rfl ?_
        refine y_getint (pc := 55) (g_X4_21 ha0) dX4_addFront_55 ?_
        refine y_iconst (pc := 58) dX4_addFront_58 ?_
        refine y_iadd (pc := 59) dX4_addFront_59 ?_
        refine y_putintw (pc := 60) (pf_X4_21 ha0) dX4_addFront_60 (fun M12 => ?_)
        refine y_iconst (pc := 63) dX4_addFront_63 ?_
        exact y_zret (pc := 64) dX4_addFront_64 (by decide)
      · refine y_iconst (pc := 21) dX4_addFront_21 ?_
        exact y_zret (pc := 22) dX4_addFront_22 (by decide)
theorem c_X4_addFront (n : Nat) (M : Mem) (a0 : Nat) (a1 : Int) (a2 : Int) (a3 : Int) : ∀ res : Int × Mem, m_X4_addFront n M a0 a1 a2 a3 = some res → CTi yX4_addFront cX4_addFront 4 (some .boolean) 0 [rv a0, iv a1, iv a2, iv a3] M res := CTz_of (by decide +kernel) rfl (Nat.le_of_ble_eq_true rfl) rfl (y_X4_addFront n M a0 a1 a2 a3)
def m_X5_isCell (n : Nat) (M : Mem) (a0 : Int) : Rs := if I32 a0 then (if a0 < 0 then (some (0, M)) else (if 24 ≤ a0 then (some (0, M)) else (some (1, M)))) else none
theorem y_X5_isCell (n : Nat) (M : Mem) (a0 : Int) : Y RX5 cX5_isCell 1 0 1 none 0 [some (iv a0)] [] M (m_X5_isCell n M a0) := by
  unfold m_X5_isCell
  refine y_iload_n (pc := 0) dX5_isCell_0 rfl ?_
  refine y_gd (fun h1 => ?_)
  refine y_if_lt (off := 13) (tgt := 14) (pc := 1) dX5_isCell_1 (by decide) h1 (fun h2 => ?_) (fun h2 => ?_)
  · refine y_iconst (pc := 14) dX5_isCell_14 ?_
    exact y_zret (pc := 15) dX5_isCell_15 (by decide)
  · refine y_iload_n (pc := 4) dX5_isCell_4 rfl ?_
    refine y_bipush (pc := 5) dX5_isCell_5 (by decide) ?_
    refine y_icmp_ge (off := 7) (tgt := 14) (pc := 7) dX5_isCell_7 (by decide) h1 (by decide) (fun h3 => ?_) (fun h3 => ?_)
    · refine y_iconst (pc := 14) dX5_isCell_14 ?_
      exact y_zret (pc := 15) dX5_isCell_15 (by decide)
    · refine y_iconst (pc := 10) dX5_isCell_10 ?_
      refine y_goto (tgt := 15) (pc := 11) dX5_isCell_11 (by decide) ?_
      exact y_zret (pc := 15) dX5_isCell_15 (by decide)
theorem c_X5_isCell (n : Nat) (M : Mem) (a0 : Int) : ∀ res : Int × Mem, m_X5_isCell n M a0 = some res → CTi yX5_isCell cX5_isCell 1 (some .boolean) 0 [iv a0] M res := CTz_of (by decide +kernel) rfl (Nat.le_of_ble_eq_true rfl) rfl (y_X5_isCell n M a0)
def m_X4_addPerson (n : Nat) (M : Mem) (a0 : Nat) (a1 : Int) (a2 : Int) (a3 : Int) : Rs := if isW a0 then (bd (m_X5_isCell n M a3) (fun r2 M1 => if I32 r2 then (if r2 = 0 then (some (0, M1)) else (if (rd M1 a0 12) < 5 then (if 0 ≤ (rd M1 a0 12) ∧ (rd M1 a0 12) < 5 then (wr M1 (a0 + 7) (Int.toNat (rd M1 a0 12)) a1 (fun M7 => if 0 ≤ (rd M7 a0 12) ∧ (rd M7 a0 12) < 5 then (wr M7 (a0 + 8) (Int.toNat (rd M7 a0 12)) a2 (fun M9 => if 0 ≤ (rd M9 a0 12) ∧ (rd M9 a0 12) < 5 then (wr M9 (a0 + 9) (Int.toNat (rd M9 a0 12)) a3 (fun M11 => if 0 ≤ (rd M11 a0 12) ∧ (rd M11 a0 12) < 5 then (wr M11 (a0 + 10) (Int.toNat (rd M11 a0 12)) a3 (fun M13 => wr M13 a0 12 ((rd M13 a0 12) + 1) (fun M14 => some (1, M14)))) else none)) else none)) else none)) else none) else (some (0, M1)))) else none)) else none
theorem y_X4_addPerson (n : Nat) (M : Mem) (a0 : Nat) (a1 : Int) (a2 : Int) (a3 : Int) : Y RX4 cX4_addPerson 4 1 1 none 0 [some (rv a0), some (iv a1), some (iv a2), some (iv a3)] [] M (m_X4_addPerson n M a0 a1 a2 a3) := by
  unfold m_X4_addPerson
  refine y_gd (fun ha0 => ?_)
  refine y_iload_n (pc := 0) dX4_addPerson_0 rfl ?_
  refine y_callNi (pc := 1) s_X5_isCell rfl dX4_addPerson_1 (c_X5_isCell n _ _) rfl rfl (by decide) (by decide) (Nat.le_of_ble_eq_true rfl) (fun r2 M1 _ => ?_)
  refine y_gd (fun h3 => ?_)
  refine y_if_eq (off := 11) (tgt := 15) (pc := 4) dX4_addPerson_4 (by decide) h3 (fun h4 => ?_) (fun h4 => ?_)
  · refine y_iconst (pc := 15) dX4_addPerson_15 ?_
    exact y_zret (pc := 16) dX4_addPerson_16 (by decide)
  · refine y_aload_n (pc := 7) dX4_addPerson_7 rfl ?_
    refine y_getint (pc := 8) (g_X4_49 ha0) dX4_addPerson_8 ?_
    refine y_iconst (pc := 11) dX4_addPerson_11 ?_
    refine y_icmp_lt (off := 5) (tgt := 17) (pc := 12) dX4_addPerson_12 (by decide) (rd_rng _ _ _) (by decide) (fun h5 => ?_) (fun h5 => ?_)
    · refine y_aload_n (pc := 17) dX4_addPerson_17 rfl ?_
      refine y_getref (pc := 18) (x := (a0 + 7)) (g_X4_37 ha0) dX4_addPerson_18 ?_
      refine y_aload_n (pc := 21) dX4_addPerson_21 rfl ?_
      refine y_getint (pc := 22) (g_X4_49 ha0) dX4_addPerson_22 ?_
      refine y_iload_n (pc := 25) dX4_addPerson_25 rfl ?_
      refine y_gd (fun h6 => ?_)
      refine y_iastw (pc := 26) dX4_addPerson_26 (ar_w7 ha0) h6 (fun M7 => ?_)
      refine y_aload_n (pc := 27) dX4_addPerson_27 rfl ?_
      refine y_getref (pc := 28) (x := (a0 + 8)) (g_X4_40 ha0) dX4_addPerson_28 ?_
      refine y_aload_n (pc := 31) dX4_addPerson_31 rfl ?_
      refine y_getint (pc := 32) (g_X4_49 ha0) dX4_addPerson_32 ?_
      refine y_iload_n (pc := 35) dX4_addPerson_35 rfl ?_
      refine y_gd (fun h8 => ?_)
      refine y_iastw (pc := 36) dX4_addPerson_36 (ar_w8 ha0) h8 (fun M9 => ?_)
      refine y_aload_n (pc := 37) dX4_addPerson_37 rfl ?_
      refine y_getref (pc := 38) (x := (a0 + 9)) (g_X4_43 ha0) dX4_addPerson_38 ?_
      refine y_aload_n (pc := 41) dX4_addPerson_41 rfl ?_
      refine y_getint (pc := 42) (g_X4_49 ha0) dX4_addPerson_42 ?_
      refine y_iload_n (pc := 45) dX4_addPerson_45 rfl ?_
      refine y_gd (fun h10 => ?_)
      refine y_iastw (pc := 46) dX4_addPerson_46 (ar_w9 ha0) h10 (fun M11 => ?_)
      refine y_aload_n (pc := 47) dX4_addPerson_47 rfl ?_
      refine y_getref (pc := 48) (x := (a0 + 10)) (g_X4_46 ha0) dX4_addPerson_48 ?_
      refine y_aload_n (pc := 51) dX4_addPerson_51 rfl ?_
      refine y_getint (pc := 52) (g_X4_49 ha0) dX4_addPerson_52 ?_
      refine y_iload_n (pc := 55) dX4_addPerson_55 rfl ?_
      refine y_gd (fun h12 => ?_)
      refine y_iastw (pc := 56) dX4_addPerson_56 (ar_w10 ha0) h12 (fun M13 => ?_)
      refine y_aload_n (pc := 57) dX4_addPerson_57 rfl ?_
      refine y_dup (pc := 58) dX4_addPerson_58 rfl ?_
      refine y_getint (pc := 59) (g_X4_49 ha0) dX4_addPerson_59 ?_
      refine y_iconst (pc := 62) dX4_addPerson_62 ?_
      refine y_iadd (pc := 63) dX4_addPerson_63 ?_
      refine y_putintw (pc := 64) (pf_X4_49 ha0) dX4_addPerson_64 (fun M14 => ?_)
      refine y_iconst (pc := 67) dX4_addPerson_67 ?_
      exact y_zret (pc := 68) dX4_addPerson_68 (by decide)
    · refine y_iconst (pc := 15) dX4_addPerson_15 ?_
      exact y_zret (pc := 16) dX4_addPerson_16 (by decide)
theorem c_X4_addPerson (n : Nat) (M : Mem) (a0 : Nat) (a1 : Int) (a2 : Int) (a3 : Int) : ∀ res : Int × Mem, m_X4_addPerson n M a0 a1 a2 a3 = some res → CTi yX4_addPerson cX4_addPerson 4 (some .boolean) 1 [rv a0, iv a1, iv a2, iv a3] M res := CTz_of (by decide +kernel) rfl (Nat.le_of_ble_eq_true rfl) rfl (y_X4_addPerson n M a0 a1 a2 a3)
def m_X4_addThing (n : Nat) (M : Mem) (a0 : Nat) (a1 : Int) (a2 : Int) : Rs := if isW a0 then (bd (m_X5_isCell n M a2) (fun r2 M1 => if I32 r2 then (if r2 = 0 then (some (0, M1)) else (if (rd M1 a0 7) < 8 then (if 0 ≤ (rd M1 a0 7) ∧ (rd M1 a0 7) < 8 then (wr M1 (a0 + 4) (Int.toNat (rd M1 a0 7)) a1 (fun M7 => if 0 ≤ (rd M7 a0 7) ∧ (rd M7 a0 7) < 8 then (wr M7 (a0 + 5) (Int.toNat (rd M7 a0 7)) a2 (fun M9 => if 0 ≤ (rd M9 a0 7) ∧ (rd M9 a0 7) < 8 then (wr M9 (a0 + 6) (Int.toNat (rd M9 a0 7)) (-1) (fun M11 => wr M11 a0 7 ((rd M11 a0 7) + 1) (fun M12 => some (1, M12)))) else none)) else none)) else none) else (some (0, M1)))) else none)) else none
theorem y_X4_addThing (n : Nat) (M : Mem) (a0 : Nat) (a1 : Int) (a2 : Int) : Y RX4 cX4_addThing 3 1 1 none 0 [some (rv a0), some (iv a1), some (iv a2)] [] M (m_X4_addThing n M a0 a1 a2) := by
  unfold m_X4_addThing
  refine y_gd (fun ha0 => ?_)
  refine y_iload_n (pc := 0) dX4_addThing_0 rfl ?_
  refine y_callNi (pc := 1) s_X5_isCell rfl dX4_addThing_1 (c_X5_isCell n _ _) rfl rfl (by decide) (by decide) (Nat.le_of_ble_eq_true rfl) (fun r2 M1 _ => ?_)
  refine y_gd (fun h3 => ?_)
  refine y_if_eq (off := 12) (tgt := 16) (pc := 4) dX4_addThing_4 (by decide) h3 (fun h4 => ?_) (fun h4 => ?_)
  · refine y_iconst (pc := 16) dX4_addThing_16 ?_
    exact y_zret (pc := 17) dX4_addThing_17 (by decide)
  · refine y_aload_n (pc := 7) dX4_addThing_7 rfl ?_
    refine y_getint (pc := 8) (g_X4_34 ha0) dX4_addThing_8 ?_
    refine y_bipush (pc := 11) dX4_addThing_11 (by decide) ?_
    refine y_icmp_lt (off := 5) (tgt := 18) (pc := 13) dX4_addThing_13 (by decide) (rd_rng _ _ _) (by decide) (fun h5 => ?_) (fun h5 => ?_)
    · refine y_aload_n (pc := 18) dX4_addThing_18 rfl ?_
      refine y_getref (pc := 19) (x := (a0 + 4)) (g_X4_25 ha0) dX4_addThing_19 ?_
      refine y_aload_n (pc := 22) dX4_addThing_22 rfl ?_
      refine y_getint (pc := 23) (g_X4_34 ha0) dX4_addThing_23 ?_
      refine y_iload_n (pc := 26) dX4_addThing_26 rfl ?_
      refine y_gd (fun h6 => ?_)
      refine y_iastw (pc := 27) dX4_addThing_27 (ar_w4 ha0) h6 (fun M7 => ?_)
      refine y_aload_n (pc := 28) dX4_addThing_28 rfl ?_
      refine y_getref (pc := 29) (x := (a0 + 5)) (g_X4_28 ha0) dX4_addThing_29 ?_
      refine y_aload_n (pc := 32) dX4_addThing_32 rfl ?_
      refine y_getint (pc := 33) (g_X4_34 ha0) dX4_addThing_33 ?_
      refine y_iload_n (pc := 36) dX4_addThing_36 rfl ?_
      refine y_gd (fun h8 => ?_)
      refine y_iastw (pc := 37) dX4_addThing_37 (ar_w5 ha0) h8 (fun M9 => ?_)
      refine y_aload_n (pc := 38) dX4_addThing_38 rfl ?_
      refine y_getref (pc := 39) (x := (a0 + 6)) (g_X4_31 ha0) dX4_addThing_39 ?_
      refine y_aload_n (pc := 42) dX4_addThing_42 rfl ?_
      refine y_getint (pc := 43) (g_X4_34 ha0) dX4_addThing_43 ?_
      refine y_iconst (pc := 46) dX4_addThing_46 ?_
      refine y_gd (fun h10 => ?_)
      refine y_iastw (pc := 47) dX4_addThing_47 (ar_w6 ha0) h10 (fun M11 => ?_)
      refine y_aload_n (pc := 48) dX4_addThing_48 rfl ?_
      refine y_dup (pc := 49) dX4_addThing_49 rfl ?_
      refine y_getint (pc := 50) (g_X4_34 ha0) dX4_addThing_50 ?_
      refine y_iconst (pc := 53) dX4_addThing_53 ?_
      refine y_iadd (pc := 54) dX4_addThing_54 ?_
      refine y_putintw (pc := 55) (pf_X4_34 ha0) dX4_addThing_55 (fun M12 => ?_)
      refine y_iconst (pc := 58) dX4_addThing_58 ?_
      exact y_zret (pc := 59) dX4_addThing_59 (by decide)
    · refine y_iconst (pc := 16) dX4_addThing_16 ?_
      exact y_zret (pc := 17) dX4_addThing_17 (by decide)
theorem c_X4_addThing (n : Nat) (M : Mem) (a0 : Nat) (a1 : Int) (a2 : Int) : ∀ res : Int × Mem, m_X4_addThing n M a0 a1 a2 = some res → CTi yX4_addThing cX4_addThing 3 (some .boolean) 1 [rv a0, iv a1, iv a2] M res := CTz_of (by decide +kernel) rfl (Nat.le_of_ble_eq_true rfl) rfl (y_X4_addThing n M a0 a1 a2)
def m_X4_setOwner_23 (n : Nat) (M : Mem) (a0 : Nat) (a1 : Int) (a2 : Int) : Rs := if 0 ≤ a1 ∧ a1 < 8 then (wr M (a0 + 6) (Int.toNat a1) a2 (fun M2 => some (1, M2))) else none
theorem t_X4_setOwner_23 (n : Nat) (M : Mem) (a0 : Nat) (a1 : Int) (a2 : Int) (ha0 : isW a0) : Y RX4 cX4_setOwner 3 1 1 none 23 [some (rv a0), some (iv a1), some (iv a2)] [] M (m_X4_setOwner_23 n M a0 a1 a2) := by
  unfold m_X4_setOwner_23
  refine y_aload_n (pc := 23) dX4_setOwner_23 rfl ?_
  refine y_getref (pc := 24) (x := (a0 + 6)) (g_X4_31 ha0) dX4_setOwner_24 ?_
  refine y_iload_n (pc := 27) dX4_setOwner_27 rfl ?_
  refine y_iload_n (pc := 28) dX4_setOwner_28 rfl ?_
  refine y_gd (fun h1 => ?_)
  refine y_iastw (pc := 29) dX4_setOwner_29 (ar_w6 ha0) h1 (fun M2 => ?_)
  refine y_iconst (pc := 30) dX4_setOwner_30 ?_
  exact y_zret (pc := 31) dX4_setOwner_31 (by decide)
def m_X4_setOwner (n : Nat) (M : Mem) (a0 : Nat) (a1 : Int) (a2 : Int) : Rs := if isW a0 then (bd (m_X4_hasThing n M a0 a1) (fun r4 M3 => if I32 r4 then (if r4 = 0 then (some (0, M3)) else (if I32 a2 then (if a2 = (-1) then (m_X4_setOwner_23 n M3 a0 a1 a2) else (bd (m_X4_hasPerson n M3 a0 a2) (fun r10 M9 => if I32 r10 then (if r10 = 0 then (some (0, M9)) else (m_X4_setOwner_23 n M9 a0 a1 a2)) else none))) else none)) else none)) else none
theorem y_X4_setOwner (n : Nat) (M : Mem) (a0 : Nat) (a1 : Int) (a2 : Int) : Y RX4 cX4_setOwner 3 1 1 none 0 [some (rv a0), some (iv a1), some (iv a2)] [] M (m_X4_setOwner n M a0 a1 a2) := by
  unfold m_X4_setOwner
  refine y_gd (fun ha0 => ?_)
  refine y_aload_n (pc := 0) dX4_setOwner_0 rfl ?_
  refine y_iload_n (pc := 1) dX4_setOwner_1 rfl ?_
  refine y_callVi (pc := 2) v_X4_hasThing l_X4_68 dX4_setOwner_2 (c_X4_hasThing n _ _ _) rfl (rc_X4 ha0) rfl (by decide) (by decide) (Nat.le_of_ble_eq_true rfl) (fun r4 M3 _ => ?_)
  refine y_gd (fun h5 => ?_)
  refine y_if_eq (off := 16) (tgt := 21) (pc := 5) dX4_setOwner_5 (by decide) h5 (fun h6 => ?_) (fun h6 => ?_)
  · refine y_iconst (pc := 21) dX4_setOwner_21 ?_
    exact y_zret (pc := 22) dX4_setOwner_22 (by decide)
  · refine y_iload_n (pc := 8) dX4_setOwner_8 rfl ?_
    refine y_iconst (pc := 9) dX4_setOwner_9 ?_
    refine y_gd (fun h7 => ?_)
    refine y_icmp_eq (off := 13) (tgt := 23) (pc := 10) dX4_setOwner_10 (by decide) h7 (by decide) (fun h8 => ?_) (fun h8 => ?_)
    · exact y_sub (ls_s (ls_s (ls_s ls_0))) (t_X4_setOwner_23 n M3 a0 a1 a2 ha0)
    · refine y_aload_n (pc := 13) dX4_setOwner_13 rfl ?_
      refine y_iload_n (pc := 14) dX4_setOwner_14 rfl ?_
      refine y_callVi (pc := 15) v_X4_hasPerson l_X4_71 dX4_setOwner_15 (c_X4_hasPerson n _ _ _) rfl (rc_X4 ha0) rfl (by decide) (by decide) (Nat.le_of_ble_eq_true rfl) (fun r10 M9 _ => ?_)
      refine y_gd (fun h11 => ?_)
      refine y_if_ne (off := 5) (tgt := 23) (pc := 18) dX4_setOwner_18 (by decide) h11 (fun h12 => ?_) (fun h12 => ?_)
      · exact y_sub (ls_s (ls_s (ls_s ls_0))) (t_X4_setOwner_23 n M9 a0 a1 a2 ha0)
      · refine y_iconst (pc := 21) dX4_setOwner_21 ?_
        exact y_zret (pc := 22) dX4_setOwner_22 (by decide)
theorem c_X4_setOwner (n : Nat) (M : Mem) (a0 : Nat) (a1 : Int) (a2 : Int) : ∀ res : Int × Mem, m_X4_setOwner n M a0 a1 a2 = some res → CTi yX4_setOwner cX4_setOwner 3 (some .boolean) 1 [rv a0, iv a1, iv a2] M res := CTz_of (by decide +kernel) rfl (Nat.le_of_ble_eq_true rfl) rfl (y_X4_setOwner n M a0 a1 a2)
def m_X4_setPlace (n : Nat) (M : Mem) (a0 : Nat) (a1 : Int) (a2 : Int) : Rs := if isW a0 then (bd (m_X4_hasPerson n M a0 a1) (fun r2 M1 => if I32 r2 then (if r2 = 0 then (some (0, M1)) else (bd (m_X5_isCell n M1 a2) (fun r6 M5 => if I32 r6 then (if r6 = 0 then (some (0, M5)) else (if 0 ≤ a1 ∧ a1 < 5 then (wr M5 (a0 + 10) (Int.toNat a1) a2 (fun M10 => some (1, M10))) else none)) else none))) else none)) else none
theorem y_X4_setPlace (n : Nat) (M : Mem) (a0 : Nat) (a1 : Int) (a2 : Int) : Y RX4 cX4_setPlace 3 1 1 none 0 [some (rv a0), some (iv a1), some (iv a2)] [] M (m_X4_setPlace n M a0 a1 a2) := by
  unfold m_X4_setPlace
  refine y_gd (fun ha0 => ?_)
  refine y_aload_n (pc := 0) dX4_setPlace_0 rfl ?_
  refine y_iload_n (pc := 1) dX4_setPlace_1 rfl ?_
  refine y_callVi (pc := 2) v_X4_hasPerson l_X4_71 dX4_setPlace_2 (c_X4_hasPerson n _ _ _) rfl (rc_X4 ha0) rfl (by decide) (by decide) (Nat.le_of_ble_eq_true rfl) (fun r2 M1 _ => ?_)
  refine y_gd (fun h3 => ?_)
  refine y_if_eq (off := 10) (tgt := 15) (pc := 5) dX4_setPlace_5 (by decide) h3 (fun h4 => ?_) (fun h4 => ?_)
  · refine y_iconst (pc := 15) dX4_setPlace_15 ?_
    exact y_zret (pc := 16) dX4_setPlace_16 (by decide)
  · refine y_iload_n (pc := 8) dX4_setPlace_8 rfl ?_
    refine y_callNi (pc := 9) s_X5_isCell rfl dX4_setPlace_9 (c_X5_isCell n _ _) rfl rfl (by decide) (by decide) (Nat.le_of_ble_eq_true rfl) (fun r6 M5 _ => ?_)
    refine y_gd (fun h7 => ?_)
    refine y_if_ne (off := 5) (tgt := 17) (pc := 12) dX4_setPlace_12 (by decide) h7 (fun h8 => ?_) (fun h8 => ?_)
    · refine y_aload_n (pc := 17) dX4_setPlace_17 rfl ?_
      refine y_getref (pc := 18) (x := (a0 + 10)) (g_X4_46 ha0) dX4_setPlace_18 ?_
      refine y_iload_n (pc := 21) dX4_setPlace_21 rfl ?_
      refine y_iload_n (pc := 22) dX4_setPlace_22 rfl ?_
      refine y_gd (fun h9 => ?_)
      refine y_iastw (pc := 23) dX4_setPlace_23 (ar_w10 ha0) h9 (fun M10 => ?_)
      refine y_iconst (pc := 24) dX4_setPlace_24 ?_
      exact y_zret (pc := 25) dX4_setPlace_25 (by decide)
    · refine y_iconst (pc := 15) dX4_setPlace_15 ?_
      exact y_zret (pc := 16) dX4_setPlace_16 (by decide)
theorem c_X4_setPlace (n : Nat) (M : Mem) (a0 : Nat) (a1 : Int) (a2 : Int) : ∀ res : Int × Mem, m_X4_setPlace n M a0 a1 a2 = some res → CTi yX4_setPlace cX4_setPlace 3 (some .boolean) 1 [rv a0, iv a1, iv a2] M res := CTz_of (by decide +kernel) rfl (Nat.le_of_ble_eq_true rfl) rfl (y_X4_setPlace n M a0 a1 a2)
def m_X4_goHome (n : Nat) (M : Mem) (a0 : Nat) (a1 : Int) : Rs := if isW a0 then (bd (m_X4_hasPerson n M a0 a1) (fun r2 M1 => if I32 r2 then (if r2 = 0 then (some (0, M1)) else (if 0 ≤ a1 ∧ a1 < 5 then (wr M1 (a0 + 10) (Int.toNat a1) (rd M1 (a0 + 9) (Int.toNat a1)) (fun M6 => some (0, M6))) else none)) else none)) else none
theorem y_X4_goHome (n : Nat) (M : Mem) (a0 : Nat) (a1 : Int) : Y RX4 cX4_goHome 2 1 3 none 0 [some (rv a0), some (iv a1)] [] M (m_X4_goHome n M a0 a1) := by
  unfold m_X4_goHome
  refine y_gd (fun ha0 => ?_)
  refine y_aload_n (pc := 0) dX4_goHome_0 rfl ?_
  refine y_iload_n (pc := 1) dX4_goHome_1 rfl ?_
  refine y_callVi (pc := 2) v_X4_hasPerson l_X4_71 dX4_goHome_2 (c_X4_hasPerson n _ _ _) rfl (rc_X4 ha0) rfl (by decide) (by decide) (Nat.le_of_ble_eq_true rfl) (fun r2 M1 _ => ?_)
  refine y_gd (fun h3 => ?_)
  refine y_if_eq (off := 15) (tgt := 20) (pc := 5) dX4_goHome_5 (by decide) h3 (fun h4 => ?_) (fun h4 => ?_)
  · exact y_vret (pc := 20) dX4_goHome_20
  · refine y_aload_n (pc := 8) dX4_goHome_8 rfl ?_
    refine y_getref (pc := 9) (x := (a0 + 10)) (g_X4_46 ha0) dX4_goHome_9 ?_
    refine y_iload_n (pc := 12) dX4_goHome_12 rfl ?_
    refine y_aload_n (pc := 13) dX4_goHome_13 rfl ?_
    refine y_getref (pc := 14) (x := (a0 + 9)) (g_X4_43 ha0) dX4_goHome_14 ?_
    refine y_iload_n (pc := 17) dX4_goHome_17 rfl ?_
    refine y_gd (fun h5 => ?_)
    refine y_iald (pc := 18) dX4_goHome_18 (ar_w9 ha0) h5 ?_
    refine y_iastw (pc := 19) dX4_goHome_19 (ar_w10 ha0) h5 (fun M6 => ?_)
    exact y_vret (pc := 20) dX4_goHome_20
theorem c_X4_goHome (n : Nat) (M : Mem) (a0 : Nat) (a1 : Int) : ∀ res : Int × Mem, m_X4_goHome n M a0 a1 = some res → CTv yX4_goHome cX4_goHome 2 1 [rv a0, iv a1] M res := CTv_of (by decide +kernel) rfl (Nat.le_of_ble_eq_true rfl) rfl (y_X4_goHome n M a0 a1)
def m_X4_dropFront_13 (n : Nat) : Nat → Mem → Nat → Int → Rs
  | 0, _, _, _ => none
  | t + 1, M, a0, a2 => if I32 a2 then (if (rd M a0 3) ≤ a2 then (wr M a0 3 ((rd M a0 3) - 1) (fun M3 => some (0, M3))) else (if 0 ≤ a2 ∧ a2 < 6 then (if 0 ≤ (a2 - 1) ∧ (a2 - 1) < 6 then (wr M (a0 + 1) (Int.toNat (a2 - 1)) (rd M (a0 + 1) (Int.toNat a2)) (fun M6 => wr M6 (a0 + 2) (Int.toNat (a2 - 1)) (rd M6 (a0 + 2) (Int.toNat a2)) (fun M7 => wr M7 (a0 + 3) (Int.toNat (a2 - 1)) (rd M7 (a0 + 3) (Int.toNat a2)) (fun M8 => (m_X4_dropFront_13 n t) M8 a0 (a2 + 1))))) else none) else none)) else none
theorem t_X4_dropFront_13 (n : Nat) : ∀ (t : Nat) (M : Mem) (a0 : Nat) (a2 : Int), isW a0 → Y RX4 cX4_dropFront 3 1 3 none 13 [some (rv a0), none, some (iv a2)] [] M (m_X4_dropFront_13 n t M a0 a2) := by
  intro t
  induction t with
  | zero => intro M a0 a2 ha0; exact y_none
  | succ t ih =>
    intro M a0 a2 ha0
    rewrite [m_X4_dropFront_13]
    refine y_iload_n (pc := 13) dX4_dropFront_13 rfl ?_
    refine y_aload_n (pc := 14) dX4_dropFront_14 rfl ?_
    refine y_getint (pc := 15) (g_X4_21 ha0) dX4_dropFront_15 ?_
    refine y_gd (fun h1 => ?_)
    refine y_icmp_ge (off := 51) (tgt := 69) (pc := 18) dX4_dropFront_18 (by decide) h1 (rd_rng _ _ _) (fun h2 => ?_) (fun h2 => ?_)
    · refine y_aload_n (pc := 69) dX4_dropFront_69 rfl ?_
      refine y_dup (pc := 70) dX4_dropFront_70 rfl ?_
      refine y_getint (pc := 71) (g_X4_21 ha0) dX4_dropFront_71 ?_
      refine y_iconst (pc := 74) dX4_dropFront_74 ?_
      refine y_isub (pc := 75) dX4_dropFront_75 ?_
      refine y_putintw (pc := 76) (pf_X4_21 ha0) dX4_dropFront_76 (fun M3 => ?_)
      exact y_vret (pc := 79) dX4_dropFront_79
    · refine y_aload_n (pc := 21) dX4_dropFront_21 rfl ?_
      refine y_getref (pc := 22) (x := (a0 + 1)) (g_X4_9 ha0) dX4_dropFront_22 ?_
      refine y_iload_n (pc := 25) dX4_dropFront_25 rfl ?_
      refine y_iconst (pc := 26) dX4_dropFront_26 ?_
      refine y_isub (pc := 27) dX4_dropFront_27 ?_
      refine y_aload_n (pc := 28) dX4_dropFront_28 rfl ?_
      refine y_getref (pc := 29) (x := (a0 + 1)) (g_X4_9 ha0) dX4_dropFront_29 ?_
      refine y_iload_n (pc := 32) dX4_dropFront_32 rfl ?_
      refine y_gd (fun h4 => ?_)
      refine y_iald (pc := 33) dX4_dropFront_33 (ar_w1 ha0) h4 ?_
      refine y_gd (fun h5 => ?_)
      refine y_iastw (pc := 34) dX4_dropFront_34 (ar_w1 ha0) h5 (fun M6 => ?_)
      refine y_aload_n (pc := 35) dX4_dropFront_35 rfl ?_
      refine y_getref (pc := 36) (x := (a0 + 2)) (g_X4_15 ha0) dX4_dropFront_36 ?_
      refine y_iload_n (pc := 39) dX4_dropFront_39 rfl ?_
      refine y_iconst (pc := 40) dX4_dropFront_40 ?_
      refine y_isub (pc := 41) dX4_dropFront_41 ?_
      refine y_aload_n (pc := 42) dX4_dropFront_42 rfl ?_
      refine y_getref (pc := 43) (x := (a0 + 2)) (g_X4_15 ha0) dX4_dropFront_43 ?_
      refine y_iload_n (pc := 46) dX4_dropFront_46 rfl ?_
      refine y_iald (pc := 47) dX4_dropFront_47 (ar_w2 ha0) h4 ?_
      refine y_iastw (pc := 48) dX4_dropFront_48 (ar_w2 ha0) h5 (fun M7 => ?_)
      refine y_aload_n (pc := 49) dX4_dropFront_49 rfl ?_
      refine y_getref (pc := 50) (x := (a0 + 3)) (g_X4_18 ha0) dX4_dropFront_50 ?_
      refine y_iload_n (pc := 53) dX4_dropFront_53 rfl ?_
      refine y_iconst (pc := 54) dX4_dropFront_54 ?_
      refine y_isub (pc := 55) dX4_dropFront_55 ?_
      refine y_aload_n (pc := 56) dX4_dropFront_56 rfl ?_
      refine y_getref (pc := 57) (x := (a0 + 3)) (g_X4_18 ha0) dX4_dropFront_57 ?_
      refine y_iload_n (pc := 60) dX4_dropFront_60 rfl ?_
      refine y_iald (pc := 61) dX4_dropFront_61 (ar_w3 ha0) h4 ?_
      refine y_iastw (pc := 62) dX4_dropFront_62 (ar_w3 ha0) h5 (fun M8 => ?_)
      refine y_iinc (L' := [some (rv a0), none, some (iv (a2 + 1))]) (pc := 63) dX4_dropFront_63 rfl (by decide) rfl rfl ?_
      refine y_goto (tgt := 13) (pc := 66) dX4_dropFront_66 (by decide) ?_
      exact y_sub (ls_s (ls_n (ls_s ls_0))) (ih M8 a0 (a2 + 1) ha0)
def m_X4_dropFront (n : Nat) (M : Mem) (a0 : Nat) (a1 : Int) : Rs := if isW a0 then (bd (m_X4_hasFront n M a0 a1) (fun r10 M9 => if I32 r10 then (if r10 = 0 then (some (0, M9)) else (m_X4_dropFront_13 n n M9 a0 (a1 + 1))) else none)) else none
theorem y_X4_dropFront (n : Nat) (M : Mem) (a0 : Nat) (a1 : Int) : Y RX4 cX4_dropFront 3 1 3 none 0 [some (rv a0), some (iv a1), none] [] M (m_X4_dropFront n M a0 a1) := by
  unfold m_X4_dropFront
  refine y_gd (fun ha0 => ?_)
  refine y_aload_n (pc := 0) dX4_dropFront_0 rfl ?_
  refine y_iload_n (pc := 1) dX4_dropFront_1 rfl ?_
  refine y_callVi (pc := 2) v_X4_hasFront l_X4_74 dX4_dropFront_2 (c_X4_hasFront n _ _ _) rfl (rc_X4 ha0) rfl (by decide) (by decide) (Nat.le_of_ble_eq_true rfl) (fun r10 M9 _ => ?_)
  refine y_gd (fun h11 => ?_)
  refine y_if_ne (off := 4) (tgt := 9) (pc := 5) dX4_dropFront_5 (by decide) h11 (fun h12 => ?_) (fun h12 => ?_)
  · refine y_iload_n (pc := 9) dX4_dropFront_9 rfl ?_
    refine y_iconst (pc := 10) dX4_dropFront_10 ?_
    refine y_iadd (pc := 11) dX4_dropFront_11 ?_
    refine y_istore_n (L' := [some (rv a0), some (iv a1), some (iv (a1 + 1))]) (pc := 12) dX4_dropFront_12 (by decide) rfl rfl ?_
    exact y_sub (ls_s (ls_n (ls_s ls_0))) (t_X4_dropFront_13 n n M9 a0 (a1 + 1) ha0)
  · exact y_vret (pc := 8) dX4_dropFront_8
theorem c_X4_dropFront (n : Nat) (M : Mem) (a0 : Nat) (a1 : Int) : ∀ res : Int × Mem, m_X4_dropFront n M a0 a1 = some res → CTv yX4_dropFront cX4_dropFront 3 1 [rv a0, iv a1] M res := CTv_of (by decide +kernel) rfl (Nat.le_of_ble_eq_true rfl) rfl (y_X4_dropFront n M a0 a1)
def m_X4_change (n : Nat) (M : Mem) (a0 : Nat) (a1 : Int) (a2 : Int) : Rs := if isW a0 then (bd (m_X4_hasPerson n M a0 a1) (fun r2 M1 => if I32 r2 then (if r2 = 0 then (some (0, M1)) else (bd (m_X4_hasPerson n M1 a0 a2) (fun r6 M5 => if I32 r6 then (if r6 = 0 then (some (0, M5)) else (if 0 ≤ a1 ∧ a1 < 5 then (lt (rd M5 (a0 + 7) (Int.toNat a1)) (fun x10 => lt (rd M5 (a0 + 8) (Int.toNat a1)) (fun x11 => if 0 ≤ a2 ∧ a2 < 5 then (wr M5 (a0 + 7) (Int.toNat a1) (rd M5 (a0 + 7) (Int.toNat a2)) (fun M13 => wr M13 (a0 + 8) (Int.toNat a1) (rd M13 (a0 + 8) (Int.toNat a2)) (fun M14 => wr M14 (a0 + 7) (Int.toNat a2) x10 (fun M15 => wr M15 (a0 + 8) (Int.toNat a2) x11 (fun M16 => some (0, M16)))))) else none))) else none)) else none))) else none)) else none
theorem y_X4_change (n : Nat) (M : Mem) (a0 : Nat) (a1 : Int) (a2 : Int) : Y RX4 cX4_change 5 1 3 none 0 [some (rv a0), some (iv a1), some (iv a2), none, none] [] M (m_X4_change n M a0 a1 a2) := by
  unfold m_X4_change
  refine y_gd (fun ha0 => ?_)
  refine y_aload_n (pc := 0) dX4_change_0 rfl ?_
  refine y_iload_n (pc := 1) dX4_change_1 rfl ?_
  refine y_callVi (pc := 2) v_X4_hasPerson l_X4_71 dX4_change_2 (c_X4_hasPerson n _ _ _) rfl (rc_X4 ha0) rfl (by decide) (by decide) (Nat.le_of_ble_eq_true rfl) (fun r2 M1 _ => ?_)
  refine y_gd (fun h3 => ?_)
  refine y_if_eq (off := 11) (tgt := 16) (pc := 5) dX4_change_5 (by decide) h3 (fun h4 => ?_) (fun h4 => ?_)
  · exact y_vret (pc := 16) dX4_change_16
  · refine y_aload_n (pc := 8) dX4_change_8 rfl ?_
    refine y_iload_n (pc := 9) dX4_change_9 rfl ?_
    refine y_callVi (pc := 10) v_X4_hasPerson l_X4_71 dX4_change_10 (c_X4_hasPerson n _ _ _) rfl (rc_X4 ha0) rfl (by decide) (by decide) (Nat.le_of_ble_eq_true rfl) (fun r6 M5 _ => ?_)
    refine y_gd (fun h7 => ?_)
    refine y_if_ne (off := 4) (tgt := 17) (pc := 13) dX4_change_13 (by decide) h7 (fun h8 => ?_) (fun h8 => ?_)
    · refine y_aload_n (pc := 17) dX4_change_17 rfl ?_
      refine y_getref (pc := 18) (x := (a0 + 7)) (g_X4_37 ha0) dX4_change_18 ?_
      refine y_iload_n (pc := 21) dX4_change_21 rfl ?_
      refine y_gd (fun h9 => ?_)
      refine y_iald (pc := 22) dX4_change_22 (ar_w7 ha0) h9 ?_
      refine y_leti (fun x10 => ?_)
      refine y_istore_n (L' := [some (rv a0), some (iv a1), some (iv a2), some (iv x10), none]) (pc := 23) dX4_change_23 (by decide) rfl rfl ?_
      refine y_aload_n (pc := 24) dX4_change_24 rfl ?_
      refine y_getref (pc := 25) (x := (a0 + 8)) (g_X4_40 ha0) dX4_change_25 ?_
      refine y_iload_n (pc := 28) dX4_change_28 rfl ?_
      refine y_iald (pc := 29) dX4_change_29 (ar_w8 ha0) h9 ?_
      refine y_leti (fun x11 => ?_)
      refine y_istore (L' := [some (rv a0), some (iv a1), some (iv a2), some (iv x10), some (iv x11)]) (pc := 30) dX4_change_30 (by decide) rfl rfl ?_
      refine y_aload_n (pc := 32) dX4_change_32 rfl ?_
      refine y_getref (pc := 33) (x := (a0 + 7)) (g_X4_37 ha0) dX4_change_33 ?_
      refine y_iload_n (pc := 36) dX4_change_36 rfl ?_
      refine y_aload_n (pc := 37) dX4_change_37 rfl ?_
      refine y_getref (pc := 38) (x := (a0 + 7)) (g_X4_37 ha0) dX4_change_38 ?_
      refine y_iload_n (pc := 41) dX4_change_41 rfl ?_
      refine y_gd (fun h12 => ?_)
      refine y_iald (pc := 42) dX4_change_42 (ar_w7 ha0) h12 ?_
      refine y_iastw (pc := 43) dX4_change_43 (ar_w7 ha0) h9 (fun M13 => ?_)
      refine y_aload_n (pc := 44) dX4_change_44 rfl ?_
      refine y_getref (pc := 45) (x := (a0 + 8)) (g_X4_40 ha0) dX4_change_45 ?_
      refine y_iload_n (pc := 48) dX4_change_48 rfl ?_
      refine y_aload_n (pc := 49) dX4_change_49 rfl ?_
      refine y_getref (pc := 50) (x := (a0 + 8)) (g_X4_40 ha0) dX4_change_50 ?_
      refine y_iload_n (pc := 53) dX4_change_53 rfl ?_
      refine y_iald (pc := 54) dX4_change_54 (ar_w8 ha0) h12 ?_
      refine y_iastw (pc := 55) dX4_change_55 (ar_w8 ha0) h9 (fun M14 => ?_)
      refine y_aload_n (pc := 56) dX4_change_56 rfl ?_
      refine y_getref (pc := 57) (x := (a0 + 7)) (g_X4_37 ha0) dX4_change_57 ?_
      refine y_iload_n (pc := 60) dX4_change_60 rfl ?_
      refine y_iload_n (pc := 61) dX4_change_61 rfl ?_
      refine y_iastw (pc := 62) dX4_change_62 (ar_w7 ha0) h12 (fun M15 => ?_)
      refine y_aload_n (pc := 63) dX4_change_63 rfl ?_
      refine y_getref (pc := 64) (x := (a0 + 8)) (g_X4_40 ha0) dX4_change_64 ?_
      refine y_iload_n (pc := 67) dX4_change_67 rfl ?_
      refine y_iload (pc := 68) dX4_change_68 rfl ?_
      refine y_iastw (pc := 70) dX4_change_70 (ar_w8 ha0) h12 (fun M16 => ?_)
      exact y_vret (pc := 71) dX4_change_71
    · exact y_vret (pc := 16) dX4_change_16
theorem c_X4_change (n : Nat) (M : Mem) (a0 : Nat) (a1 : Int) (a2 : Int) : ∀ res : Int × Mem, m_X4_change n M a0 a1 a2 = some res → CTv yX4_change cX4_change 5 1 [rv a0, iv a1, iv a2] M res := CTv_of (by decide +kernel) rfl (Nat.le_of_ble_eq_true rfl) rfl (y_X4_change n M a0 a1 a2)
def m_X4_worthsOf_4 (n : Nat) : Nat → Mem → Nat → Int → Int → Int → Rs
  | 0, _, _, _, _, _ => none
  | t + 1, M, a0, a1, a2, a3 => if I32 a3 then (if (rd M a0 7) ≤ a3 then (some (a2, M)) else (if 0 ≤ a3 ∧ a3 < 8 then (if I32 a1 then (if (rd M (a0 + 6) (Int.toNat a3)) = a1 then (lt (a2 + (rd M (a0 + 4) (Int.toNat a3))) (fun x6 => (m_X4_worthsOf_4 n t) M a0 a1 x6 (a3 + 1))) else ((m_X4_worthsOf_4 n t) M a0 a1 a2 (a3 + 1))) else none) else none)) else none
theorem t_X4_worthsOf_4 (n : Nat) : ∀ (t : Nat) (M : Mem) (a0 : Nat) (a1 : Int) (a2 : Int) (a3 : Int), isW a0 → Y RX4 cX4_worthsOf 4 0 0 none 4 [some (rv a0), some (iv a1), some (iv a2), some (iv a3)] [] M (m_X4_worthsOf_4 n t M a0 a1 a2 a3) := by
  intro t
  induction t with
  | zero => intro M a0 a1 a2 a3 ha0; exact y_none
  | succ t ih =>
    intro M a0 a1 a2 a3 ha0
    rewrite [m_X4_worthsOf_4]
    refine y_iload_n (pc := 4) dX4_worthsOf_4 rfl ?_
    refine y_aload_n (pc := 5) dX4_worthsOf_5 rfl ?_
    refine y_getint (pc := 6) (g_X4_34 ha0) dX4_worthsOf_6 ?_
    refine y_gd (fun h1 => ?_)
    refine y_icmp_ge (off := 28) (tgt := 37) (pc := 9) dX4_worthsOf_9 (by decide) h1 (rd_rng _ _ _) (fun h2 => ?_) (fun h2 => ?_)
    · refine y_iload_n (pc := 37) dX4_worthsOf_37 rfl ?_
      exact y_iret (pc := 38) dX4_worthsOf_38
    · refine y_aload_n (pc := 12) dX4_worthsOf_12 rfl ?_
      refine y_getref (pc := 13) (x := (a0 + 6)) (g_X4_31 ha0) dX4_worthsOf_13 ?_
      refine y_iload_n (pc := 16) dX4_worthsOf_16 rfl ?_
      refine y_gd (fun h3 => ?_)
      refine y_iald (pc := 17) dX4_worthsOf_17 (ar_w6 ha0) h3 ?_
      refine y_iload_n (pc := 18) dX4_worthsOf_18 rfl ?_
      refine y_gd (fun h4 => ?_)
      refine y_icmp_ne (off := 12) (tgt := 31) (pc := 19) dX4_worthsOf_19 (by decide) (rd_rng _ _ _) h4 (fun h5 => ?_) (fun h5 => ?_)
      · refine y_iinc (L' := [some (rv a0), some (iv a1), some (iv a2), some (iv (a3 + 1))]) (pc := 31) dX4_worthsOf_31 rfl (by decide) rfl rfl ?_
        refine y_goto (tgt := 4) (pc := 34) dX4_worthsOf_34 (by decide) ?_
        exact y_sub (ls_s (ls_s (ls_s (ls_s ls_0)))) (ih M a0 a1 a2 (a3 + 1) ha0)
      · refine y_iload_n (pc := 22) dX4_worthsOf_22 rfl ?_
        refine y_aload_n (pc := 23) dX4_worthsOf_23 rfl ?_
        refine y_getref (pc := 24) (x := (a0 + 4)) (g_X4_25 ha0) dX4_worthsOf_24 ?_
        refine y_iload_n (pc := 27) dX4_worthsOf_27 rfl ?_
        refine y_iald (pc := 28) dX4_worthsOf_28 (ar_w4 ha0) h3 ?_
        refine y_iadd (pc := 29) dX4_worthsOf_29 ?_
        refine y_leti (fun x6 => ?_)
        refine y_istore_n (L' := [some (rv a0), some (iv a1), some (iv x6), some (iv a3)]) (pc := 30) dX4_worthsOf_30 (by decide) rfl rfl ?_
        refine y_iinc (L' := [some (rv a0), some (iv a1), some (iv x6), some (iv (a3 + 1))]) (pc := 31) dX4_worthsOf_31 rfl (by decide) rfl rfl ?_
        refine y_goto (tgt := 4) (pc := 34) dX4_worthsOf_34 (by decide) ?_
        exact y_sub (ls_s (ls_s (ls_s (ls_s ls_0)))) (ih M a0 a1 x6 (a3 + 1) ha0)
def m_X4_worthsOf (n : Nat) (M : Mem) (a0 : Nat) (a1 : Int) : Rs := if isW a0 then (m_X4_worthsOf_4 n n M a0 a1 0 0) else none
theorem y_X4_worthsOf (n : Nat) (M : Mem) (a0 : Nat) (a1 : Int) : Y RX4 cX4_worthsOf 4 0 0 none 0 [some (rv a0), some (iv a1), none, none] [] M (m_X4_worthsOf n M a0 a1) := by
  unfold m_X4_worthsOf
  refine y_gd (fun ha0 => ?_)
  refine y_iconst (pc := 0) dX4_worthsOf_0 ?_
  refine y_istore_n (L' := [some (rv a0), some (iv a1), some (iv 0), none]) (pc := 1) dX4_worthsOf_1 (by decide) rfl rfl ?_
  refine y_iconst (pc := 2) dX4_worthsOf_2 ?_
  refine y_istore_n (L' := [some (rv a0), some (iv a1), some (iv 0), some (iv 0)]) (pc := 3) dX4_worthsOf_3 (by decide) rfl rfl ?_
  exact y_sub (ls_s (ls_s (ls_s (ls_s ls_0)))) (t_X4_worthsOf_4 n n M a0 a1 0 0 ha0)
theorem c_X4_worthsOf (n : Nat) (M : Mem) (a0 : Nat) (a1 : Int) : ∀ res : Int × Mem, m_X4_worthsOf n M a0 a1 = some res → CTi yX4_worthsOf cX4_worthsOf 4 (some .int) 0 [rv a0, iv a1] M res := CTi_of (by decide +kernel) rfl (Nat.le_of_ble_eq_true rfl) rfl (y_X4_worthsOf n M a0 a1)
def m_X4_ownedWorths_4 (n : Nat) : Nat → Mem → Nat → Int → Int → Rs
  | 0, _, _, _, _ => none
  | t + 1, M, a0, a1, a2 => if I32 a2 then (if (rd M a0 7) ≤ a2 then (some (a1, M)) else (if 0 ≤ a2 ∧ a2 < 8 then (if (rd M (a0 + 6) (Int.toNat a2)) = (-1) then ((m_X4_ownedWorths_4 n t) M a0 a1 (a2 + 1)) else (lt (a1 + (rd M (a0 + 4) (Int.toNat a2))) (fun x5 => (m_X4_ownedWorths_4 n t) M a0 x5 (a2 + 1)))) else none)) else none
theorem t_X4_ownedWorths_4 (n : Nat) : ∀ (t : Nat) (M : Mem) (a0 : Nat) (a1 : Int) (a2 : Int), isW a0 → Y RX4 cX4_ownedWorths 3 0 0 none 4 [some (rv a0), some (iv a1), some (iv a2)] [] M (m_X4_ownedWorths_4 n t M a0 a1 a2) := by
  intro t
  induction t with
  | zero => intro M a0 a1 a2 ha0; exact y_none
  | succ t ih =>
    intro M a0 a1 a2 ha0
    rewrite [m_X4_ownedWorths_4]
    refine y_iload_n (pc := 4) dX4_ownedWorths_4 rfl ?_
    refine y_aload_n (pc := 5) dX4_ownedWorths_5 rfl ?_
    refine y_getint (pc := 6) (g_X4_34 ha0) dX4_ownedWorths_6 ?_
    refine y_gd (fun h1 => ?_)
    refine y_icmp_ge (off := 28) (tgt := 37) (pc := 9) dX4_ownedWorths_9 (by decide) h1 (rd_rng _ _ _) (fun h2 => ?_) (fun h2 => ?_)
    · refine y_iload_n (pc := 37) dX4_ownedWorths_37 rfl ?_
      exact y_iret (pc := 38) dX4_ownedWorths_38
    · refine y_aload_n (pc := 12) dX4_ownedWorths_12 rfl ?_
      refine y_getref (pc := 13) (x := (a0 + 6)) (g_X4_31 ha0) dX4_ownedWorths_13 ?_
      refine y_iload_n (pc := 16) dX4_ownedWorths_16 rfl ?_
      refine y_gd (fun h3 => ?_)
      refine y_iald (pc := 17) dX4_ownedWorths_17 (ar_w6 ha0) h3 ?_
      refine y_iconst (pc := 18) dX4_ownedWorths_18 ?_
      refine y_icmp_eq (off := 12) (tgt := 31) (pc := 19) dX4_ownedWorths_19 (by decide) (rd_rng _ _ _) (by decide) (fun h4 => ?_) (fun h4 => ?_)
      · refine y_iinc (L' := [some (rv a0), some (iv a1), some (iv (a2 + 1))]) (pc := 31) dX4_ownedWorths_31 rfl (by decide) rfl rfl ?_
        refine y_goto (tgt := 4) (pc := 34) dX4_ownedWorths_34 (by decide) ?_
        exact y_sub (ls_s (ls_s (ls_s ls_0))) (ih M a0 a1 (a2 + 1) ha0)
      · refine y_iload_n (pc := 22) dX4_ownedWorths_22 rfl ?_
        refine y_aload_n (pc := 23) dX4_ownedWorths_23 rfl ?_
        refine y_getref (pc := 24) (x := (a0 + 4)) (g_X4_25 ha0) dX4_ownedWorths_24 ?_
        refine y_iload_n (pc := 27) dX4_ownedWorths_27 rfl ?_
        refine y_iald (pc := 28) dX4_ownedWorths_28 (ar_w4 ha0) h3 ?_
        refine y_iadd (pc := 29) dX4_ownedWorths_29 ?_
        refine y_leti (fun x5 => ?_)
        refine y_istore_n (L' := [some (rv a0), some (iv x5), some (iv a2)]) (pc := 30) dX4_ownedWorths_30 (by decide) rfl rfl ?_
        refine y_iinc (L' := [some (rv a0), some (iv x5), some (iv (a2 + 1))]) (pc := 31) dX4_ownedWorths_31 rfl (by decide) rfl rfl ?_
        refine y_goto (tgt := 4) (pc := 34) dX4_ownedWorths_34 (by decide) ?_
        exact y_sub (ls_s (ls_s (ls_s ls_0))) (ih M a0 x5 (a2 + 1) ha0)
def m_X4_ownedWorths (n : Nat) (M : Mem) (a0 : Nat) : Rs := if isW a0 then (m_X4_ownedWorths_4 n n M a0 0 0) else none
theorem y_X4_ownedWorths (n : Nat) (M : Mem) (a0 : Nat) : Y RX4 cX4_ownedWorths 3 0 0 none 0 [some (rv a0), none, none] [] M (m_X4_ownedWorths n M a0) := by
  unfold m_X4_ownedWorths
  refine y_gd (fun ha0 => ?_)
  refine y_iconst (pc := 0) dX4_ownedWorths_0 ?_
  refine y_istore_n (L' := [some (rv a0), some (iv 0), none]) (pc := 1) dX4_ownedWorths_1 (by decide) rfl rfl ?_
  refine y_iconst (pc := 2) dX4_ownedWorths_2 ?_
  refine y_istore_n (L' := [some (rv a0), some (iv 0), some (iv 0)]) (pc := 3) dX4_ownedWorths_3 (by decide) rfl rfl ?_
  exact y_sub (ls_s (ls_s (ls_s ls_0))) (t_X4_ownedWorths_4 n n M a0 0 0 ha0)
theorem c_X4_ownedWorths (n : Nat) (M : Mem) (a0 : Nat) : ∀ res : Int × Mem, m_X4_ownedWorths n M a0 = some res → CTi yX4_ownedWorths cX4_ownedWorths 3 (some .int) 0 [rv a0] M res := CTi_of (by decide +kernel) rfl (Nat.le_of_ble_eq_true rfl) rfl (y_X4_ownedWorths n M a0)
def m_X4_nobodysThings_4 (n : Nat) : Nat → Mem → Nat → Int → Int → Rs
  | 0, _, _, _, _ => none
  | t + 1, M, a0, a1, a2 => if I32 a2 then (if (rd M a0 7) ≤ a2 then (some (a1, M)) else (if 0 ≤ a2 ∧ a2 < 8 then (if (rd M (a0 + 6) (Int.toNat a2)) = (-1) then ((m_X4_nobodysThings_4 n t) M a0 (bOr a1 (bShl 1 a2)) (a2 + 1)) else ((m_X4_nobodysThings_4 n t) M a0 a1 (a2 + 1))) else none)) else none
theorem t_X4_nobodysThings_4 (n : Nat) : ∀ (t : Nat) (M : Mem) (a0 : Nat) (a1 : Int) (a2 : Int), isW a0 → Y RX4 cX4_nobodysThings 3 0 0 none 4 [some (rv a0), some (iv a1), some (iv a2)] [] M (m_X4_nobodysThings_4 n t M a0 a1 a2) := by
  intro t
  induction t with
  | zero => intro M a0 a1 a2 ha0; exact y_none
  | succ t ih =>
    intro M a0 a1 a2 ha0
    rewrite [m_X4_nobodysThings_4]
    refine y_iload_n (pc := 4) dX4_nobodysThings_4 rfl ?_
    refine y_aload_n (pc := 5) dX4_nobodysThings_5 rfl ?_
    refine y_getint (pc := 6) (g_X4_34 ha0) dX4_nobodysThings_6 ?_
    refine y_gd (fun h1 => ?_)
    refine y_icmp_ge (off := 25) (tgt := 34) (pc := 9) dX4_nobodysThings_9 (by decide) h1 (rd_rng _ _ _) (fun h2 => ?_) (fun h2 => ?_)
    · refine y_iload_n (pc := 34) dX4_nobodysThings_34 rfl ?_
      exact y_iret (pc := 35) dX4_nobodysThings_35
    · refine y_aload_n (pc := 12) dX4_nobodysThings_12 rfl ?_
      refine y_getref (pc := 13) (x := (a0 + 6)) (g_X4_31 ha0) dX4_nobodysThings_13 ?_
      refine y_iload_n (pc := 16) dX4_nobodysThings_16 rfl ?_
      refine y_gd (fun h3 => ?_)
      refine y_iald (pc := 17) dX4_nobodysThings_17 (ar_w6 ha0) h3 ?_
      refine y_iconst (pc := 18) dX4_nobodysThings_18 ?_
      refine y_icmp_ne (off := 9) (tgt := 28) (pc := 19) dX4_nobodysThings_19 (by decide) (rd_rng _ _ _) (by decide) (fun h4 => ?_) (fun h4 => ?_)
      · refine y_iinc (L' := [some (rv a0), some (iv a1), some (iv (a2 + 1))]) (pc := 28) dX4_nobodysThings_28 rfl (by decide) rfl rfl ?_
        refine y_goto (tgt := 4) (pc := 31) dX4_nobodysThings_31 (by decide) ?_
        exact y_sub (ls_s (ls_s (ls_s ls_0))) (ih M a0 a1 (a2 + 1) ha0)
      · refine y_iload_n (pc := 22) dX4_nobodysThings_22 rfl ?_
        refine y_iconst (pc := 23) dX4_nobodysThings_23 ?_
        refine y_iload_n (pc := 24) dX4_nobodysThings_24 rfl ?_
        refine y_ishl (pc := 25) dX4_nobodysThings_25 ?_
        refine y_ior (pc := 26) dX4_nobodysThings_26 ?_
        refine y_istore_n (L' := [some (rv a0), some (iv (bOr a1 (bShl 1 a2))), some (iv a2)]) (pc := 27) dX4_nobodysThings_27 (by decide) rfl rfl ?_
        refine y_iinc (L' := [some (rv a0), some (iv (bOr a1 (bShl 1 a2))), some (iv (a2 + 1))]) (pc := 28) dX4_nobodysThings_28 rfl (by decide) rfl rfl ?_
        refine y_goto (tgt := 4) (pc := 31) dX4_nobodysThings_31 (by decide) ?_
        exact y_sub (ls_s (ls_s (ls_s ls_0))) (ih M a0 (bOr a1 (bShl 1 a2)) (a2 + 1) ha0)
def m_X4_nobodysThings (n : Nat) (M : Mem) (a0 : Nat) : Rs := if isW a0 then (m_X4_nobodysThings_4 n n M a0 0 0) else none
theorem y_X4_nobodysThings (n : Nat) (M : Mem) (a0 : Nat) : Y RX4 cX4_nobodysThings 3 0 0 none 0 [some (rv a0), none, none] [] M (m_X4_nobodysThings n M a0) := by
  unfold m_X4_nobodysThings
  refine y_gd (fun ha0 => ?_)
  refine y_iconst (pc := 0) dX4_nobodysThings_0 ?_
  refine y_istore_n (L' := [some (rv a0), some (iv 0), none]) (pc := 1) dX4_nobodysThings_1 (by decide) rfl rfl ?_
  refine y_iconst (pc := 2) dX4_nobodysThings_2 ?_
  refine y_istore_n (L' := [some (rv a0), some (iv 0), some (iv 0)]) (pc := 3) dX4_nobodysThings_3 (by decide) rfl rfl ?_
  exact y_sub (ls_s (ls_s (ls_s ls_0))) (t_X4_nobodysThings_4 n n M a0 0 0 ha0)
theorem c_X4_nobodysThings (n : Nat) (M : Mem) (a0 : Nat) : ∀ res : Int × Mem, m_X4_nobodysThings n M a0 = some res → CTi yX4_nobodysThings cX4_nobodysThings 3 (some .int) 0 [rv a0] M res := CTi_of (by decide +kernel) rfl (Nat.le_of_ble_eq_true rfl) rfl (y_X4_nobodysThings n M a0)
def m_X4_ownedThings (n : Nat) (M : Mem) (a0 : Nat) : Rs := if isW a0 then (bd (m_X4_nobodysThings n M a0) (fun r2 M1 => bd (m_J6_bitCount_0f7a4 n M1 r2) (fun r4 M3 => some (((rd M a0 7) - r4), M3)))) else none
theorem y_X4_ownedThings (n : Nat) (M : Mem) (a0 : Nat) : Y RX4 cX4_ownedThings 1 1 0 none 0 [some (rv a0)] [] M (m_X4_ownedThings n M a0) := by
  unfold m_X4_ownedThings
  refine y_gd (fun ha0 => ?_)
  refine y_aload_n (pc := 0) dX4_ownedThings_0 rfl ?_
  refine y_getint (pc := 1) (g_X4_34 ha0) dX4_ownedThings_1 ?_
  refine y_aload_n (pc := 4) dX4_ownedThings_4 rfl ?_
  refine y_callVi (pc := 5) v_X4_nobodysThings l_X4_77 dX4_ownedThings_5 (c_X4_nobodysThings n _ _) rfl (rc_X4 ha0) rfl (by decide) (by decide) (Nat.le_of_ble_eq_true rfl) (fun r2 M1 _ => ?_)
  refine y_callSi (pc := 8) s_J6_bitCount_0f7a4 l_X4_81 dX4_ownedThings_8 (c_J6_bitCount_0f7a4 n _ _) rfl rfl (by decide) (by decide) (Nat.le_of_ble_eq_true rfl) (fun r4 M3 _ => ?_)
  refine y_isub (pc := 11) dX4_ownedThings_11 ?_
  exact y_iret (pc := 12) dX4_ownedThings_12
theorem c_X4_ownedThings (n : Nat) (M : Mem) (a0 : Nat) : ∀ res : Int × Mem, m_X4_ownedThings n M a0 = some res → CTi yX4_ownedThings cX4_ownedThings 1 (some .int) 1 [rv a0] M res := CTi_of (by decide +kernel) rfl (Nat.le_of_ble_eq_true rfl) rfl (y_X4_ownedThings n M a0)
def m_X4_peopleOn_4 (n : Nat) : Nat → Mem → Nat → Int → Int → Int → Rs
  | 0, _, _, _, _, _ => none
  | t + 1, M, a0, a1, a2, a3 => if I32 a3 then (if (rd M a0 12) ≤ a3 then (some (a2, M)) else (if 0 ≤ a3 ∧ a3 < 5 then (if I32 a1 then (if (rd M (a0 + 10) (Int.toNat a3)) = a1 then ((m_X4_peopleOn_4 n t) M a0 a1 (bOr a2 (bShl 1 a3)) (a3 + 1)) else ((m_X4_peopleOn_4 n t) M a0 a1 a2 (a3 + 1))) else none) else none)) else none
theorem t_X4_peopleOn_4 (n : Nat) : ∀ (t : Nat) (M : Mem) (a0 : Nat) (a1 : Int) (a2 : Int) (a3 : Int), isW a0 → Y RX4 cX4_peopleOn 4 0 0 none 4 [some (rv a0), some (iv a1), some (iv a2), some (iv a3)] [] M (m_X4_peopleOn_4 n t M a0 a1 a2 a3) := by
  intro t
  induction t with
  | zero => intro M a0 a1 a2 a3 ha0; exact y_none
  | succ t ih =>
    intro M a0 a1 a2 a3 ha0
    rewrite [m_X4_peopleOn_4]
    refine y_iload_n (pc := 4) dX4_peopleOn_4 rfl ?_
    refine y_aload_n (pc := 5) dX4_peopleOn_5 rfl ?_
    refine y_getint (pc := 6) (g_X4_49 ha0) dX4_peopleOn_6 ?_
    refine y_gd (fun h1 => ?_)
    refine y_icmp_ge (off := 25) (tgt := 34) (pc := 9) dX4_peopleOn_9 (by decide) h1 (rd_rng _ _ _) (fun h2 => ?_) (fun h2 => ?_)
    · refine y_iload_n (pc := 34) dX4_peopleOn_34 rfl ?_
      exact y_iret (pc := 35) dX4_peopleOn_35
    · refine y_aload_n (pc := 12) dX4_peopleOn_12 rfl ?_
      refine y_getref (pc := 13) (x := (a0 + 10)) (g_X4_46 ha0) dX4_peopleOn_13 ?_
      refine y_iload_n (pc := 16) dX4_peopleOn_16 rfl ?_
      refine y_gd (fun h3 => ?_)
      refine y_iald (pc := 17) dX4_peopleOn_17 (ar_w10 ha0) h3 ?_
      refine y_iload_n (pc := 18) dX4_peopleOn_18 rfl ?_
      refine y_gd (fun h4 => ?_)
      refine y_icmp_ne (off := 9) (tgt := 28) (pc := 19) dX4_peopleOn_19 (by decide) (rd_rng _ _ _) h4 (fun h5 => ?_) (fun h5 => ?_)
      · refine y_iinc (L' := [some (rv a0), some (iv a1), some (iv a2), some (iv (a3 + 1))]) (pc := 28) dX4_peopleOn_28 rfl (by decide) rfl rfl ?_
        refine y_goto (tgt := 4) (pc := 31) dX4_peopleOn_31 (by decide) ?_
        exact y_sub (ls_s (ls_s (ls_s (ls_s ls_0)))) (ih M a0 a1 a2 (a3 + 1) ha0)
      · refine y_iload_n (pc := 22) dX4_peopleOn_22 rfl ?_
        refine y_iconst (pc := 23) dX4_peopleOn_23 ?_
        refine y_iload_n (pc := 24) dX4_peopleOn_24 rfl ?_
        refine y_ishl (pc := 25) dX4_peopleOn_25 ?_
        refine y_ior (pc := 26) dX4_peopleOn_26 ?_
        refine y_istore_n (L' := [some (rv a0), some (iv a1), some (iv (bOr a2 (bShl 1 a3))), some (iv a3)]) (pc := 27) dX4_peopleOn_27 (by decide) rfl rfl ?_
        refine y_iinc (L' := [some (rv a0), some (iv a1), some (iv (bOr a2 (bShl 1 a3))), some (iv (a3 + 1))]) (pc := 28) dX4_peopleOn_28 rfl (by decide) rfl rfl ?_
        refine y_goto (tgt := 4) (pc := 31) dX4_peopleOn_31 (by decide) ?_
        exact y_sub (ls_s (ls_s (ls_s (ls_s ls_0)))) (ih M a0 a1 (bOr a2 (bShl 1 a3)) (a3 + 1) ha0)
def m_X4_peopleOn (n : Nat) (M : Mem) (a0 : Nat) (a1 : Int) : Rs := if isW a0 then (m_X4_peopleOn_4 n n M a0 a1 0 0) else none
theorem y_X4_peopleOn (n : Nat) (M : Mem) (a0 : Nat) (a1 : Int) : Y RX4 cX4_peopleOn 4 0 0 none 0 [some (rv a0), some (iv a1), none, none] [] M (m_X4_peopleOn n M a0 a1) := by
  unfold m_X4_peopleOn
  refine y_gd (fun ha0 => ?_)
  refine y_iconst (pc := 0) dX4_peopleOn_0 ?_
  refine y_istore_n (L' := [some (rv a0), some (iv a1), some (iv 0), none]) (pc := 1) dX4_peopleOn_1 (by decide) rfl rfl ?_
  refine y_iconst (pc := 2) dX4_peopleOn_2 ?_
  refine y_istore_n (L' := [some (rv a0), some (iv a1), some (iv 0), some (iv 0)]) (pc := 3) dX4_peopleOn_3 (by decide) rfl rfl ?_
  exact y_sub (ls_s (ls_s (ls_s (ls_s ls_0)))) (t_X4_peopleOn_4 n n M a0 a1 0 0 ha0)
theorem c_X4_peopleOn (n : Nat) (M : Mem) (a0 : Nat) (a1 : Int) : ∀ res : Int × Mem, m_X4_peopleOn n M a0 a1 = some res → CTi yX4_peopleOn cX4_peopleOn 4 (some .int) 0 [rv a0, iv a1] M res := CTi_of (by decide +kernel) rfl (Nat.le_of_ble_eq_true rfl) rfl (y_X4_peopleOn n M a0 a1)
def m_X4_thingsOn_4 (n : Nat) : Nat → Mem → Nat → Int → Int → Int → Rs
  | 0, _, _, _, _, _ => none
  | t + 1, M, a0, a1, a2, a3 => if I32 a3 then (if (rd M a0 7) ≤ a3 then (some (a2, M)) else (if 0 ≤ a3 ∧ a3 < 8 then (if I32 a1 then (if (rd M (a0 + 5) (Int.toNat a3)) = a1 then ((m_X4_thingsOn_4 n t) M a0 a1 (bOr a2 (bShl 1 a3)) (a3 + 1)) else ((m_X4_thingsOn_4 n t) M a0 a1 a2 (a3 + 1))) else none) else none)) else none
theorem t_X4_thingsOn_4 (n : Nat) : ∀ (t : Nat) (M : Mem) (a0 : Nat) (a1 : Int) (a2 : Int) (a3 : Int), isW a0 → Y RX4 cX4_thingsOn 4 0 0 none 4 [some (rv a0), some (iv a1), some (iv a2), some (iv a3)] [] M (m_X4_thingsOn_4 n t M a0 a1 a2 a3) := by
  intro t
  induction t with
  | zero => intro M a0 a1 a2 a3 ha0; exact y_none
  | succ t ih =>
    intro M a0 a1 a2 a3 ha0
    rewrite [m_X4_thingsOn_4]
    refine y_iload_n (pc := 4) dX4_thingsOn_4 rfl ?_
    refine y_aload_n (pc := 5) dX4_thingsOn_5 rfl ?_
    refine y_getint (pc := 6) (g_X4_34 ha0) dX4_thingsOn_6 ?_
    refine y_gd (fun h1 => ?_)
    refine y_icmp_ge (off := 25) (tgt := 34) (pc := 9) dX4_thingsOn_9 (by decide) h1 (rd_rng _ _ _) (fun h2 => ?_) (fun h2 => ?_)
    · refine y_iload_n (pc := 34) dX4_thingsOn_34 rfl ?_
      exact y_iret (pc := 35) dX4_thingsOn_35
    · refine y_aload_n (pc := 12) dX4_thingsOn_12 rfl ?_
      refine y_getref (pc := 13) (x := (a0 + 5)) (g_X4_28 ha0) dX4_thingsOn_13 ?_
      refine y_iload_n (pc := 16) dX4_thingsOn_16 rfl ?_
      refine y_gd (fun h3 => ?_)
      refine y_iald (pc := 17) dX4_thingsOn_17 (ar_w5 ha0) h3 ?_
      refine y_iload_n (pc := 18) dX4_thingsOn_18 rfl ?_
      refine y_gd (fun h4 => ?_)
      refine y_icmp_ne (off := 9) (tgt := 28) (pc := 19) dX4_thingsOn_19 (by decide) (rd_rng _ _ _) h4 (fun h5 => ?_) (fun h5 => ?_)
      · refine y_iinc (L' := [some (rv a0), some (iv a1), some (iv a2), some (iv (a3 + 1))]) (pc := 28) dX4_thingsOn_28 rfl (by decide) rfl rfl ?_
        refine y_goto (tgt := 4) (pc := 31) dX4_thingsOn_31 (by decide) ?_
        exact y_sub (ls_s (ls_s (ls_s (ls_s ls_0)))) (ih M a0 a1 a2 (a3 + 1) ha0)
      · refine y_iload_n (pc := 22) dX4_thingsOn_22 rfl ?_
        refine y_iconst (pc := 23) dX4_thingsOn_23 ?_
        refine y_iload_n (pc := 24) dX4_thingsOn_24 rfl ?_
        refine y_ishl (pc := 25) dX4_thingsOn_25 ?_
        refine y_ior (pc := 26) dX4_thingsOn_26 ?_
        refine y_istore_n (L' := [some (rv a0), some (iv a1), some (iv (bOr a2 (bShl 1 a3))), some (iv a3)]) (pc := 27) dX4_thingsOn_27 (by decide) rfl rfl ?_
        refine y_iinc (L' := [some (rv a0), some (iv a1), some (iv (bOr a2 (bShl 1 a3))), some (iv (a3 + 1))]) (pc := 28) dX4_thingsOn_28 rfl (by decide) rfl rfl ?_
        refine y_goto (tgt := 4) (pc := 31) dX4_thingsOn_31 (by decide) ?_
        exact y_sub (ls_s (ls_s (ls_s (ls_s ls_0)))) (ih M a0 a1 (bOr a2 (bShl 1 a3)) (a3 + 1) ha0)
def m_X4_thingsOn (n : Nat) (M : Mem) (a0 : Nat) (a1 : Int) : Rs := if isW a0 then (m_X4_thingsOn_4 n n M a0 a1 0 0) else none
theorem y_X4_thingsOn (n : Nat) (M : Mem) (a0 : Nat) (a1 : Int) : Y RX4 cX4_thingsOn 4 0 0 none 0 [some (rv a0), some (iv a1), none, none] [] M (m_X4_thingsOn n M a0 a1) := by
  unfold m_X4_thingsOn
  refine y_gd (fun ha0 => ?_)
  refine y_iconst (pc := 0) dX4_thingsOn_0 ?_
  refine y_istore_n (L' := [some (rv a0), some (iv a1), some (iv 0), none]) (pc := 1) dX4_thingsOn_1 (by decide) rfl rfl ?_
  refine y_iconst (pc := 2) dX4_thingsOn_2 ?_
  refine y_istore_n (L' := [some (rv a0), some (iv a1), some (iv 0), some (iv 0)]) (pc := 3) dX4_thingsOn_3 (by decide) rfl rfl ?_
  exact y_sub (ls_s (ls_s (ls_s (ls_s ls_0)))) (t_X4_thingsOn_4 n n M a0 a1 0 0 ha0)
theorem c_X4_thingsOn (n : Nat) (M : Mem) (a0 : Nat) (a1 : Int) : ∀ res : Int × Mem, m_X4_thingsOn n M a0 a1 = some res → CTi yX4_thingsOn cX4_thingsOn 4 (some .int) 0 [rv a0, iv a1] M res := CTi_of (by decide +kernel) rfl (Nat.le_of_ble_eq_true rfl) rfl (y_X4_thingsOn n M a0 a1)
def m_X5_refuse (n : Nat) (M : Mem) (a1 : Int) : Rs := if I32 (-a1) then (if (-a1) < 0 then (some (a1, M)) else (if 6 < (-a1) then (some (a1, M)) else (if 0 ≤ (-a1) ∧ (-a1) < 7 then (wr M 134 (Int.toNat (-a1)) ((rd M 134 (Int.toNat (-a1))) + 1) (fun M5 => some (a1, M5))) else none))) else none
theorem y_X5_refuse (n : Nat) (M : Mem) (a1 : Int) : Y RX5 cX5_refuse 3 0 0 none 0 [some (rv 130), some (iv a1), none] [] M (m_X5_refuse n M a1) := by
  unfold m_X5_refuse
  refine y_iload_n (pc := 0) dX5_refuse_0 rfl ?_
  refine y_ineg (pc := 1) dX5_refuse_1 ?_
  refine y_istore_n (L' := [some (rv 130), some (iv a1), some (iv (-a1))]) (pc := 2) dX5_refuse_2 (by decide) rfl rfl ?_
  refine y_iload_n (pc := 3) dX5_refuse_3 rfl ?_
  refine y_gd (fun h1 => ?_)
  refine y_if_lt (off := 19) (tgt := 23) (pc := 4) dX5_refuse_4 (by decide) h1 (fun h2 => ?_) (fun h2 => ?_)
  · refine y_iload_n (pc := 23) dX5_refuse_23 rfl ?_
    exact y_iret (pc := 24) dX5_refuse_24
  · refine y_iload_n (pc := 7) dX5_refuse_7 rfl ?_
    refine y_bipush (pc := 8) dX5_refuse_8 (by decide) ?_
    refine y_icmp_gt (off := 13) (tgt := 23) (pc := 10) dX5_refuse_10 (by decide) h1 (by decide) (fun h3 => ?_) (fun h3 => ?_)
    · refine y_iload_n (pc := 23) dX5_refuse_23 rfl ?_
      exact y_iret (pc := 24) dX5_refuse_24
    · refine y_aload_n (pc := 13) dX5_refuse_13 rfl ?_
      refine y_getref (pc := 14) (x := 134) g_X5_44 dX5_refuse_14 ?_
      refine y_iload_n (pc := 17) dX5_refuse_17 rfl ?_
      refine y_dup2 (pc := 18) dX5_refuse_18 rfl rfl ?_
      refine y_gd (fun h4 => ?_)
      refine y_iald (pc := 19) dX5_refuse_19 ar_134 h4 ?_
      refine y_iconst (pc := 20) dX5_refuse_20 ?_
      refine y_iadd (pc := 21) dX5_refuse_21 ?_
      refine y_iastw (pc := 22) dX5_refuse_22 ar_134 h4 (fun M5 => ?_)
      refine y_iload_n (pc := 23) dX5_refuse_23 rfl ?_
      exact y_iret (pc := 24) dX5_refuse_24
theorem c_X5_refuse (n : Nat) (M : Mem) (a1 : Int) : ∀ res : Int × Mem, m_X5_refuse n M a1 = some res → CTi yX5_refuse cX5_refuse 3 (some .int) 0 [rv 130, iv a1] M res := CTi_of (by decide +kernel) rfl (Nat.le_of_ble_eq_true rfl) rfl (y_X5_refuse n M a1)
def m_X5_feed_27 (n : Nat) (M : Mem) : Rs := bd (m_X5_refuse n M (-6)) (fun r2 M1 => some (r2, M1))
theorem t_X5_feed_27 (n : Nat) (M : Mem) : Y RX5 cX5_feed 2 1 0 none 27 [some (rv 130), none] [] M (m_X5_feed_27 n M) := by
  unfold m_X5_feed_27
  refine y_aload_n (pc := 27) dX5_feed_27 rfl ?_
  refine y_bipush (pc := 28) dX5_feed_28 (by decide) ?_
  refine y_callVi (pc := 30) v_X5_refuse l_X5_60 dX5_feed_30 (c_X5_refuse n _ _) rfl rc_X5 rfl (by decide) (by decide) (Nat.le_of_ble_eq_true rfl) (fun r2 M1 _ => ?_)
  exact y_iret (pc := 33) dX5_feed_33
def m_X5_feed (n : Nat) (M : Mem) (a1 : Int) : Rs := if I32 a1 then (if 0 ≤ a1 then (if 255 < a1 then (m_X5_feed_27 n M) else (if (rd M 130 6) < 96 then (if 0 ≤ (rd M 130 6) ∧ (rd M 130 6) < 96 then (wr M 132 (Int.toNat (rd M 130 6)) a1 (fun M8 => wr M8 130 6 ((rd M8 130 6) + 1) (fun M9 => some ((rd M9 130 6), M9)))) else none) else (m_X5_feed_27 n M))) else (bd (m_X5_refuse n M (-4)) (fun r11 M10 => some (r11, M10)))) else none
theorem y_X5_feed (n : Nat) (M : Mem) (a1 : Int) : Y RX5 cX5_feed 2 1 0 none 0 [some (rv 130), some (iv a1)] [] M (m_X5_feed n M a1) := by
  unfold m_X5_feed
  refine y_iload_n (pc := 0) dX5_feed_0 rfl ?_
  refine y_gd (fun h3 => ?_)
  refine y_if_ge (off := 10) (tgt := 11) (pc := 1) dX5_feed_1 (by decide) h3 (fun h4 => ?_) (fun h4 => ?_)
  · refine y_iload_n (pc := 11) dX5_feed_11 rfl ?_
    refine y_sipush (pc := 12) dX5_feed_12 (by decide) ?_
    refine y_icmp_gt (off := 12) (tgt := 27) (pc := 15) dX5_feed_15 (by decide) h3 (by decide) (fun h5 => ?_) (fun h5 => ?_)
    · exact y_sub (ls_s (ls_n ls_0)) (t_X5_feed_27 n M)
    · refine y_aload_n (pc := 18) dX5_feed_18 rfl ?_
      refine y_getint (pc := 19) g_X5_35 dX5_feed_19 ?_
      refine y_bipush (pc := 22) dX5_feed_22 (by decide) ?_
      refine y_icmp_lt (off := 10) (tgt := 34) (pc := 24) dX5_feed_24 (by decide) (rd_rng _ _ _) (by decide) (fun h6 => ?_) (fun h6 => ?_)
      · refine y_aload_n (pc := 34) dX5_feed_34 rfl ?_
        refine y_getref (pc := 35) (x := 132) g_X5_31 dX5_feed_35 ?_
        refine y_aload_n (pc := 38) dX5_feed_38 rfl ?_
        refine y_getint (pc := 39) g_X5_35 dX5_feed_39 ?_
        refine y_iload_n (pc := 42) dX5_feed_42 rfl ?_
        refine y_gd (fun h7 => ?_)
        refine y_iastw (pc := 43) dX5_feed_43 ar_132 h7 (fun M8 => ?_)
        refine y_aload_n (pc := 44) dX5_feed_44 rfl ?_
        refine y_dup (pc := 45) dX5_feed_45 rfl ?_
        refine y_getint (pc := 46) g_X5_35 dX5_feed_46 ?_
        refine y_iconst (pc := 49) dX5_feed_49 ?_
        refine y_iadd (pc := 50) dX5_feed_50 ?_
        refine y_putintw (pc := 51) pf_X5_35 dX5_feed_51 (fun M9 => ?_)
        refine y_aload_n (pc := 54) dX5_feed_54 rfl ?_
        refine y_getint (pc := 55) g_X5_35 dX5_feed_55 ?_
        exact y_iret (pc := 58) dX5_feed_58
      · exact y_sub (ls_s (ls_n ls_0)) (t_X5_feed_27 n M)
  · refine y_aload_n (pc := 4) dX5_feed_4 rfl ?_
    refine y_bipush (pc := 5) dX5_feed_5 (by decide) ?_
    refine y_callVi (pc := 7) v_X5_refuse l_X5_60 dX5_feed_7 (c_X5_refuse n _ _) rfl rc_X5 rfl (by decide) (by decide) (Nat.le_of_ble_eq_true rfl) (fun r11 M10 _ => ?_)
    exact y_iret (pc := 10) dX5_feed_10
theorem c_X5_feed (n : Nat) (M : Mem) (a1 : Int) : ∀ res : Int × Mem, m_X5_feed n M a1 = some res → CTi yX5_feed cX5_feed 2 (some .int) 1 [rv 130, iv a1] M res := CTi_of (by decide +kernel) rfl (Nat.le_of_ble_eq_true rfl) rfl (y_X5_feed n M a1)
