def m_X5_isCell (n : Nat) (M : Mem) (a0 : Int) : Rs := if I32 a0 then (if a0 < 0 then (some (0, M)) else (if 24 ≤ a0 then (some (0, M)) else (some (1, M)))) else none
theorem y_X5_isCell (n : Nat) (M : Mem) (a0 : Int) : Y RX5 cX5_isCell 1 0 1 none 0 [some (iv a0)] [] M (m_X5_isCell n M a0) := by
  unfold m_X5_isCell
  refine y_iload_n (pc := 0) dX5_isCell_0 rfl ?_
  refine y_gd (fun h1 => ?_)
  refine y_if_lt (off := 13) (tgt := 14) (pc := 1) dX5_isCell_1 (by decide) h1 (fun h2 => ?_) (fun h2 => ?_)
  · refine y_iconst (pc := 14) dX5_isCell_14 ?_
    exact y_zret (pc := 15) dX5_isCell_15 (by decide)
  · refine y_iload_n (pc := 4) dX5_isCell_4 rfl ?_
    refine y_bipush (pc := 5) dX5_isCell_5 (by decide) ?_
    refine y_icmp_ge (off := 7) (tgt := 14) (pc := 7) dX5_isCell_7 (by decide) h1 (by decide) (fun h3 => ?_) (fun h3 => ?_)
    · refine y_iconst (pc := 14) dX5_isCell_14 ?_
      exact y_zret (pc := 15) dX5_isCell_15 (by decide)
    · refine y_iconst (pc := 10) dX5_isCell_10 ?_
      refine y_goto (tgt := 15) (pc := 11) dX5_isCell_11 (by decide) ?_
      exact y_zret (pc := 15) dX5_isCell_15 (by decide)
theorem c_X5_isCell (n : Nat) (M : Mem) (a0 : Int) : ∀ res : Int × Mem, m_X5_isCell n M a0 = some res → CTi none yX5_isCell cX5_isCell 1 (some .boolean) 0 [iv a0] M res := CTz_of (by decide +kernel) rfl (Nat.le_of_ble_eq_true rfl) rfl (y_X5_isCell n M a0)
def m_X4_addPerson (n : Nat) (M : Mem) (a0 : Nat) (a1 : Int) (a2 : Int) (a3 : Int) : Rs := if isW a0 then (bd (m_X5_isCell n M a3) (fun r2 M1 => if I32 r2 then (if r2 = 0 then (some (0, M1)) else (if (rd M1 a0 12) < 5 then (if 0 ≤ (rd M1 a0 12) ∧ (rd M1 a0 12) < 5 then (wr M1 (a0 + 7) (Int.toNat (rd M1 a0 12)) a1 (fun M7 => if 0 ≤ (rd M7 a0 12) ∧ (rd M7 a0 12) < 5 then (wr M7 (a0 + 8) (Int.toNat (rd M7 a0 12)) a2 (fun M9 => if 0 ≤ (rd M9 a0 12) ∧ (rd M9 a0 12) < 5 then (wr M9 (a0 + 9) (Int.toNat (rd M9 a0 12)) a3 (fun M11 => if 0 ≤ (rd M11 a0 12) ∧ (rd M11 a0 12) < 5 then (wr M11 (a0 + 10) (Int.toNat (rd M11 a0 12)) a3 (fun M13 => wr M13 a0 12 ((rd M13 a0 12) + 1) (fun M14 => some (1, M14)))) else none)) else none)) else none)) else none) else (some (0, M1)))) else none)) else none
theorem y_X4_addPerson (n : Nat) (M : Mem) (a0 : Nat) (a1 : Int) (a2 : Int) (a3 : Int) : Y RX4 cX4_addPerson 4 1 1 none 0 [some (rv a0), some (iv a1), some (iv a2), some (iv a3)] [] M (m_X4_addPerson n M a0 a1 a2 a3) := by
  unfold m_X4_addPerson
  refine y_gd (fun ha0 => ?_)
  refine y_iload_n (pc := 0) dX4_addPerson_0 rfl ?_
  refine y_callNi (pc := 1) s_X5_isCell rfl dX4_addPerson_1 (c_X5_isCell n _ _) (fun _ h => nomatch h) rfl rfl (by decide) (by decide) (Nat.le_of_ble_eq_true rfl) (fun r2 M1 _ => ?_)
  refine y_gd (fun h3 => ?_)
  refine y_if_eq (off := 11) (tgt := 15) (pc := 4) dX4_addPerson_4 (by decide) h3 (fun h4 => ?_) (fun h4 => ?_)
  · refine y_iconst (pc := 15) dX4_addPerson_15 ?_
    exact y_zret (pc := 16) dX4_addPerson_16 (by decide)
  · refine y_aload_n (pc := 7) dX4_addPerson_7 rfl ?_
    refine y_getint (pc := 8) (g_X4_49 ha0) dX4_addPerson_8 ?_
    refine y_iconst (pc := 11) dX4_addPerson_11 ?_
    refine y_icmp_lt (off := 5) (tgt := 17) (pc := 12) dX4_addPerson_12 (by decide) (rd_rng _ _ _) (by decide) (fun h5 => ?_) (fun h5 => ?_)
    · refine y_aload_n (pc := 17) dX4_addPerson_17 rfl ?_
      refine y_getref (pc := 18) (x := (a0 + 7)) (g_X4_37 ha0) dX4_addPerson_18 ?_
      refine y_aload_n (pc := 21) dX4_addPerson_21 rfl ?_
      refine y_getint (pc := 22) (g_X4_49 ha0) dX4_addPerson_22 ?_
      refine y_iload_n (pc := 25) dX4_addPerson_25 rfl ?_
      refine y_gd (fun h6 => ?_)
      refine y_iastw (pc := 26) dX4_addPerson_26 (ar_w7 ha0) h6 (fun M7 => ?_)
      refine y_aload_n (pc := 27) dX4_addPerson_27 rfl ?_
      refine y_getref (pc := 28) (x := (a0 + 8)) (g_X4_40 ha0) dX4_addPerson_28 ?_
      refine y_aload_n (pc := 31) dX4_addPerson_31 rfl ?_
      refine y_getint (pc := 32) (g_X4_49 ha0) dX4_addPerson_32 ?_
      refine y_iload_n (pc := 35) dX4_addPerson_35 rfl ?_
      refine y_gd (fun h8 => ?_)
      refine y_iastw (pc := 36) dX4_addPerson_36 (ar_w8 ha0) h8 (fun M9 => ?_)
      refine y_aload_n (pc := 37) dX4_addPerson_37 rfl ?_
      refine y_getref (pc := 38) (x := (a0 + 9)) (g_X4_43 ha0) dX4_addPerson_38 ?_
      refine y_aload_n (pc := 41) dX4_addPerson_41 rfl ?_
      refine y_getint (pc := 42) (g_X4_49 ha0) dX4_addPerson_42 ?_
      refine y_iload_n (pc := 45) dX4_addPerson_45 rfl ?_
      refine y_gd (fun h10 => ?_)
      refine y_iastw (pc := 46) dX4_addPerson_46 (ar_w9 ha0) h10 (fun M11 => ?_)
      refine y_aload_n (pc := 47) dX4_addPerson_47 rfl ?_
      refine y_getref (pc := 48) (x := (a0 + 10)) (g_X4_46 ha0) dX4_addPerson_48 ?_
      refine y_aload_n (pc := 51) dX4_addPerson_51 rfl ?_
      refine y_getint (pc := 52) (g_X4_49 ha0) dX4_addPerson_52 ?_
      refine y_iload_n (pc := 55) dX4_addPerson_55 rfl ?_
      refine y_gd (fun h12 => ?_)
      refine y_iastw (pc := 56) dX4_addPerson_56 (ar_w10 ha0) h12 (fun M13 => ?_)
      refine y_aload_n (pc := 57) dX4_addPerson_57 rfl ?_
      refine y_dup (pc := 58) dX4_addPerson_58 rfl ?_
      refine y_getint (pc := 59) (g_X4_49 ha0) dX4_addPerson_59 ?_
      refine y_iconst (pc := 62) dX4_addPerson_62 ?_
      refine y_iadd (pc := 63) dX4_addPerson_63 ?_
      refine y_putintw (pc := 64) (pf_X4_49 ha0) dX4_addPerson_64 (fun M14 => ?_)
      refine y_iconst (pc := 67) dX4_addPerson_67 ?_
      exact y_zret (pc := 68) dX4_addPerson_68 (by decide)
    · refine y_iconst (pc := 15) dX4_addPerson_15 ?_
      exact y_zret (pc := 16) dX4_addPerson_16 (by decide)
theorem c_X4_addPerson (n : Nat) (M : Mem) (a0 : Nat) (a1 : Int) (a2 : Int) (a3 : Int) : ∀ res : Int × Mem, m_X4_addPerson n M a0 a1 a2 a3 = some res → CTi none yX4_addPerson cX4_addPerson 4 (some .boolean) 1 [rv a0, iv a1, iv a2, iv a3] M res := CTz_of (by decide +kernel) rfl (Nat.le_of_ble_eq_true rfl) rfl (y_X4_addPerson n M a0 a1 a2 a3)
def m_X4_addThing (n : Nat) (M : Mem) (a0 : Nat) (a1 : Int) (a2 : Int) : Rs := if isW a0 then (bd (m_X5_isCell n M a2) (fun r2 M1 => if I32 r2 then (if r2 = 0 then (some (0, M1)) else (if (rd M1 a0 7) < 8 then (if 0 ≤ (rd M1 a0 7) ∧ (rd M1 a0 7) < 8 then (wr M1 (a0 + 4) (Int.toNat (rd M1 a0 7)) a1 (fun M7 => if 0 ≤ (rd M7 a0 7) ∧ (rd M7 a0 7) < 8 then (wr M7 (a0 + 5) (Int.toNat (rd M7 a0 7)) a2 (fun M9 => if 0 ≤ (rd M9 a0 7) ∧ (rd M9 a0 7) < 8 then (wr M9 (a0 + 6) (Int.toNat (rd M9 a0 7)) (-1) (fun M11 => wr M11 a0 7 ((rd M11 a0 7) + 1) (fun M12 => some (1, M12)))) else none)) else none)) else none) else (some (0, M1)))) else none)) else none
theorem y_X4_addThing (n : Nat) (M : Mem) (a0 : Nat) (a1 : Int) (a2 : Int) : Y RX4 cX4_addThing 3 1 1 none 0 [some (rv a0), some (iv a1), some (iv a2)] [] M (m_X4_addThing n M a0 a1 a2) := by
  unfold m_X4_addThing
  refine y_gd (fun ha0 => ?_)
  refine y_iload_n (pc := 0) dX4_addThing_0 rfl ?_
  refine y_callNi (pc := 1) s_X5_isCell rfl dX4_addThing_1 (c_X5_isCell n _ _) (fun _ h => nomatch h) rfl rfl (by decide) (by decide) (Nat.le_of_ble_eq_true rfl) (fun r2 M1 _ => ?_)
  refine y_gd (fun h3 => ?_)
  refine y_if_eq (off := 12) (tgt := 16) (pc := 4) dX4_addThing_4 (by decide) h3 (fun h4 => ?_) (fun h4 => ?_)
  · refine y_iconst (pc := 16) dX4_addThing_16 ?_
    exact y_zret (pc := 17) dX4_addThing_17 (by decide)
  · refine y_aload_n (pc := 7) dX4_addThing_7 rfl ?_
    refine y_getint (pc := 8) (g_X4_34 ha0) dX4_addThing_8 ?_
    refine y_bipush (pc := 11) dX4_addThing_11 (by decide) ?_
    refine y_icmp_lt (off := 5) (tgt := 18) (pc := 13) dX4_addThing_13 (by decide) (rd_rng _ _ _) (by decide) (fun h5 => ?_) (fun h5 => ?_)
    · refine y_aload_n (pc := 18) dX4_addThing_18 rfl ?_
      refine y_getref (pc := 19) (x := (a0 + 4)) (g_X4_25 ha0) dX4_addThing_19 ?_
      refine y_aload_n (pc := 22) dX4_addThing_22 rfl ?_
      refine y_getint (pc := 23) (g_X4_34 ha0) dX4_addThing_23 ?_
      refine y_iload_n (pc := 26) dX4_addThing_26 rfl ?_
      refine y_gd (fun h6 => ?_)
      refine y_iastw (pc := 27) dX4_addThing_27 (ar_w4 ha0) h6 (fun M7 => ?_)
      refine y_aload_n (pc := 28) dX4_addThing_28 rfl ?_
      refine y_getref (pc := 29) (x := (a0 + 5)) (g_X4_28 ha0) dX4_addThing_29 ?_
      refine y_aload_n (pc := 32) dX4_addThing_32 rfl ?_
      refine y_getint (pc := 33) (g_X4_34 ha0) dX4_addThing_33 ?_
      refine y_iload_n (pc := 36) dX4_addThing_36 rfl ?_
      refine y_gd (fun h8 => ?_)
      refine y_iastw (pc := 37) dX4_addThing_37 (ar_w5 ha0) h8 (fun M9 => ?_)
      refine y_aload_n (pc := 38) dX4_addThing_38 rfl ?_
      refine y_getref (pc := 39) (x := (a0 + 6)) (g_X4_31 ha0) dX4_addThing_39 ?_
      refine y_aload_n (pc := 42) dX4_addThing_42 rfl ?_
      refine y_getint (pc := 43) (g_X4_34 ha0) dX4_addThing_43 ?_
      refine y_iconst (pc := 46) dX4_addThing_46 ?_
      refine y_gd (fun h10 => ?_)
      refine y_iastw (pc := 47) dX4_addThing_47 (ar_w6 ha0) h10 (fun M11 => ?_)
      refine y_aload_n (pc := 48) dX4_addThing_48 rfl ?_
      refine y_dup (pc := 49) dX4_addThing_49 rfl ?_
      refine y_getint (pc := 50) (g_X4_34 ha0) dX4_addThing_50 ?_
      refine y_iconst (pc := 53) dX4_addThing_53 ?_
      refine y_iadd (pc := 54) dX4_addThing_54 ?_
      refine y_putintw (pc := 55) (pf_X4_34 ha0) dX4_addThing_55 (fun M12 => ?_)
      refine y_iconst (pc := 58) dX4_addThing_58 ?_
      exact y_zret (pc := 59) dX4_addThing_59 (by decide)
    · refine y_iconst (pc := 16) dX4_addThing_16 ?_
      exact y_zret (pc := 17) dX4_addThing_17 (by decide)
theorem c_X4_addThing (n : Nat) (M : Mem) (a0 : Nat) (a1 : Int) (a2 : Int) : ∀ res : Int × Mem, m_X4_addThing n M a0 a1 a2 = some res → CTi none yX4_addThing cX4_addThing 3 (some .boolean) 1 [rv a0, iv a1, iv a2] M res := CTz_of (by decide +kernel) rfl (Nat.le_of_ble_eq_true rfl) rfl (y_X4_addThing n M a0 a1 a2)
def m_X4_worthsOf_4 (n : Nat) : Nat → Mem → Nat → Int → Int → Int → Rs
  | 0, _, _, _, _, _ => none
  | t + 1, M, a0, a1, a2, a3 => if I32 a3 then (if (rd M a0 7) ≤ a3 then (some (a2, M)) else (if 0 ≤ a3 ∧ a3 < 8 then (if I32 a1 then (if (rd M (a0 + 6) (Int.toNat a3)) = a1 then (lt (a2 + (rd M (a0 + 4) (Int.toNat a3))) (fun x6 => (m_X4_worthsOf_4 n t) M a0 a1 x6 (a3 + 1))) else ((m_X4_worthsOf_4 n t) M a0 a1 a2 (a3 + 1))) else none) else none)) else none
theorem t_X4_worthsOf_4 (n : Nat) : ∀ (t : Nat) (M : Mem) (a0 : Nat) (a1 : Int) (a2 : Int) (a3 : Int), isW a0 → Y RX4 cX4_worthsOf 4 0 0 none 4 [some (rv a0), some (iv a1), some (iv a2), some (iv a3)] [] M (m_X4_worthsOf_4 n t M a0 a1 a2 a3) := by
  intro t
  induction t with
  | zero => intro M a0 a1 a2 a3 ha0; exact y_none
  | succ t ih =>
    intro M a0 a1 a2 a3 ha0
    rewrite [m_X4_worthsOf_4]
    refine y_iload_n (pc := 4) dX4_worthsOf_4 rfl ?_
    refine y_aload_n (pc := 5) dX4_worthsOf_5 rfl ?_
    refine y_getint (pc := 6) (g_X4_34 ha0) dX4_worthsOf_6 ?_
    refine y_gd (fun h1 => ?_)
    refine y_icmp_ge (off := 28) (tgt := 37) (pc := 9) dX4_worthsOf_9 (by decide) h1 (rd_rng _ _ _) (fun h2 => ?_) (fun h2 => ?_)
    · refine y_iload_n (pc := 37) dX4_worthsOf_37 rfl ?_
      exact y_iret (pc := 38) dX4_worthsOf_38
    · refine y_aload_n (pc := 12) dX4_worthsOf_12 rfl ?_
      refine y_getref (pc := 13) (x := (a0 + 6)) (g_X4_31 ha0) dX4_worthsOf_13 ?_
      refine y_iload_n (pc := 16) dX4_worthsOf_16 rfl ?_
      refine y_gd (fun h3 => ?_)
      refine y_iald (pc := 17) dX4_worthsOf_17 (ar_w6 ha0) h3 ?_
      refine y_iload_n (pc := 18) dX4_worthsOf_18 rfl ?_
      refine y_gd (fun h4 => ?_)
      refine y_icmp_ne (off := 12) (tgt := 31) (pc := 19) dX4_worthsOf_19 (by decide) (rd_rng _ _ _) h4 (fun h5 => ?_) (fun h5 => ?_)
      · refine y_iinc (L' := [some (rv a0), some (iv a1), some (iv a2), some (iv (a3 + 1))]) (pc := 31) dX4_worthsOf_31 rfl (by decide) rfl rfl ?_
        refine y_goto (tgt := 4) (pc := 34) dX4_worthsOf_34 (by decide) ?_
        exact y_sub (ls_s (ls_s (ls_s (ls_s ls_0)))) (ih M a0 a1 a2 (a3 + 1) ha0)
      · refine y_iload_n (pc := 22) dX4_worthsOf_22 rfl ?_
        refine y_aload_n (pc := 23) dX4_worthsOf_23 rfl ?_
        refine y_getref (pc := 24) (x := (a0 + 4)) (g_X4_25 ha0) dX4_worthsOf_24 ?_
        refine y_iload_n (pc := 27) dX4_worthsOf_27 rfl ?_
        refine y_iald (pc := 28) dX4_worthsOf_28 (ar_w4 ha0) h3 ?_
        refine y_iadd (pc := 29) dX4_worthsOf_29 ?_
        refine y_leti (fun x6 => ?_)
        refine y_istore_n (L' := [some (rv a0), some (iv a1), some (iv x6), some (iv a3)]) (pc := 30) dX4_worthsOf_30 (by decide) rfl rfl ?_
        refine y_iinc (L' := [some (rv a0), some (iv a1), some (iv x6), some (iv (a3 + 1))]) (pc := 31) dX4_worthsOf_31 rfl (by decide) rfl rfl ?_
        refine y_goto (tgt := 4) (pc := 34) dX4_worthsOf_34 (by decide) ?_
        exact y_sub (ls_s (ls_s (ls_s (ls_s ls_0)))) (ih M a0 a1 x6 (a3 + 1) ha0)
def m_X4_worthsOf (n : Nat) (M : Mem) (a0 : Nat) (a1 : Int) : Rs := if isW a0 then (m_X4_worthsOf_4 n n M a0 a1 0 0) else none
theorem y_X4_worthsOf (n : Nat) (M : Mem) (a0 : Nat) (a1 : Int) : Y RX4 cX4_worthsOf 4 0 0 none 0 [some (rv a0), some (iv a1), none, none] [] M (m_X4_worthsOf n M a0 a1) := by
  unfold m_X4_worthsOf
  refine y_gd (fun ha0 => ?_)
  refine y_iconst (pc := 0) dX4_worthsOf_0 ?_
  refine y_istore_n (L' := [some (rv a0), some (iv a1), some (iv 0), none]) (pc := 1) dX4_worthsOf_1 (by decide) rfl rfl ?_
  refine y_iconst (pc := 2) dX4_worthsOf_2 ?_
  refine y_istore_n (L' := [some (rv a0), some (iv a1), some (iv 0), some (iv 0)]) (pc := 3) dX4_worthsOf_3 (by decide) rfl rfl ?_
  exact y_sub (ls_s (ls_s (ls_s (ls_s ls_0)))) (t_X4_worthsOf_4 n n M a0 a1 0 0 ha0)
theorem c_X4_worthsOf (n : Nat) (M : Mem) (a0 : Nat) (a1 : Int) : ∀ res : Int × Mem, m_X4_worthsOf n M a0 a1 = some res → CTi none yX4_worthsOf cX4_worthsOf 4 (some .int) 0 [rv a0, iv a1] M res := CTi_of (by decide +kernel) rfl (Nat.le_of_ble_eq_true rfl) rfl (y_X4_worthsOf n M a0 a1)
def m_X4_nobodysThings_4 (n : Nat) : Nat → Mem → Nat → Int → Int → Rs
  | 0, _, _, _, _ => none
  | t + 1, M, a0, a1, a2 => if I32 a2 then (if (rd M a0 7) ≤ a2 then (some (a1, M)) else (if 0 ≤ a2 ∧ a2 < 8 then (if (rd M (a0 + 6) (Int.toNat a2)) = (-1) then ((m_X4_nobodysThings_4 n t) M a0 (bOr a1 (bShl 1 a2)) (a2 + 1)) else ((m_X4_nobodysThings_4 n t) M a0 a1 (a2 + 1))) else none)) else none
theorem t_X4_nobodysThings_4 (n : Nat) : ∀ (t : Nat) (M : Mem) (a0 : Nat) (a1 : Int) (a2 : Int), isW a0 → Y RX4 cX4_nobodysThings 3 0 0 none 4 [some (rv a0), some (iv a1), some (iv a2)] [] M (m_X4_nobodysThings_4 n t M a0 a1 a2) := by
  intro t
  induction t with
  | zero => intro M a0 a1 a2 ha0; exact y_none
  | succ t ih =>
    intro M a0 a1 a2 ha0
    rewrite [m_X4_nobodysThings_4]
    refine y_iload_n (pc := 4) dX4_nobodysThings_4 rfl ?_
    refine y_aload_n (pc := 5) dX4_nobodysThings_5 rfl ?_
    refine y_getint (pc := 6) (g_X4_34 ha0) dX4_nobodysThings_6 ?_
    refine y_gd (fun h1 => ?_)
    refine y_icmp_ge (off := 25) (tgt := 34) (pc := 9) dX4_nobodysThings_9 (by decide) h1 (rd_rng _ _ _) (fun h2 => ?_) (fun h2 => ?_)
    · refine y_iload_n (pc := 34) dX4_nobodysThings_34 rfl ?_
      exact y_iret (pc := 35) dX4_nobodysThings_35
    · refine y_aload_n (pc := 12) dX4_nobodysThings_12 rfl ?_
      refine y_getref (pc := 13) (x := (a0 + 6)) (g_X4_31 ha0) dX4_nobodysThings_13 ?_
      refine y_iload_n (pc := 16) dX4_nobodysThings_16 rfl ?_
      refine y_gd (fun h3 => ?_)
      refine y_iald (pc := 17) dX4_nobodysThings_17 (ar_w6 ha0) h3 ?_
      refine y_iconst (pc := 18) dX4_nobodysThings_18 ?_
      refine y_icmp_ne (off := 9) (tgt := 28) (pc := 19) dX4_nobodysThings_19 (by decide) (rd_rng _ _ _) (by decide) (fun h4 => ?_) (fun h4 => ?_)
      · refine y_iinc (L' := [some (rv a0), some (iv a1), some (iv (a2 + 1))]) (pc := 28) dX4_nobodysThings_28 rfl (by decide) rfl rfl ?_
        refine y_goto (tgt := 4) (pc := 31) dX4_nobodysThings_31 (by decide) ?_
        exact y_sub (ls_s (ls_s (ls_s ls_0))) (ih M a0 a1 (a2 + 1) ha0)
      · refine y_iload_n (pc := 22) dX4_nobodysThings_22 rfl ?_
        refine y_iconst (pc := 23) dX4_nobodysThings_23 ?_
        refine y_iload_n (pc := 24) dX4_nobodysThings_24 rfl ?_
        refine y_ishl (pc := 25) dX4_nobodysThings_25 ?_
        refine y_ior (pc := 26) dX4_nobodysThings_26 ?_
        refine y_istore_n (L' := [some (rv a0), some (iv (bOr a1 (bShl 1 a2))), some (iv a2)]) (pc := 27) dX4_nobodysThings_27 (by decide) rfl rfl ?_
        refine y_iinc (L' := [some (rv a0), some (iv (bOr a1 (bShl 1 a2))), some (iv (a2 + 1))]) (pc := 28) dX4_nobodysThings_28 rfl (by decide) rfl rfl ?_
        refine y_goto (tgt := 4) (pc := 31) dX4_nobodysThings_31 (by decide) ?_
        exact y_sub (ls_s (ls_s (ls_s ls_0))) (ih M a0 (bOr a1 (bShl 1 a2)) (a2 + 1) ha0)
def m_X4_nobodysThings (n : Nat) (M : Mem) (a0 : Nat) : Rs := if isW a0 then (m_X4_nobodysThings_4 n n M a0 0 0) else none
theorem y_X4_nobodysThings (n : Nat) (M : Mem) (a0 : Nat) : Y RX4 cX4_nobodysThings 3 0 0 none 0 [some (rv a0), none, none] [] M (m_X4_nobodysThings n M a0) := by
  unfold m_X4_nobodysThings
  refine y_gd (fun ha0 => ?_)
  refine y_iconst (pc := 0) dX4_nobodysThings_0 ?_
  refine y_istore_n (L' := [some (rv a0), some (iv 0), none]) (pc := 1) dX4_nobodysThings_1 (by decide) rfl rfl ?_
  refine y_iconst (pc := 2) dX4_nobodysThings_2 ?_
  refine y_istore_n (L' := [some (rv a0), some (iv 0), some (iv 0)]) (pc := 3) dX4_nobodysThings_3 (by decide) rfl rfl ?_
  exact y_sub (ls_s (ls_s (ls_s ls_0))) (t_X4_nobodysThings_4 n n M a0 0 0 ha0)
theorem c_X4_nobodysThings (n : Nat) (M : Mem) (a0 : Nat) : ∀ res : Int × Mem, m_X4_nobodysThings n M a0 = some res → CTi none yX4_nobodysThings cX4_nobodysThings 3 (some .int) 0 [rv a0] M res := CTi_of (by decide +kernel) rfl (Nat.le_of_ble_eq_true rfl) rfl (y_X4_nobodysThings n M a0)
def m_X4_ownedThings (n : Nat) (M : Mem) (a0 : Nat) : Rs := if isW a0 then (bd (m_X4_nobodysThings n M a0) (fun r2 M1 => bd (m_J6_bitCount_0f7a4 n M1 r2) (fun r4 M3 => some (((rd M a0 7) - r4), M3)))) else none
theorem y_X4_ownedThings (n : Nat) (M : Mem) (a0 : Nat) : Y RX4 cX4_ownedThings 1 1 0 none 0 [some (rv a0)] [] M (m_X4_ownedThings n M a0) := by
  unfold m_X4_ownedThings
  refine y_gd (fun ha0 => ?_)
  refine y_aload_n (pc := 0) dX4_ownedThings_0 rfl ?_
  refine y_getint (pc := 1) (g_X4_34 ha0) dX4_ownedThings_1 ?_
  refine y_aload_n (pc := 4) dX4_ownedThings_4 rfl ?_
  refine y_callVi (pc := 5) v_X4_nobodysThings l_X4_77 dX4_ownedThings_5 (c_X4_nobodysThings n _ _) (fun _ h => nomatch h) rfl (rc_X4 ha0) rfl (by decide) (by decide) (Nat.le_of_ble_eq_true rfl) (fun r2 M1 _ => ?_)
  refine y_callSi (pc := 8) s_J6_bitCount_0f7a4 l_X4_81 dX4_ownedThings_8 (c_J6_bitCount_0f7a4 n _ _) (fun _ h => nomatch h) rfl rfl (by decide) (by decide) (Nat.le_of_ble_eq_true rfl) (fun r4 M3 _ => ?_)
  refine y_isub (pc := 11) dX4_ownedThings_11 ?_
  exact y_iret (pc := 12) dX4_ownedThings_12
theorem c_X4_ownedThings (n : Nat) (M : Mem) (a0 : Nat) : ∀ res : Int × Mem, m_X4_ownedThings n M a0 = some res → CTi none yX4_ownedThings cX4_ownedThings 1 (some .int) 1 [rv a0] M res := CTi_of (by decide +kernel) rfl (Nat.le_of_ble_eq_true rfl) rfl (y_X4_ownedThings n M a0)
def m_X4_peopleOn_4 (n : Nat) : Nat → Mem → Nat → Int → Int → Int → Rs
  | 0, _, _, _, _, _ => none
  | t + 1, M, a0, a1, a2, a3 => if I32 a3 then (if (rd M a0 12) ≤ a3 then (some (a2, M)) else (if 0 ≤ a3 ∧ a3 < 5 then (if I32 a1 then (if (rd M (a0 + 10) (Int.toNat a3)) = a1 then ((m_X4_peopleOn_4 n t) M a0 a1 (bOr a2 (bShl 1 a3)) (a3 + 1)) else ((m_X4_peopleOn_4 n t) M a0 a1 a2 (a3 + 1))) else none) else none)) else none
theorem t_X4_peopleOn_4 (n : Nat) : ∀ (t : Nat) (M : Mem) (a0 : Nat) (a1 : Int) (a2 : Int) (a3 : Int), isW a0 → Y RX4 cX4_peopleOn 4 0 0 none 4 [some (rv a0), some (iv a1), some (iv a2), some (iv a3)] [] M (m_X4_peopleOn_4 n t M a0 a1 a2 a3) := by
  intro t
  induction t with
  | zero => intro M a0 a1 a2 a3 ha0; exact y_none
  | succ t ih =>
    intro M a0 a1 a2 a3 ha0
    rewrite [m_X4_peopleOn_4]
    refine y_iload_n (pc := 4) dX4_peopleOn_4 rfl ?_
    refine y_aload_n (pc := 5) dX4_peopleOn_5 rfl ?_
    refine y_getint (pc := 6) (g_X4_49 ha0) dX4_peopleOn_6 ?_
    refine y_gd (fun h1 => ?_)
    refine y_icmp_ge (off := 25) (tgt := 34) (pc := 9) dX4_peopleOn_9 (by decide) h1 (rd_rng _ _ _) (fun h2 => ?_) (fun h2 => ?_)
    · refine y_iload_n (pc := 34) dX4_peopleOn_34 rfl ?_
      exact y_iret (pc := 35) dX4_peopleOn_35
    · refine y_aload_n (pc := 12) dX4_peopleOn_12 rfl ?_
      refine y_getref (pc := 13) (x := (a0 + 10)) (g_X4_46 ha0) dX4_peopleOn_13 ?_
      refine y_iload_n (pc := 16) dX4_peopleOn_16 rfl ?_
      refine y_gd (fun h3 => ?_)
      refine y_iald (pc := 17) dX4_peopleOn_17 (ar_w10 ha0) h3 ?_
      refine y_iload_n (pc := 18) dX4_peopleOn_18 rfl ?_
      refine y_gd (fun h4 => ?_)
      refine y_icmp_ne (off := 9) (tgt := 28) (pc := 19) dX4_peopleOn_19 (by decide) (rd_rng _ _ _) h4 (fun h5 => ?_) (fun h5 => ?_)
      · refine y_iinc (L' := [some (rv a0), some (iv a1), some (iv a2), some (iv (a3 + 1))]) (pc := 28) dX4_peopleOn_28 rfl (by decide) rfl rfl ?_
        refine y_goto (tgt := 4) (pc := 31) dX4_peopleOn_31 (by decide) ?_
        exact y_sub (ls_s (ls_s (ls_s (ls_s ls_0)))) (ih M a0 a1 a2 (a3 + 1) ha0)
      · refine y_iload_n (pc := 22) dX4_peopleOn_22 rfl ?_
        refine y_iconst (pc := 23) dX4_peopleOn_23 ?_
        refine y_iload_n (pc := 24) dX4_peopleOn_24 rfl ?_
        refine y_ishl (pc := 25) dX4_peopleOn_25 ?_
        refine y_ior (pc := 26) dX4_peopleOn_26 ?_
        refine y_istore_n (L' := [some (rv a0), some (iv a1), some (iv (bOr a2 (bShl 1 a3))), some (iv a3)]) (pc := 27) dX4_peopleOn_27 (by decide) rfl rfl ?_
        refine y_iinc (L' := [some (rv a0), some (iv a1), some (iv (bOr a2 (bShl 1 a3))), some (iv (a3 + 1))]) (pc := 28) dX4_peopleOn_28 rfl (by decide) rfl rfl ?_
        refine y_goto (tgt := 4) (pc := 31) dX4_peopleOn_31 (by decide) ?_
        exact y_sub (ls_s (ls_s (ls_s (ls_s ls_0)))) (ih M a0 a1 (bOr a2 (bShl 1 a3)) (a3 + 1) ha0)
def m_X4_peopleOn (n : Nat) (M : Mem) (a0 : Nat) (a1 : Int) : Rs := if isW a0 then (m_X4_peopleOn_4 n n M a0 a1 0 0) else none
theorem y_X4_peopleOn (n : Nat) (M : Mem) (a0 : Nat) (a1 : Int) : Y RX4 cX4_peopleOn 4 0 0 none 0 [some (rv a0), some (iv a1), none, none] [] M (m_X4_peopleOn n M a0 a1) := by
  unfold m_X4_peopleOn
  refine y_gd (fun ha0 => ?_)
  refine y_iconst (pc := 0) dX4_peopleOn_0 ?_
  refine y_istore_n (L' := [some (rv a0), some (iv a1), some (iv 0), none]) (pc := 1) dX4_peopleOn_1 (by decide) rfl rfl ?_
  refine y_iconst (pc := 2) dX4_peopleOn_2 ?_
  refine y_istore_n (L' := [some (rv a0), some (iv a1), some (iv 0), some (iv 0)]) (pc := 3) dX4_peopleOn_3 (by decide) rfl rfl ?_
  exact y_sub (ls_s (ls_s (ls_s (ls_s ls_0)))) (t_X4_peopleOn_4 n n M a0 a1 0 0 ha0)
theorem c_X4_peopleOn (n : Nat) (M : Mem) (a0 : Nat) (a1 : Int) : ∀ res : Int × Mem, m_X4_peopleOn n M a0 a1 = some res → CTi none yX4_peopleOn cX4_peopleOn 4 (some .int) 0 [rv a0, iv a1] M res := CTi_of (by decide +kernel) rfl (Nat.le_of_ble_eq_true rfl) rfl (y_X4_peopleOn n M a0 a1)
def m_X4_thingsOn_4 (n : Nat) : Nat → Mem → Nat → Int → Int → Int → Rs
  | 0, _, _, _, _, _ => none
  | t + 1, M, a0, a1, a2, a3 => if I32 a3 then (if (rd M a0 7) ≤ a3 then (some (a2, M)) else (if 0 ≤ a3 ∧ a3 < 8 then (if I32 a1 then (if (rd M (a0 + 5) (Int.toNat a3)) = a1 then ((m_X4_thingsOn_4 n t) M a0 a1 (bOr a2 (bShl 1 a3)) (a3 + 1)) else ((m_X4_thingsOn_4 n t) M a0 a1 a2 (a3 + 1))) else none) else none)) else none
theorem t_X4_thingsOn_4 (n : Nat) : ∀ (t : Nat) (M : Mem) (a0 : Nat) (a1 : Int) (a2 : Int) (a3 : Int), isW a0 → Y RX4 cX4_thingsOn 4 0 0 none 4 [some (rv a0), some (iv a1), some (iv a2), some (iv a3)] [] M (m_X4_thingsOn_4 n t M a0 a1 a2 a3) := by
  intro t
  induction t with
  | zero => intro M a0 a1 a2 a3 ha0; exact y_none
  | succ t ih =>
    intro M a0 a1 a2 a3 ha0
    rewrite [m_X4_thingsOn_4]
    refine y_iload_n (pc := 4) dX4_thingsOn_4 rfl ?_
    refine y_aload_n (pc := 5) dX4_thingsOn_5 rfl ?_
    refine y_getint (pc := 6) (g_X4_34 ha0) dX4_thingsOn_6 ?_
    refine y_gd (fun h1 => ?_)
    refine y_icmp_ge (off := 25) (tgt := 34) (pc := 9) dX4_thingsOn_9 (by decide) h1 (rd_rng _ _ _) (fun h2 => ?_) (fun h2 => ?_)
    · refine y_iload_n (pc := 34) dX4_thingsOn_34 rfl ?_
      exact y_iret (pc := 35) dX4_thingsOn_35
    · refine y_aload_n (pc := 12) dX4_thingsOn_12 rfl ?_
      refine y_getref (pc := 13) (x := (a0 + 5)) (g_X4_28 ha0) dX4_thingsOn_13 ?_
      refine y_iload_n (pc := 16) dX4_thingsOn_16 rfl ?_
      refine y_gd (fun h3 => ?_)
      refine y_iald (pc := 17) dX4_thingsOn_17 (ar_w5 ha0) h3 ?_
      refine y_iload_n (pc := 18) dX4_thingsOn_18 rfl ?_
      refine y_gd (fun h4 => ?_)
      refine y_icmp_ne (off := 9) (tgt := 28) (pc := 19) dX4_thingsOn_19 (by decide) (rd_rng _ _ _) h4 (fun h5 => ?_) (fun h5 => ?_)
      · refine y_iinc (L' := [some (rv a0), some (iv a1), some (iv a2), some (iv (a3 + 1))]) (pc := 28) dX4_thingsOn_28 rfl (by decide) rfl rfl ?_
        refine y_goto (tgt := 4) (pc := 31) dX4_thingsOn_31 (by decide) ?_
        exact y_sub (ls_s (ls_s (ls_s (ls_s ls_0)))) (ih M a0 a1 a2 (a3 + 1) ha0)
      · refine y_iload_n (pc := 22) dX4_thingsOn_22 rfl ?_
        refine y_iconst (pc := 23) dX4_thingsOn_23 ?_
        refine y_iload_n (pc := 24) dX4_thingsOn_24 rfl ?_
        refine y_ishl (pc := 25) dX4_thingsOn_25 ?_
        refine y_ior (pc := 26) dX4_thingsOn_26 ?_
        refine y_istore_n (L' := [some (rv a0), some (iv a1), some (iv (bOr a2 (bShl 1 a3))), some (iv a3)]) (pc := 27) dX4_thingsOn_27 (by decide) rfl rfl ?_
        refine y_iinc (L' := [some (rv a0), some (iv a1), some (iv (bOr a2 (bShl 1 a3))), some (iv (a3 + 1))]) (pc := 28) dX4_thingsOn_28 rfl (by decide) rfl rfl ?_
        refine y_goto (tgt := 4) (pc := 31) dX4_thingsOn_31 (by decide) ?_
        exact y_sub (ls_s (ls_s (ls_s (ls_s ls_0)))) (ih M a0 a1 (bOr a2 (bShl 1 a3)) (a3 + 1) ha0)
def m_X4_thingsOn (n : Nat) (M : Mem) (a0 : Nat) (a1 : Int) : Rs := if isW a0 then (m_X4_thingsOn_4 n n M a0 a1 0 0) else none
theorem y_X4_thingsOn (n : Nat) (M : Mem) (a0 : Nat) (a1 : Int) : Y RX4 cX4_thingsOn 4 0 0 none 0 [some (rv a0), some (iv a1), none, none] [] M (m_X4_thingsOn n M a0 a1) := by
  unfold m_X4_thingsOn
  refine y_gd (fun ha0 => ?_)
  refine y_iconst (pc := 0) dX4_thingsOn_0 ?_
  refine y_istore_n (L' := [some (rv a0), some (iv a1), some (iv 0), none]) (pc := 1) dX4_thingsOn_1 (by decide) rfl rfl ?_
  refine y_iconst (pc := 2) dX4_thingsOn_2 ?_
  refine y_istore_n (L' := [some (rv a0), some (iv a1), some (iv 0), some (iv 0)]) (pc := 3) dX4_thingsOn_3 (by decide) rfl rfl ?_
  exact y_sub (ls_s (ls_s (ls_s (ls_s ls_0)))) (t_X4_thingsOn_4 n n M a0 a1 0 0 ha0)
theorem c_X4_thingsOn (n : Nat) (M : Mem) (a0 : Nat) (a1 : Int) : ∀ res : Int × Mem, m_X4_thingsOn n M a0 a1 = some res → CTi none yX4_thingsOn cX4_thingsOn 4 (some .int) 0 [rv a0, iv a1] M res := CTi_of (by decide +kernel) rfl (Nat.le_of_ble_eq_true rfl) rfl (y_X4_thingsOn n M a0 a1)
def m_X5_refuse (n : Nat) (M : Mem) (a1 : Int) : Rs := if I32 (-a1) then (if (-a1) < 0 then (some (a1, M)) else (if 6 < (-a1) then (some (a1, M)) else (if 0 ≤ (-a1) ∧ (-a1) < 7 then (wr M 134 (Int.toNat (-a1)) ((rd M 134 (Int.toNat (-a1))) + 1) (fun M5 => some (a1, M5))) else none))) else none
theorem y_X5_refuse (n : Nat) (M : Mem) (a1 : Int) : Y RX5 cX5_refuse 3 0 0 none 0 [some (rv 130), some (iv a1), none] [] M (m_X5_refuse n M a1) := by
  unfold m_X5_refuse
  refine y_iload_n (pc := 0) dX5_refuse_0 rfl ?_
  refine y_ineg (pc := 1) dX5_refuse_1 ?_
  refine y_istore_n (L' := [some (rv 130), some (iv a1), some (iv (-a1))]) (pc := 2) dX5_refuse_2 (by decide) rfl rfl ?_
  refine y_iload_n (pc := 3) dX5_refuse_3 rfl ?_
  refine y_gd (fun h1 => ?_)
  refine y_if_lt (off := 19) (tgt := 23) (pc := 4) dX5_refuse_4 (by decide) h1 (fun h2 => ?_) (fun h2 => ?_)
  · refine y_iload_n (pc := 23) dX5_refuse_23 rfl ?_
    exact y_iret (pc := 24) dX5_refuse_24
  · refine y_iload_n (pc := 7) dX5_refuse_7 rfl ?_
    refine y_bipush (pc := 8) dX5_refuse_8 (by decide) ?_
    refine y_icmp_gt (off := 13) (tgt := 23) (pc := 10) dX5_refuse_10 (by decide) h1 (by decide) (fun h3 => ?_) (fun h3 => ?_)
    · refine y_iload_n (pc := 23) dX5_refuse_23 rfl ?_
      exact y_iret (pc := 24) dX5_refuse_24
    · refine y_aload_n (pc := 13) dX5_refuse_13 rfl ?_
      refine y_getref (pc := 14) (x := 134) g_X5_44 dX5_refuse_14 ?_
      refine y_iload_n (pc := 17) dX5_refuse_17 rfl ?_
      refine y_dup2 (pc := 18) dX5_refuse_18 rfl rfl ?_
      refine y_gd (fun h4 => ?_)
      refine y_iald (pc := 19) dX5_refuse_19 ar_134 h4 ?_
      refine y_iconst (pc := 20) dX5_refuse_20 ?_
      refine y_iadd (pc := 21) dX5_refuse_21 ?_
      refine y_iastw (pc := 22) dX5_refuse_22 ar_134 h4 (fun M5 => ?_)
      refine y_iload_n (pc := 23) dX5_refuse_23 rfl ?_
      exact y_iret (pc := 24) dX5_refuse_24
theorem c_X5_refuse (n : Nat) (M : Mem) (a1 : Int) : ∀ res : Int × Mem, m_X5_refuse n M a1 = some res → CTi none yX5_refuse cX5_refuse 3 (some .int) 0 [rv 130, iv a1] M res := CTi_of (by decide +kernel) rfl (Nat.le_of_ble_eq_true rfl) rfl (y_X5_refuse n M a1)
def m_X5_person (n : Nat) (M : Mem) (a1 : Int) (a2 : Int) : Rs := bd (m_X4_hasPerson n M 0 a1) (fun r2 M1 => if I32 r2 then (if r2 = 0 then (bd (m_X5_refuse n M1 (-1)) (fun r38 M37 => some (r38, M37))) else (if I32 a2 then (if a2 = 0 then (if 0 ≤ a1 ∧ a1 < 5 then (some ((rd M1 7 (Int.toNat a1)), M1)) else none) else (if a2 = 1 then (if 0 ≤ a1 ∧ a1 < 5 then (some ((rd M1 8 (Int.toNat a1)), M1)) else none) else (if a2 = 2 then (if 0 ≤ a1 ∧ a1 < 5 then (some ((rd M1 9 (Int.toNat a1)), M1)) else none) else (if a2 = 3 then (if 0 ≤ a1 ∧ a1 < 5 then (some ((rd M1 10 (Int.toNat a1)), M1)) else none) else (if a2 = 4 then (if 0 ≤ a1 ∧ a1 < 5 then (bd (m_X1_pace n M1 (rd M1 7 (Int.toNat a1)) (rd M1 8 (Int.toNat a1))) (fun r17 M16 => some (r17, M16))) else none) else (if a2 = 5 then (if 0 ≤ a1 ∧ a1 < 5 then (bd (m_X1_grabs n M1 (rd M1 7 (Int.toNat a1)) (rd M1 8 (Int.toNat a1))) (fun r21 M20 => some (r21, M20))) else none) else (if a2 = 6 then (if 0 ≤ a1 ∧ a1 < 5 then (bd (m_X1_steam n M1 (rd M1 7 (Int.toNat a1)) (rd M1 8 (Int.toNat a1))) (fun r25 M24 => some (r25, M24))) else none) else (if a2 = 7 then (bd (m_X0_begin n M1 0) (fun _ M27 => wr M27 22 13 ((rd M27 22 13) + 1) (fun M28 => bd (m_X0_look n M28) (fun _ M29 => bd (m_X0_goal n M29 a1) (fun r31 M30 => some (r31, M30)))))) else (if a2 = 8 then (bd (m_X4_worthsOf n M1 0 a1) (fun r34 M33 => some (r34, M33))) else (bd (m_X5_refuse n M1 (-2)) (fun r36 M35 => some (r36, M35)))))))))))) else none)) else none)
theorem y_X5_person (n : Nat) (M : Mem) (a1 : Int) (a2 : Int) : Y RX5 cX5_person 3 5 0 none 0 [some (rv 130), some (iv a1), some (iv a2)] [] M (m_X5_person n M a1 a2) := by
  unfold m_X5_person
  refine y_aload_n (pc := 0) dX5_person_0 rfl ?_
  refine y_getref (pc := 1) (x := 0) g_X5_10 dX5_person_1 ?_
  refine y_iload_n (pc := 4) dX5_person_4 rfl ?_
  refine y_callVi (pc := 5) v_X4_hasPerson l_X5_123 dX5_person_5 (c_X4_hasPerson n _ _ _) (fun _ h => nomatch h) rfl (rc_X4 (by decide)) rfl (by decide) (by decide) (Nat.le_of_ble_eq_true rfl) (fun r2 M1 _ => ?_)
  refine y_gd (fun h3 => ?_)
  refine y_if_ne (off := 9) (tgt := 17) (pc := 8) dX5_person_8 (by decide) h3 (fun h4 => ?_) (fun h4 => ?_)
  · refine y_iload_n (pc := 17) dX5_person_17 rfl ?_
    refine y_gd (fun h5 => ?_)
    refine y_br (fun h6 => ?_) (fun h6 => ?_)
    · refine y_tableIn (off := 50) (tgt := 68) (pc := 18) dX5_person_18 h6 (by decide) (by decide) (by decide) rfl (by decide) ?_
      refine y_aload_n (pc := 68) dX5_person_68 rfl ?_
      refine y_getref (pc := 69) (x := 0) g_X5_10 dX5_person_69 ?_
      refine y_getref (pc := 72) (x := 7) (g_X5_126 (by decide)) dX5_person_72 ?_
      refine y_iload_n (pc := 75) dX5_person_75 rfl ?_
      refine y_gd (fun h7 => ?_)
      refine y_iald (pc := 76) dX5_person_76 ar_7 h7 ?_
      exact y_iret (pc := 77) dX5_person_77
    · refine y_br (fun h8 => ?_) (fun h8 => ?_)
      · refine y_tableIn (off := 60) (tgt := 78) (pc := 18) dX5_person_18 h8 (by decide) (by decide) (by decide) rfl (by decide) ?_
        refine y_aload_n (pc := 78) dX5_person_78 rfl ?_
        refine y_getref (pc := 79) (x := 0) g_X5_10 dX5_person_79 ?_
        refine y_getref (pc := 82) (x := 8) (g_X5_129 (by decide)) dX5_person_82 ?_
        refine y_iload_n (pc := 85) dX5_person_85 rfl ?_
        refine y_gd (fun h9 => ?_)
        refine y_iald (pc := 86) dX5_person_86 ar_8 h9 ?_
        exact y_iret (pc := 87) dX5_person_87
      · refine y_br (fun h10 => ?_) (fun h10 => ?_)
        · refine y_tableIn (off := 70) (tgt := 88) (pc := 18) dX5_person_18 h10 (by decide) (by decide) (by decide) rfl (by decide) ?_
          refine y_aload_n (pc := 88) dX5_person_88 rfl ?_
          refine y_getref (pc := 89) (x := 0) g_X5_10 dX5_person_89 ?_
          refine y_getref (pc := 92) (x := 9) (g_X5_132 (by decide)) dX5_person_92 ?_
          refine y_iload_n (pc := 95) dX5_person_95 rfl ?_
          refine y_gd (fun h11 => ?_)
          refine y_iald (pc := 96) dX5_person_96 ar_9 h11 ?_
          exact y_iret (pc := 97) dX5_person_97
        · refine y_br (fun h12 => ?_) (fun h12 => ?_)
          · refine y_tableIn (off := 80) (tgt := 98) (pc := 18) dX5_person_18 h12 (by decide) (by decide) (by decide) rfl (by decide) ?_
            refine y_aload_n (pc := 98) dX5_person_98 rfl ?_
            refine y_getref (pc := 99) (x := 0) g_X5_10 dX5_person_99 ?_
            refine y_getref (pc := 102) (x := 10) (g_X5_135 (by decide)) dX5_person_102 ?_
            refine y_iload_n (pc := 105) dX5_person_105 rfl ?_
            refine y_gd (fun h13 => ?_)
            refine y_iald (pc := 106) dX5_person_106 ar_10 h13 ?_
            exact y_iret (pc := 107) dX5_person_107
          · refine y_br (fun h14 => ?_) (fun h14 => ?_)
            · refine y_tableIn (off := 90) (tgt := 108) (pc := 18) dX5_person_18 h14 (by decide) (by decide) (by decide) rfl (by decide) ?_
              refine y_aload_n (pc := 108) dX5_person_108 rfl ?_
              refine y_getref (pc := 109) (x := 0) g_X5_10 dX5_person_109 ?_
              refine y_getref (pc := 112) (x := 7) (g_X5_126 (by decide)) dX5_person_112 ?_
              refine y_iload_n (pc := 115) dX5_person_115 rfl ?_
              refine y_gd (fun h15 => ?_)
              refine y_iald (pc := 116) dX5_person_116 ar_7 h15 ?_
              refine y_aload_n (pc := 117) dX5_person_117 rfl ?_
              refine y_getref (pc := 118) (x := 0) g_X5_10 dX5_person_118 ?_
              refine y_getref (pc := 121) (x := 8) (g_X5_129 (by decide)) dX5_person_121 ?_
              refine y_iload_n (pc := 124) dX5_person_124 rfl ?_
              refine y_iald (pc := 125) dX5_person_125 ar_8 h15 ?_
              refine y_callSi (pc := 126) s_X1_pace l_X5_138 dX5_person_126 (c_X1_pace n _ _ _) (fun _ h => nomatch h) rfl rfl (by decide) (by decide) (Nat.le_of_ble_eq_true rfl) (fun r17 M16 _ => ?_)
              exact y_iret (pc := 129) dX5_person_129
            · refine y_br (fun h18 => ?_) (fun h18 => ?_)
              · refine y_tableIn (off := 112) (tgt := 130) (pc := 18) dX5_person_18 h18 (by decide) (by decide) (by decide) rfl (by decide) ?_
                refine y_aload_n (pc := 130) dX5_person_130 rfl ?_
                refine y_getref (pc := 131) (x := 0) g_X5_10 dX5_person_131 ?_
                refine y_getref (pc := 134) (x := 7) (g_X5_126 (by decide)) dX5_person_134 ?_
                refine y_iload_n (pc := 137) dX5_person_137 rfl ?_
                refine y_gd (fun h19 => ?_)
                refine y_iald (pc := 138) dX5_person_138 ar_7 h19 ?_
                refine y_aload_n (pc := 139) dX5_person_139 rfl ?_
                refine y_getref (pc := 140) (x := 0) g_X5_10 dX5_person_140 ?_
                refine y_getref (pc := 143) (x := 8) (g_X5_129 (by decide)) dX5_person_143 ?_
                refine y_iload_n (pc := 146) dX5_person_146 rfl ?_
                refine y_iald (pc := 147) dX5_person_147 ar_8 h19 ?_
                refine y_callSi (pc := 148) s_X1_grabs l_X5_144 dX5_person_148 (c_X1_grabs n _ _ _) (fun _ h => nomatch h) rfl rfl (by decide) (by decide) (Nat.le_of_ble_eq_true rfl) (fun r21 M20 _ => ?_)
                exact y_iret (pc := 151) dX5_person_151
              · refine y_br (fun h22 => ?_) (fun h22 => ?_)
                · refine y_tableIn (off := 134) (tgt := 152) (pc := 18) dX5_person_18 h22 (by decide) (by decide) (by decide) rfl (by decide) ?_
                  refine y_aload_n (pc := 152) dX5_person_152 rfl ?_
                  refine y_getref (pc := 153) (x := 0) g_X5_10 dX5_person_153 ?_
                  refine y_getref (pc := 156) (x := 7) (g_X5_126 (by decide)) dX5_person_156 ?_
                  refine y_iload_n (pc := 159) dX5_person_159 rfl ?_
                  refine y_gd (fun h23 => ?_)
                  refine y_iald (pc := 160) dX5_person_160 ar_7 h23 ?_
                  refine y_aload_n (pc := 161) dX5_person_161 rfl ?_
                  refine y_getref (pc := 162) (x := 0) g_X5_10 dX5_person_162 ?_
                  refine y_getref (pc := 165) (x := 8) (g_X5_129 (by decide)) dX5_person_165 ?_
                  refine y_iload_n (pc := 168) dX5_person_168 rfl ?_
                  refine y_iald (pc := 169) dX5_person_169 ar_8 h23 ?_
                  refine y_callSi (pc := 170) s_X1_steam l_X5_147 dX5_person_170 (c_X1_steam n _ _ _) (fun _ h => nomatch h) rfl rfl (by decide) (by decide) (Nat.le_of_ble_eq_true rfl) (fun r25 M24 _ => ?_)
                  exact y_iret (pc := 173) dX5_person_173
                · refine y_br (fun h26 => ?_) (fun h26 => ?_)
                  · refine y_tableIn (off := 156) (tgt := 174) (pc := 18) dX5_person_18 h26 (by decide) (by decide) (by decide) rfl (by decide) ?_
                    refine y_aload_n (pc := 174) dX5_person_174 rfl ?_
                    refine y_getref (pc := 175) (x := 129) g_X5_50 dX5_person_175 ?_
                    refine y_aload_n (pc := 178) dX5_person_178 rfl ?_
                    refine y_getref (pc := 179) (x := 0) g_X5_10 dX5_person_179 ?_
                    refine y_callVv (pc := 182) v_X0_begin l_X5_67 dX5_person_182 (c_X0_begin n _ _) (fun _ h => nomatch h) rfl rc_X0 rfl (by decide) (by decide) (Nat.le_of_ble_eq_true rfl) (fun _ M27 _ => ?_)
                    refine y_aload_n (pc := 185) dX5_person_185 rfl ?_
                    refine y_getref (pc := 186) (x := 129) g_X5_50 dX5_person_186 ?_
                    refine y_getref (pc := 189) (x := 22) g_X5_81 dX5_person_189 ?_
                    refine y_dup (pc := 192) dX5_person_192 rfl ?_
                    refine y_getint (pc := 193) (g_X5_116 (by decide)) dX5_person_193 ?_
                    refine y_iconst (pc := 196) dX5_person_196 ?_
                    refine y_iadd (pc := 197) dX5_person_197 ?_
                    refine y_putintw (pc := 198) (pf_X5_116 (by decide)) dX5_person_198 (fun M28 => ?_)
                    refine y_aload_n (pc := 201) dX5_person_201 rfl ?_
                    refine y_getref (pc := 202) (x := 129) g_X5_50 dX5_person_202 ?_
                    refine y_callVv (pc := 205) v_X0_look l_X5_150 dX5_person_205 (c_X0_look n _) (fun _ h => nomatch h) rfl rc_X0 rfl (by decide) (by decide) (Nat.le_of_ble_eq_true rfl) (fun _ M29 _ => ?_)
                    refine y_aload_n (pc := 208) dX5_person_208 rfl ?_
                    refine y_getref (pc := 209) (x := 129) g_X5_50 dX5_person_209 ?_
                    refine y_iload_n (pc := 212) dX5_person_212 rfl ?_
                    refine y_callVi (pc := 213) v_X0_goal l_X5_153 dX5_person_213 (c_X0_goal n _ _) (fun _ h => nomatch h) rfl rc_X0 rfl (by decide) (by decide) (Nat.le_of_ble_eq_true rfl) (fun r31 M30 _ => ?_)
                    exact y_iret (pc := 216) dX5_person_216
                  · refine y_br (fun h32 => ?_) (fun h32 => ?_)
                    · refine y_tableIn (off := 199) (tgt := 217) (pc := 18) dX5_person_18 h32 (by decide) (by decide) (by decide) rfl (by decide) ?_
                      refine y_aload_n (pc := 217) dX5_person_217 rfl ?_
                      refine y_getref (pc := 218) (x := 0) g_X5_10 dX5_person_218 ?_
                      refine y_iload_n (pc := 221) dX5_person_221 rfl ?_
                      refine y_callVi (pc := 222) v_X4_worthsOf l_X5_156 dX5_person_222 (c_X4_worthsOf n _ _ _) (fun _ h => nomatch h) rfl (rc_X4 (by decide)) rfl (by decide) (by decide) (Nat.le_of_ble_eq_true rfl) (fun r34 M33 _ => ?_)
                      exact y_iret (pc := 225) dX5_person_225
                    · refine y_tableOut (tgt := 226) (pc := 18) dX5_person_18 h5 (by omega) (by decide) ?_
                      refine y_aload_n (pc := 226) dX5_person_226 rfl ?_
                      refine y_bipush (pc := 227) dX5_person_227 (by decide) ?_
                      refine y_callVi (pc := 229) v_X5_refuse l_X5_60 dX5_person_229 (c_X5_refuse n _ _) (fun _ h => nomatch h) rfl rc_X5 rfl (by decide) (by decide) (Nat.le_of_ble_eq_true rfl) (fun r36 M35 _ => ?_)
                      exact y_iret (pc := 232) dX5_person_232
  · refine y_aload_n (pc := 11) dX5_person_11 rfl ?_
    refine y_iconst (pc := 12) dX5_person_12 ?_
    refine y_callVi (pc := 13) v_X5_refuse l_X5_60 dX5_person_13 (c_X5_refuse n _ _) (fun _ h => nomatch h) rfl rc_X5 rfl (by decide) (by decide) (Nat.le_of_ble_eq_true rfl) (fun r38 M37 _ => ?_)
    exact y_iret (pc := 16) dX5_person_16
theorem c_X5_person (n : Nat) (M : Mem) (a1 : Int) (a2 : Int) : ∀ res : Int × Mem, m_X5_person n M a1 a2 = some res → CTi none yX5_person cX5_person 3 (some .int) 5 [rv 130, iv a1, iv a2] M res := CTi_of (by decide +kernel) rfl (Nat.le_of_ble_eq_true rfl) rfl (y_X5_person n M a1 a2)
def m_X5_orNone (n : Nat) (M : Mem) (a0 : Int) : Rs := if I32 a0 then (if a0 = (-1) then (some ((-9), M)) else (some (a0, M))) else none
theorem y_X5_orNone (n : Nat) (M : Mem) (a0 : Int) : Y RX5 cX5_orNone 1 0 0 none 0 [some (iv a0)] [] M (m_X5_orNone n M a0) := by
  unfold m_X5_orNone
  refine y_iload_n (pc := 0) dX5_orNone_0 rfl ?_
  refine y_iconst (pc := 1) dX5_orNone_1 ?_
  refine y_gd (fun h1 => ?_)
  refine y_icmp_ne (off := 8) (tgt := 10) (pc := 2) dX5_orNone_2 (by decide) h1 (by decide) (fun h2 => ?_) (fun h2 => ?_)
  · refine y_iload_n (pc := 10) dX5_orNone_10 rfl ?_
    exact y_iret (pc := 11) dX5_orNone_11
  · refine y_bipush (pc := 5) dX5_orNone_5 (by decide) ?_
    refine y_goto (tgt := 11) (pc := 7) dX5_orNone_7 (by decide) ?_
    exact y_iret (pc := 11) dX5_orNone_11
theorem c_X5_orNone (n : Nat) (M : Mem) (a0 : Int) : ∀ res : Int × Mem, m_X5_orNone n M a0 = some res → CTi none yX5_orNone cX5_orNone 1 (some .int) 0 [iv a0] M res := CTi_of (by decide +kernel) rfl (Nat.le_of_ble_eq_true rfl) rfl (y_X5_orNone n M a0)
def m_X5_thing (n : Nat) (M : Mem) (a1 : Int) (a2 : Int) : Rs := bd (m_X4_hasThing n M 0 a1) (fun r2 M1 => if I32 r2 then (if r2 = 0 then (bd (m_X5_refuse n M1 (-1)) (fun r17 M16 => some (r17, M16))) else (if I32 a2 then (if a2 = 0 then (if 0 ≤ a1 ∧ a1 < 8 then (some ((rd M1 4 (Int.toNat a1)), M1)) else none) else (if a2 = 1 then (if 0 ≤ a1 ∧ a1 < 8 then (some ((rd M1 5 (Int.toNat a1)), M1)) else none) else (if a2 = 2 then (if 0 ≤ a1 ∧ a1 < 8 then (bd (m_X5_orNone n M1 (rd M1 6 (Int.toNat a1))) (fun r13 M12 => some (r13, M12))) else none) else (bd (m_X5_refuse n M1 (-2)) (fun r15 M14 => some (r15, M14)))))) else none)) else none)
theorem y_X5_thing (n : Nat) (M : Mem) (a1 : Int) (a2 : Int) : Y RX5 cX5_thing 3 1 0 none 0 [some (rv 130), some (iv a1), some (iv a2)] [] M (m_X5_thing n M a1 a2) := by
  unfold m_X5_thing
  refine y_aload_n (pc := 0) dX5_thing_0 rfl ?_
  refine y_getref (pc := 1) (x := 0) g_X5_10 dX5_thing_1 ?_
  refine y_iload_n (pc := 4) dX5_thing_4 rfl ?_
  refine y_callVi (pc := 5) v_X4_hasThing l_X5_159 dX5_thing_5 (c_X4_hasThing n _ _ _) (fun _ h => nomatch h) rfl (rc_X4 (by decide)) rfl (by decide) (by decide) (Nat.le_of_ble_eq_true rfl) (fun r2 M1 _ => ?_)
  refine y_gd (fun h3 => ?_)
  refine y_if_ne (off := 9) (tgt := 17) (pc := 8) dX5_thing_8 (by decide) h3 (fun h4 => ?_) (fun h4 => ?_)
  · refine y_iload_n (pc := 17) dX5_thing_17 rfl ?_
    refine y_gd (fun h5 => ?_)
    refine y_br (fun h6 => ?_) (fun h6 => ?_)
    · refine y_tableIn (off := 26) (tgt := 44) (pc := 18) dX5_thing_18 h6 (by decide) (by decide) (by decide) rfl (by decide) ?_
      refine y_aload_n (pc := 44) dX5_thing_44 rfl ?_
      refine y_getref (pc := 45) (x := 0) g_X5_10 dX5_thing_45 ?_
      refine y_getref (pc := 48) (x := 4) (g_X5_162 (by decide)) dX5_thing_48 ?_
      refine y_iload_n (pc := 51) dX5_thing_51 rfl ?_
      refine y_gd (fun h7 => ?_)
      refine y_iald (pc := 52) dX5_thing_52 ar_4 h7 ?_
      exact y_iret (pc := 53) dX5_thing_53
    · refine y_br (fun h8 => ?_) (fun h8 => ?_)
      · refine y_tableIn (off := 36) (tgt := 54) (pc := 18) dX5_thing_18 h8 (by decide) (by decide) (by decide) rfl (by decide) ?_
        refine y_aload_n (pc := 54) dX5_thing_54 rfl ?_
        refine y_getref (pc := 55) (x := 0) g_X5_10 dX5_thing_55 ?_
        refine y_getref (pc := 58) (x := 5) (g_X5_165 (by decide)) dX5_thing_58 ?_
        refine y_iload_n (pc := 61) dX5_thing_61 rfl ?_
        refine y_gd (fun h9 => ?_)
        refine y_iald (pc := 62) dX5_thing_62 ar_5 h9 ?_
        exact y_iret (pc := 63) dX5_thing_63
      · refine y_br (fun h10 => ?_) (fun h10 => ?_)
        · refine y_tableIn (off := 46) (tgt := 64) (pc := 18) dX5_thing_18 h10 (by decide) (by decide) (by decide) rfl (by decide) ?_
          refine y_aload_n (pc := 64) dX5_thing_64 rfl ?_
          refine y_getref (pc := 65) (x := 0) g_X5_10 dX5_thing_65 ?_
          refine y_getref (pc := 68) (x := 6) (g_X5_168 (by decide)) dX5_thing_68 ?_
          refine y_iload_n (pc := 71) dX5_thing_71 rfl ?_
          refine y_gd (fun h11 => ?_)
          refine y_iald (pc := 72) dX5_thing_72 ar_6 h11 ?_
          refine y_callSi (pc := 73) s_X5_orNone l_X5_171 dX5_thing_73 (c_X5_orNone n _ _) (fun _ h => nomatch h) rfl rfl (by decide) (by decide) (Nat.le_of_ble_eq_true rfl) (fun r13 M12 _ => ?_)
          exact y_iret (pc := 76) dX5_thing_76
        · refine y_tableOut (tgt := 77) (pc := 18) dX5_thing_18 h5 (by omega) (by decide) ?_
          refine y_aload_n (pc := 77) dX5_thing_77 rfl ?_
          refine y_bipush (pc := 78) dX5_thing_78 (by decide) ?_
          refine y_callVi (pc := 80) v_X5_refuse l_X5_60 dX5_thing_80 (c_X5_refuse n _ _) (fun _ h => nomatch h) rfl rc_X5 rfl (by decide) (by decide) (Nat.le_of_ble_eq_true rfl) (fun r15 M14 _ => ?_)
          exact y_iret (pc := 83) dX5_thing_83
  · refine y_aload_n (pc := 11) dX5_thing_11 rfl ?_
    refine y_iconst (pc := 12) dX5_thing_12 ?_
    refine y_callVi (pc := 13) v_X5_refuse l_X5_60 dX5_thing_13 (c_X5_refuse n _ _) (fun _ h => nomatch h) rfl rc_X5 rfl (by decide) (by decide) (Nat.le_of_ble_eq_true rfl) (fun r17 M16 _ => ?_)
    exact y_iret (pc := 16) dX5_thing_16
theorem c_X5_thing (n : Nat) (M : Mem) (a1 : Int) (a2 : Int) : ∀ res : Int × Mem, m_X5_thing n M a1 a2 = some res → CTi none yX5_thing cX5_thing 3 (some .int) 1 [rv 130, iv a1, iv a2] M res := CTi_of (by decide +kernel) rfl (Nat.le_of_ble_eq_true rfl) rfl (y_X5_thing n M a1 a2)
def m_X5_cell_22 (n : Nat) (M : Mem) : Rs := bd (m_X5_refuse n M (-2)) (fun r2 M1 => some (r2, M1))
theorem t_X5_cell_22 (n : Nat) (M : Mem) : Y RX5 cX5_cell 3 5 0 none 22 [some (rv 130), none, none] [] M (m_X5_cell_22 n M) := by
  unfold m_X5_cell_22
  refine y_aload_n (pc := 22) dX5_cell_22 rfl ?_
  refine y_bipush (pc := 23) dX5_cell_23 (by decide) ?_
  refine y_callVi (pc := 25) v_X5_refuse l_X5_60 dX5_cell_25 (c_X5_refuse n _ _) (fun _ h => nomatch h) rfl rc_X5 rfl (by decide) (by decide) (Nat.le_of_ble_eq_true rfl) (fun r2 M1 _ => ?_)
  exact y_iret (pc := 28) dX5_cell_28
def m_X5_cell (n : Nat) (M : Mem) (a1 : Int) (a2 : Int) : Rs := bd (m_X5_isCell n M a1) (fun r4 M3 => if I32 r4 then (if r4 = 0 then (bd (m_X5_refuse n M3 (-1)) (fun r28 M27 => some (r28, M27))) else (if I32 a2 then (if a2 < 0 then (m_X5_cell_22 n M3) else (if a2 ≤ 4 then (bd (m_X0_begin n M3 0) (fun _ M10 => if a2 = 0 then (bd (m_X0_airOn n M10 a1) (fun r13 M12 => some (r13, M12))) else (if a2 = 1 then (bd (m_X0_fogOn n M10 a1) (fun r16 M15 => some (r16, M15))) else (if a2 = 2 then (bd (m_X0_isInFog n M10 a1) (fun r19 M18 => if I32 r19 then (if r19 = 0 then (some (0, M18)) else (some (1, M18))) else none)) else (if a2 = 3 then (bd (m_X4_peopleOn n M10 0 a1) (fun r24 M23 => some (r24, M23))) else (bd (m_X4_thingsOn n M10 0 a1) (fun r26 M25 => some (r26, M25)))))))) else (m_X5_cell_22 n M3))) else none)) else none)
theorem y_X5_cell (n : Nat) (M : Mem) (a1 : Int) (a2 : Int) : Y RX5 cX5_cell 3 5 0 none 0 [some (rv 130), some (iv a1), some (iv a2)] [] M (m_X5_cell n M a1 a2) := by
  unfold m_X5_cell
  refine y_iload_n (pc := 0) dX5_cell_0 rfl ?_
  refine y_callSi (pc := 1) s_X5_isCell l_X5_186 dX5_cell_1 (c_X5_isCell n _ _) (fun _ h => nomatch h) rfl rfl (by decide) (by decide) (Nat.le_of_ble_eq_true rfl) (fun r4 M3 _ => ?_)
  refine y_gd (fun h5 => ?_)
  refine y_if_ne (off := 9) (tgt := 13) (pc := 4) dX5_cell_4 (by decide) h5 (fun h6 => ?_) (fun h6 => ?_)
  · refine y_iload_n (pc := 13) dX5_cell_13 rfl ?_
    refine y_gd (fun h7 => ?_)
    refine y_if_lt (off := 8) (tgt := 22) (pc := 14) dX5_cell_14 (by decide) h7 (fun h8 => ?_) (fun h8 => ?_)
    · exact y_sub (ls_s (ls_n (ls_n ls_0))) (t_X5_cell_22 n M3)
    · refine y_iload_n (pc := 17) dX5_cell_17 rfl ?_
      refine y_iconst (pc := 18) dX5_cell_18 ?_
      refine y_icmp_le (off := 10) (tgt := 29) (pc := 19) dX5_cell_19 (by decide) h7 (by decide) (fun h9 => ?_) (fun h9 => ?_)
      · refine y_aload_n (pc := 29) dX5_cell_29 rfl ?_
        refine y_getref (pc := 30) (x := 129) g_X5_50 dX5_cell_30 ?_
        refine y_aload_n (pc := 33) dX5_cell_33 rfl ?_
        refine y_getref (pc := 34) (x := 0) g_X5_10 dX5_cell_34 ?_
        refine y_callVv (pc := 37) v_X0_begin l_X5_67 dX5_cell_37 (c_X0_begin n _ _) (fun _ h => nomatch h) rfl rc_X0 rfl (by decide) (by decide) (Nat.le_of_ble_eq_true rfl) (fun _ M10 _ => ?_)
        refine y_iload_n (pc := 40) dX5_cell_40 rfl ?_
        refine y_br (fun h11 => ?_) (fun h11 => ?_)
        · refine y_tableIn (off := 31) (tgt := 72) (pc := 41) dX5_cell_41 h11 (by decide) (by decide) (by decide) rfl (by decide) ?_
          refine y_aload_n (pc := 72) dX5_cell_72 rfl ?_
          refine y_getref (pc := 73) (x := 129) g_X5_50 dX5_cell_73 ?_
          refine y_iload_n (pc := 76) dX5_cell_76 rfl ?_
          refine y_callVi (pc := 77) v_X0_airOn l_X5_189 dX5_cell_77 (c_X0_airOn n _ _) (fun _ h => nomatch h) rfl rc_X0 rfl (by decide) (by decide) (Nat.le_of_ble_eq_true rfl) (fun r13 M12 _ => ?_)
          exact y_iret (pc := 80) dX5_cell_80
        · refine y_br (fun h14 => ?_) (fun h14 => ?_)
          · refine y_tableIn (off := 40) (tgt := 81) (pc := 41) dX5_cell_41 h14 (by decide) (by decide) (by decide) rfl (by decide) ?_
            refine y_aload_n (pc := 81) dX5_cell_81 rfl ?_
            refine y_getref (pc := 82) (x := 129) g_X5_50 dX5_cell_82 ?_
            refine y_iload_n (pc := 85) dX5_cell_85 rfl ?_
            refine y_callVi (pc := 86) v_X0_fogOn l_X5_192 dX5_cell_86 (c_X0_fogOn n _ _) (fun _ h => nomatch h) rfl rc_X0 rfl (by decide) (by decide) (Nat.le_of_ble_eq_true rfl) (fun r16 M15 _ => ?_)
            exact y_iret (pc := 89) dX5_cell_89
          · refine y_br (fun h17 => ?_) (fun h17 => ?_)
            · refine y_tableIn (off := 49) (tgt := 90) (pc := 41) dX5_cell_41 h17 (by decide) (by decide) (by decide) rfl (by decide) ?_
              refine y_aload_n (pc := 90) dX5_cell_90 rfl ?_
              refine y_getref (pc := 91) (x := 129) g_X5_50 dX5_cell_91 ?_
              refine y_iload_n (pc := 94) dX5_cell_94 rfl ?_
              refine y_callVi (pc := 95) v_X0_isInFog l_X5_195 dX5_cell_95 (c_X0_isInFog n _ _) (fun _ h => nomatch h) rfl rc_X0 rfl (by decide) (by decide) (Nat.le_of_ble_eq_true rfl) (fun r19 M18 _ => ?_)
              refine y_gd (fun h20 => ?_)
              refine y_if_eq (off := 7) (tgt := 105) (pc := 98) dX5_cell_98 (by decide) h20 (fun h21 => ?_) (fun h21 => ?_)
              · refine y_iconst (pc := 105) dX5_cell_105 ?_
                exact y_iret (pc := 106) dX5_cell_106
              · refine y_iconst (pc := 101) dX5_cell_101 ?_
                refine y_goto (tgt := 106) (pc := 102) dX5_cell_102 (by decide) ?_
                exact y_iret (pc := 106) dX5_cell_106
            · refine y_br (fun h22 => ?_) (fun h22 => ?_)
              · refine y_tableIn (off := 66) (tgt := 107) (pc := 41) dX5_cell_41 h22 (by decide) (by decide) (by decide) rfl (by decide) ?_
                refine y_aload_n (pc := 107) dX5_cell_107 rfl ?_
                refine y_getref (pc := 108) (x := 0) g_X5_10 dX5_cell_108 ?_
                refine y_iload_n (pc := 111) dX5_cell_111 rfl ?_
                refine y_callVi (pc := 112) v_X4_peopleOn l_X5_198 dX5_cell_112 (c_X4_peopleOn n _ _ _) (fun _ h => nomatch h) rfl (rc_X4 (by decide)) rfl (by decide) (by decide) (Nat.le_of_ble_eq_true rfl) (fun r24 M23 _ => ?_)
                exact y_iret (pc := 115) dX5_cell_115
              · refine y_tableOut (tgt := 116) (pc := 41) dX5_cell_41 h7 (by omega) (by decide) ?_
                refine y_aload_n (pc := 116) dX5_cell_116 rfl ?_
                refine y_getref (pc := 117) (x := 0) g_X5_10 dX5_cell_117 ?_
                refine y_iload_n (pc := 120) dX5_cell_120 rfl ?_
                refine y_callVi (pc := 121) v_X4_thingsOn l_X5_201 dX5_cell_121 (c_X4_thingsOn n _ _ _) (fun _ h => nomatch h) rfl (rc_X4 (by decide)) rfl (by decide) (by decide) (Nat.le_of_ble_eq_true rfl) (fun r26 M25 _ => ?_)
                exact y_iret (pc := 124) dX5_cell_124
      · exact y_sub (ls_s (ls_n (ls_n ls_0))) (t_X5_cell_22 n M3)
  · refine y_aload_n (pc := 7) dX5_cell_7 rfl ?_
    refine y_iconst (pc := 8) dX5_cell_8 ?_
    refine y_callVi (pc := 9) v_X5_refuse l_X5_60 dX5_cell_9 (c_X5_refuse n _ _) (fun _ h => nomatch h) rfl rc_X5 rfl (by decide) (by decide) (Nat.le_of_ble_eq_true rfl) (fun r28 M27 _ => ?_)
    exact y_iret (pc := 12) dX5_cell_12
theorem c_X5_cell (n : Nat) (M : Mem) (a1 : Int) (a2 : Int) : ∀ res : Int × Mem, m_X5_cell n M a1 a2 = some res → CTi none yX5_cell cX5_cell 3 (some .int) 5 [rv 130, iv a1, iv a2] M res := CTi_of (by decide +kernel) rfl (Nat.le_of_ble_eq_true rfl) rfl (y_X5_cell n M a1 a2)
