def m_X6_judge_45 (n : Nat) (k12 : Mem → Int → Int → Rs) (M : Mem) (a1 : Int) (a2 : Int) (s0 : Int) : Rs := if 0 ≤ a2 ∧ a2 < 12 then (if I32 s0 then (if s0 = (rd M 156 (Int.toNat a2)) then (k12 M a1 (a2 + 1)) else (some (a2, M))) else none) else none
theorem t_X6_judge_45 (n : Nat) (k12 : Mem → Int → Int → Rs) (hk12 : ∀ (M : Mem) (a1 : Int) (a2 : Int), Y RX6 cX6_judge 3 2 0 none 12 [some (rv 137), some (iv a1), some (iv a2)] [] M (k12 M a1 a2)) (M : Mem) (a1 : Int) (a2 : Int) (s0 : Int) : Y RX6 cX6_judge 3 2 0 none 45 [some (rv 137), some (iv a1), some (iv a2)] [iv s0] M (m_X6_judge_45 n k12 M a1 a2 s0) := by
  unfold m_X6_judge_45
  refine y_aload_n (pc := 45) dX6_judge_45 rfl ?_
  refine y_getref (pc := 46) (x := 156) g_X6_68 dX6_judge_46 ?_
  refine y_iload_n (pc := 49) dX6_judge_49 rfl ?_
  refine y_gd (fun h1 => ?_)
  refine y_iald (pc := 50) dX6_judge_50 ar_156 h1 ?_
  refine y_gd (fun h2 => ?_)
  refine y_icmp_eq (off := 5) (tgt := 56) (pc := 51) dX6_judge_51 (by decide) h2 (rd_rng _ _ _) (fun h3 => ?_) (fun h3 => ?_)
  · refine y_iinc (L' := [some (rv 137), some (iv a1), some (iv (a2 + 1))]) (pc := 56) dX6_judge_56 rfl (by decide) rfl rfl ?_
    refine y_goto (tgt := 12) (pc := 59) dX6_judge_59 (by decide) ?_
    exact y_sub (ls_s (ls_s (ls_s ls_0))) (hk12 M a1 (a2 + 1))
  · refine y_iload_n (pc := 54) dX6_judge_54 rfl ?_
    exact y_iret (pc := 55) dX6_judge_55
def m_X6_judge_12 (n : Nat) : Nat → Mem → Int → Int → Rs
  | 0, _, _, _ => none
  | t + 1, M, a1, a2 => if I32 a2 then (if I32 a1 then (if a1 ≤ a2 then (some ((-9), M)) else (bd (m_X6_isThing n M a2) (fun r8 M7 => if I32 r8 then (if r8 = 0 then (some (a2, M7)) else (if 0 ≤ a2 ∧ a2 < 8 then (if 0 ≤ (rd M7 143 (Int.toNat a2)) then (m_X6_judge_45 n (m_X6_judge_12 n t) M7 a1 a2 (rd M7 143 (Int.toNat a2))) else (m_X6_judge_45 n (m_X6_judge_12 n t) M7 a1 a2 9)) else none)) else none))) else none) else none
theorem t_X6_judge_12 (n : Nat) : ∀ (t : Nat) (M : Mem) (a1 : Int) (a2 : Int), Y RX6 cX6_judge 3 2 0 none 12 [some (rv 137), some (iv a1), some (iv a2)] [] M (m_X6_judge_12 n t M a1 a2) := by
  intro t
  induction t with
  | zero => intro M a1 a2; exact y_none
  | succ t ih =>
    intro M a1 a2
    rewrite [m_X6_judge_12]
    refine y_iload_n (pc := 12) dX6_judge_12 rfl ?_
    refine y_iload_n (pc := 13) dX6_judge_13 rfl ?_
    refine y_gd (fun h4 => ?_)
    refine y_gd (fun h5 => ?_)
    refine y_icmp_ge (off := 48) (tgt := 62) (pc := 14) dX6_judge_14 (by decide) h4 h5 (fun h6 => ?_) (fun h6 => ?_)
    · refine y_bipush (pc := 62) dX6_judge_62 (by decide) ?_
      exact y_iret (pc := 64) dX6_judge_64
    · refine y_aload_n (pc := 17) dX6_judge_17 rfl ?_
      refine y_iload_n (pc := 18) dX6_judge_18 rfl ?_
      refine y_callVi (pc := 19) v_X6_isThing l_X6_207 dX6_judge_19 (c_X6_isThing n _ _) rfl rc_X6 rfl (by decide) (by decide) (Nat.le_of_ble_eq_true rfl) (fun r8 M7 _ => ?_)
      refine y_gd (fun h9 => ?_)
      refine y_if_eq (off := 32) (tgt := 54) (pc := 22) dX6_judge_22 (by decide) h9 (fun h10 => ?_) (fun h10 => ?_)
      · refine y_iload_n (pc := 54) dX6_judge_54 rfl ?_
        exact y_iret (pc := 55) dX6_judge_55
      · refine y_aload_n (pc := 25) dX6_judge_25 rfl ?_
        refine y_getref (pc := 26) (x := 143) g_X6_28 dX6_judge_26 ?_
        refine y_iload_n (pc := 29) dX6_judge_29 rfl ?_
        refine y_gd (fun h11 => ?_)
        refine y_iald (pc := 30) dX6_judge_30 ar_143 h11 ?_
        refine y_if_ge (off := 8) (tgt := 39) (pc := 31) dX6_judge_31 (by decide) (rd_rng _ _ _) (fun h12 => ?_) (fun h12 => ?_)
        · refine y_aload_n (pc := 39) dX6_judge_39 rfl ?_
          refine y_getref (pc := 40) (x := 143) g_X6_28 dX6_judge_40 ?_
          refine y_iload_n (pc := 43) dX6_judge_43 rfl ?_
          refine y_iald (pc := 44) dX6_judge_44 ar_143 h11 ?_
          exact y_sub (ls_s (ls_s (ls_s ls_0))) (t_X6_judge_45 n (m_X6_judge_12 n t) ih M7 a1 a2 (rd M7 143 (Int.toNat a2)))
        · refine y_bipush (pc := 34) dX6_judge_34 (by decide) ?_
          refine y_goto (tgt := 45) (pc := 36) dX6_judge_36 (by decide) ?_
          exact y_sub (ls_s (ls_s (ls_s ls_0))) (t_X6_judge_45 n (m_X6_judge_12 n t) ih M7 a1 a2 9)
def m_X6_judge (n : Nat) (M : Mem) : Rs := wr M 137 31 0 (fun M13 => m_X6_judge_12 n n M13 (rd M 137 31) 0)
theorem y_X6_judge (n : Nat) (M : Mem) : Y RX6 cX6_judge 3 2 0 none 0 [some (rv 137), none, none] [] M (m_X6_judge n M) := by
  unfold m_X6_judge
  refine y_aload_n (pc := 0) dX6_judge_0 rfl ?_
  refine y_getint (pc := 1) g_X6_305 dX6_judge_1 ?_
  refine y_istore_n (L' := [some (rv 137), some (iv (rd M 137 31)), none]) (pc := 4) dX6_judge_4 (by decide) rfl rfl ?_
  refine y_aload_n (pc := 5) dX6_judge_5 rfl ?_
  refine y_iconst (pc := 6) dX6_judge_6 ?_
  refine y_putintw (pc := 7) pf_X6_305 dX6_judge_7 (fun M13 => ?_)
  refine y_iconst (pc := 10) dX6_judge_10 ?_
  refine y_istore_n (L' := [some (rv 137), some (iv (rd M 137 31)), some (iv 0)]) (pc := 11) dX6_judge_11 (by decide) rfl rfl ?_
  exact y_sub (ls_s (ls_s (ls_s ls_0))) (t_X6_judge_12 n n M13 (rd M 137 31) 0)
theorem c_X6_judge (n : Nat) (M : Mem) : ∀ res : Int × Mem, m_X6_judge n M = some res → CTi yX6_judge cX6_judge 3 (some .int) 2 [rv 137] M res := CTi_of (by decide +kernel) rfl (Nat.le_of_ble_eq_true rfl) rfl (y_X6_judge n M)
def m_X6_clear (n : Nat) (M : Mem) : Rs := wr M 137 31 0 (fun M1 => some ((rd M 137 31), M1))
theorem y_X6_clear (n : Nat) (M : Mem) : Y RX6 cX6_clear 2 0 0 none 0 [some (rv 137), none] [] M (m_X6_clear n M) := by
  unfold m_X6_clear
  refine y_aload_n (pc := 0) dX6_clear_0 rfl ?_
  refine y_getint (pc := 1) g_X6_305 dX6_clear_1 ?_
  refine y_istore_n (L' := [some (rv 137), some (iv (rd M 137 31))]) (pc := 4) dX6_clear_4 (by decide) rfl rfl ?_
  refine y_aload_n (pc := 5) dX6_clear_5 rfl ?_
  refine y_iconst (pc := 6) dX6_clear_6 ?_
  refine y_putintw (pc := 7) pf_X6_305 dX6_clear_7 (fun M1 => ?_)
  refine y_iload_n (pc := 10) dX6_clear_10 rfl ?_
  exact y_iret (pc := 11) dX6_clear_11
theorem c_X6_clear (n : Nat) (M : Mem) : ∀ res : Int × Mem, m_X6_clear n M = some res → CTi yX6_clear cX6_clear 2 (some .int) 0 [rv 137] M res := CTi_of (by decide +kernel) rfl (Nat.le_of_ble_eq_true rfl) rfl (y_X6_clear n M)
def m_X6_draw (n : Nat) (M : Mem) (a1 : Int) : Rs := wr M 137 32 (((rd M 137 32) * 1103515245) + 12345) (fun M1 => if I32 (bAnd (rd M1 137 32) 2147483647) then (if I32 (Int.tdiv (bAnd (rd M1 137 32) 2147483647) 65536) then (if I32 a1 then (if a1 ≠ 0 then (some ((Int.tmod (Int.tdiv (bAnd (rd M1 137 32) 2147483647) 65536) a1), M1)) else none) else none) else none) else none)
theorem y_X6_draw (n : Nat) (M : Mem) (a1 : Int) : Y RX6 cX6_draw 2 0 0 none 0 [some (rv 137), some (iv a1)] [] M (m_X6_draw n M a1) := by
  unfold m_X6_draw
  refine y_aload_n (pc := 0) dX6_draw_0 rfl ?_
  refine y_aload_n (pc := 1) dX6_draw_1 rfl ?_
  refine y_getint (pc := 2) g_X6_357 dX6_draw_2 ?_
  refine y_ldcw (pc := 5) (n := 1103515245) k_X6_360 (by decide) dX6_draw_5 ?_
  refine y_imul (pc := 8) dX6_draw_8 ?_
  refine y_sipush (pc := 9) dX6_draw_9 (by decide) ?_
  refine y_iadd (pc := 12) dX6_draw_12 ?_
  refine y_putintw (pc := 13) pf_X6_357 dX6_draw_13 (fun M1 => ?_)
  refine y_aload_n (pc := 16) dX6_draw_16 rfl ?_
  refine y_getint (pc := 17) g_X6_357 dX6_draw_17 ?_
  refine y_ldcw (pc := 20) (n := 2147483647) k_X6_361 (by decide) dX6_draw_20 ?_
  refine y_iand (pc := 23) dX6_draw_23 ?_
  refine y_ldcw (pc := 24) (n := 65536) k_X6_362 (by decide) dX6_draw_24 ?_
  refine y_gd (fun h2 => ?_)
  refine y_idiv (pc := 27) dX6_draw_27 h2 (by decide) (by decide) ?_
  refine y_iload_n (pc := 28) dX6_draw_28 rfl ?_
  refine y_gd (fun h3 => ?_)
  refine y_gd (fun h4 => ?_)
  refine y_gd (fun h5 => ?_)
  refine y_irem (pc := 29) dX6_draw_29 h3 h4 h5 ?_
  exact y_iret (pc := 30) dX6_draw_30
theorem c_X6_draw (n : Nat) (M : Mem) (a1 : Int) : ∀ res : Int × Mem, m_X6_draw n M a1 = some res → CTi yX6_draw cX6_draw 2 (some .int) 0 [rv 137, iv a1] M res := CTi_of (by decide +kernel) rfl (Nat.le_of_ble_eq_true rfl) rfl (y_X6_draw n M a1)
def m_X6_worthsOwned_32 (n : Nat) (k4 : Mem → Int → Int → Rs) (M : Mem) (a2 : Int) (s0 : Int) (s1 : Int) : Rs := k4 M (s1 + s0) (a2 + 1)
theorem t_X6_worthsOwned_32 (n : Nat) (k4 : Mem → Int → Int → Rs) (hk4 : ∀ (M : Mem) (a1 : Int) (a2 : Int), Y RX6 cX6_worthsOwned 3 0 0 none 4 [some (rv 137), some (iv a1), some (iv a2)] [] M (k4 M a1 a2)) (M : Mem) (a2 : Int) (s0 : Int) (s1 : Int) : Y RX6 cX6_worthsOwned 3 0 0 none 32 [some (rv 137), none, some (iv a2)] [iv s0, iv s1] M (m_X6_worthsOwned_32 n k4 M a2 s0 s1) := by
  unfold m_X6_worthsOwned_32
  refine y_iadd (pc := 32) dX6_worthsOwned_32 ?_
  refine y_istore_n (L' := [some (rv 137), some (iv (s1 + s0)), some (iv a2)]) (pc := 33) dX6_worthsOwned_33 (by decide) rfl rfl ?_
  refine y_iinc (L' := [some (rv 137), some (iv (s1 + s0)), some (iv (a2 + 1))]) (pc := 34) dX6_worthsOwned_34 rfl (by decide) rfl rfl ?_
  refine y_goto (tgt := 4) (pc := 37) dX6_worthsOwned_37 (by decide) ?_
  exact y_sub (ls_s (ls_s (ls_s ls_0))) (hk4 M (s1 + s0) (a2 + 1))
def m_X6_worthsOwned_4 (n : Nat) : Nat → Mem → Int → Int → Rs
  | 0, _, _, _ => none
  | t + 1, M, a1, a2 => if I32 a2 then (if (rd M 137 7) ≤ a2 then (some (a1, M)) else (if 0 ≤ a2 ∧ a2 < 8 then (if (rd M 143 (Int.toNat a2)) < 0 then (m_X6_worthsOwned_32 n (m_X6_worthsOwned_4 n t) M a2 0 a1) else (m_X6_worthsOwned_32 n (m_X6_worthsOwned_4 n t) M a2 (rd M 141 (Int.toNat a2)) a1)) else none)) else none
theorem t_X6_worthsOwned_4 (n : Nat) : ∀ (t : Nat) (M : Mem) (a1 : Int) (a2 : Int), Y RX6 cX6_worthsOwned 3 0 0 none 4 [some (rv 137), some (iv a1), some (iv a2)] [] M (m_X6_worthsOwned_4 n t M a1 a2) := by
  intro t
  induction t with
  | zero => intro M a1 a2; exact y_none
  | succ t ih =>
    intro M a1 a2
    rewrite [m_X6_worthsOwned_4]
    refine y_iload_n (pc := 4) dX6_worthsOwned_4 rfl ?_
    refine y_aload_n (pc := 5) dX6_worthsOwned_5 rfl ?_
    refine y_getint (pc := 6) g_X6_86 dX6_worthsOwned_6 ?_
    refine y_gd (fun h1 => ?_)
    refine y_icmp_ge (off := 31) (tgt := 40) (pc := 9) dX6_worthsOwned_9 (by decide) h1 (rd_rng _ _ _) (fun h2 => ?_) (fun h2 => ?_)
    · refine y_iload_n (pc := 40) dX6_worthsOwned_40 rfl ?_
      exact y_iret (pc := 41) dX6_worthsOwned_41
    · refine y_iload_n (pc := 12) dX6_worthsOwned_12 rfl ?_
      refine y_aload_n (pc := 13) dX6_worthsOwned_13 rfl ?_
      refine y_getref (pc := 14) (x := 143) g_X6_28 dX6_worthsOwned_14 ?_
      refine y_iload_n (pc := 17) dX6_worthsOwned_17 rfl ?_
      refine y_gd (fun h3 => ?_)
      refine y_iald (pc := 18) dX6_worthsOwned_18 ar_143 h3 ?_
      refine y_if_lt (off := 12) (tgt := 31) (pc := 19) dX6_worthsOwned_19 (by decide) (rd_rng _ _ _) (fun h4 => ?_) (fun h4 => ?_)
      · refine y_iconst (pc := 31) dX6_worthsOwned_31 ?_
        exact y_sub (ls_s (ls_n (ls_s ls_0))) (t_X6_worthsOwned_32 n (m_X6_worthsOwned_4 n t) ih M a2 0 a1)
      · refine y_aload_n (pc := 22) dX6_worthsOwned_22 rfl ?_
        refine y_getref (pc := 23) (x := 141) g_X6_22 dX6_worthsOwned_23 ?_
        refine y_iload_n (pc := 26) dX6_worthsOwned_26 rfl ?_
        refine y_iald (pc := 27) dX6_worthsOwned_27 ar_141 h3 ?_
        refine y_goto (tgt := 32) (pc := 28) dX6_worthsOwned_28 (by decide) ?_
        exact y_sub (ls_s (ls_n (ls_s ls_0))) (t_X6_worthsOwned_32 n (m_X6_worthsOwned_4 n t) ih M a2 (rd M 141 (Int.toNat a2)) a1)
def m_X6_worthsOwned (n : Nat) (M : Mem) : Rs := m_X6_worthsOwned_4 n n M 0 0
theorem y_X6_worthsOwned (n : Nat) (M : Mem) : Y RX6 cX6_worthsOwned 3 0 0 none 0 [some (rv 137), none, none] [] M (m_X6_worthsOwned n M) := by
  unfold m_X6_worthsOwned
  refine y_iconst (pc := 0) dX6_worthsOwned_0 ?_
  refine y_istore_n (L' := [some (rv 137), some (iv 0), none]) (pc := 1) dX6_worthsOwned_1 (by decide) rfl rfl ?_
  refine y_iconst (pc := 2) dX6_worthsOwned_2 ?_
  refine y_istore_n (L' := [some (rv 137), some (iv 0), some (iv 0)]) (pc := 3) dX6_worthsOwned_3 (by decide) rfl rfl ?_
  exact y_sub (ls_s (ls_s (ls_s ls_0))) (t_X6_worthsOwned_4 n n M 0 0)
theorem c_X6_worthsOwned (n : Nat) (M : Mem) : ∀ res : Int × Mem, m_X6_worthsOwned n M = some res → CTi yX6_worthsOwned cX6_worthsOwned 3 (some .int) 0 [rv 137] M res := CTi_of (by decide +kernel) rfl (Nat.le_of_ble_eq_true rfl) rfl (y_X6_worthsOwned n M)
def m_X6_liesByLot_2 (n : Nat) : Nat → Mem → Int → Rs
  | 0, _, _ => none
  | t + 1, M, a1 => if I32 a1 then (if (rd M 137 7) ≤ a1 then (some (0, M)) else (bd (m_X6_draw n M 24) (fun r4 M3 => if 0 ≤ a1 ∧ a1 < 8 then (wr M3 142 (Int.toNat a1) r4 (fun M6 => wr M6 143 (Int.toNat a1) (-9) (fun M7 => (m_X6_liesByLot_2 n t) M7 (a1 + 1)))) else none))) else none
theorem t_X6_liesByLot_2 (n : Nat) : ∀ (t : Nat) (M : Mem) (a1 : Int), Y RX6 cX6_liesByLot 2 1 3 none 2 [some (rv 137), some (iv a1)] [] M (m_X6_liesByLot_2 n t M a1) := by
  intro t
  induction t with
  | zero => intro M a1; exact y_none
  | succ t ih =>
    intro M a1
    rewrite [m_X6_liesByLot_2]
    refine y_iload_n (pc := 2) dX6_liesByLot_2 rfl ?_
    refine y_aload_n (pc := 3) dX6_liesByLot_3 rfl ?_
    refine y_getint (pc := 4) g_X6_86 dX6_liesByLot_4 ?_
    refine y_gd (fun h1 => ?_)
    refine y_icmp_ge (off := 29) (tgt := 36) (pc := 7) dX6_liesByLot_7 (by decide) h1 (rd_rng _ _ _) (fun h2 => ?_) (fun h2 => ?_)
    · exact y_vret (pc := 36) dX6_liesByLot_36
    · refine y_aload_n (pc := 10) dX6_liesByLot_10 rfl ?_
      refine y_getref (pc := 11) (x := 142) g_X6_25 dX6_liesByLot_11 ?_
      refine y_iload_n (pc := 14) dX6_liesByLot_14 rfl ?_
      refine y_aload_n (pc := 15) dX6_liesByLot_15 rfl ?_
      refine y_bipush (pc := 16) dX6_liesByLot_16 (by decide) ?_
      refine y_callVi (pc := 18) v_X6_draw l_X6_363 dX6_liesByLot_18 (c_X6_draw n _ _) rfl rc_X6 rfl (by decide) (by decide) (Nat.le_of_ble_eq_true rfl) (fun r4 M3 _ => ?_)
      refine y_gd (fun h5 => ?_)
      refine y_iastw (pc := 21) dX6_liesByLot_21 ar_142 h5 (fun M6 => ?_)
      refine y_aload_n (pc := 22) dX6_liesByLot_22 rfl ?_
      refine y_getref (pc := 23) (x := 143) g_X6_28 dX6_liesByLot_23 ?_
      refine y_iload_n (pc := 26) dX6_liesByLot_26 rfl ?_
      refine y_bipush (pc := 27) dX6_liesByLot_27 (by decide) ?_
      refine y_iastw (pc := 29) dX6_liesByLot_29 ar_143 h5 (fun M7 => ?_)
      refine y_iinc (L' := [some (rv 137), some (iv (a1 + 1))]) (pc := 30) dX6_liesByLot_30 rfl (by decide) rfl rfl ?_
      refine y_goto (tgt := 2) (pc := 33) dX6_liesByLot_33 (by decide) ?_
      exact y_sub (ls_s (ls_s ls_0)) (ih M7 (a1 + 1))
def m_X6_liesByLot (n : Nat) (M : Mem) : Rs := m_X6_liesByLot_2 n n M 0
theorem y_X6_liesByLot (n : Nat) (M : Mem) : Y RX6 cX6_liesByLot 2 1 3 none 0 [some (rv 137), none] [] M (m_X6_liesByLot n M) := by
  unfold m_X6_liesByLot
  refine y_iconst (pc := 0) dX6_liesByLot_0 ?_
  refine y_istore_n (L' := [some (rv 137), some (iv 0)]) (pc := 1) dX6_liesByLot_1 (by decide) rfl rfl ?_
  exact y_sub (ls_s (ls_s ls_0)) (t_X6_liesByLot_2 n n M 0)
theorem c_X6_liesByLot (n : Nat) (M : Mem) : ∀ res : Int × Mem, m_X6_liesByLot n M = some res → CTv yX6_liesByLot cX6_liesByLot 2 1 [rv 137] M res := CTv_of (by decide +kernel) rfl (Nat.le_of_ble_eq_true rfl) rfl (y_X6_liesByLot n M)
def m_X6_lots_87 (n : Nat) (k50 : Mem → Int → Int → Int → Int → Rs) (M : Mem) (a1 : Int) (a3 : Int) (a6 : Int) (s0 : Int) (s1 : Int) : Rs := bd (m_X6_forgets n M) (fun _ M1 => k50 M1 a1 a3 (s1 + s0) (a6 + 1))
theorem t_X6_lots_87 (n : Nat) (k50 : Mem → Int → Int → Int → Int → Rs) (hk50 : ∀ (M : Mem) (a1 : Int) (a3 : Int) (a5 : Int) (a6 : Int), Y RX6 cX6_lots 7 8 0 none 50 [some (rv 137), some (iv a1), none, some (iv a3), none, some (iv a5), some (iv a6)] [] M (k50 M a1 a3 a5 a6)) (M : Mem) (a1 : Int) (a3 : Int) (a6 : Int) (s0 : Int) (s1 : Int) : Y RX6 cX6_lots 7 8 0 none 87 [some (rv 137), some (iv a1), none, some (iv a3), none, none, some (iv a6)] [iv s0, iv s1] M (m_X6_lots_87 n k50 M a1 a3 a6 s0 s1) := by
  unfold m_X6_lots_87
  refine y_iadd (pc := 87) dX6_lots_87 ?_
  refine y_istore (L' := [some (rv 137), some (iv a1), none, some (iv a3), none, some (iv (s1 + s0)), some (iv a6)]) (pc := 88) dX6_lots_88 (by decide) rfl rfl ?_
  refine y_aload_n (pc := 90) dX6_lots_90 rfl ?_
  refine y_callVv (pc := 91) v_X6_forgets l_X6_283 dX6_lots_91 (c_X6_forgets n _) rfl rc_X6 rfl (by decide) (by decide) (Nat.le_of_ble_eq_true rfl) (fun _ M1 _ => ?_)
  refine y_iinc (L' := [some (rv 137), some (iv a1), none, some (iv a3), none, some (iv (s1 + s0)), some (iv (a6 + 1))]) (pc := 94) dX6_lots_94 rfl (by decide) rfl rfl ?_
  refine y_goto (tgt := 50) (pc := 97) dX6_lots_97 (by decide) ?_
  exact y_sub (ls_s (ls_s (ls_n (ls_s (ls_n (ls_s (ls_s ls_0))))))) (hk50 M1 a1 a3 (s1 + s0) (a6 + 1))
def m_X6_lots_50 (n : Nat) : Nat → Mem → Int → Int → Int → Int → Rs
  | 0, _, _, _, _, _ => none
  | t + 1, M, a1, a3, a5, a6 => if I32 a6 then (if I32 a1 then (if a1 ≤ a6 then (some (a5, M)) else (bd (m_X6_minds n M) (fun _ M5 => bd (m_X6_liesByLot n M5) (fun _ M6 => bd (m_X6_goes n M6 10) (fun _ M7 => if I32 a3 then (if a3 = 0 then (bd (m_X6_manyOwned n M7) (fun r13 M12 => m_X6_lots_87 n (m_X6_lots_50 n t) M12 a1 a3 a6 r13 a5)) else (bd (m_X6_worthsOwned n M7) (fun r11 M10 => m_X6_lots_87 n (m_X6_lots_50 n t) M10 a1 a3 a6 r11 a5))) else none))))) else none) else none
theorem t_X6_lots_50 (n : Nat) : ∀ (t : Nat) (M : Mem) (a1 : Int) (a3 : Int) (a5 : Int) (a6 : Int), Y RX6 cX6_lots 7 8 0 none 50 [some (rv 137), some (iv a1), none, some (iv a3), none, some (iv a5), some (iv a6)] [] M (m_X6_lots_50 n t M a1 a3 a5 a6) := by
  intro t
  induction t with
  | zero => intro M a1 a3 a5 a6; exact y_none
  | succ t ih =>
    intro M a1 a3 a5 a6
    rewrite [m_X6_lots_50]
    refine y_iload (pc := 50) dX6_lots_50 rfl ?_
    refine y_iload_n (pc := 52) dX6_lots_52 rfl ?_
    refine y_gd (fun h2 => ?_)
    refine y_gd (fun h3 => ?_)
    refine y_icmp_ge (off := 47) (tgt := 100) (pc := 53) dX6_lots_53 (by decide) h2 h3 (fun h4 => ?_) (fun h4 => ?_)
    · refine y_iload (pc := 100) dX6_lots_100 rfl ?_
      exact y_iret (pc := 102) dX6_lots_102
    · refine y_aload_n (pc := 56) dX6_lots_56 rfl ?_
      refine y_callVv (pc := 57) v_X6_minds l_X6_280 dX6_lots_57 (c_X6_minds n _) rfl rc_X6 rfl (by decide) (by decide) (Nat.le_of_ble_eq_true rfl) (fun _ M5 _ => ?_)
      refine y_aload_n (pc := 60) dX6_lots_60 rfl ?_
      refine y_callVv (pc := 61) v_X6_liesByLot l_X6_366 dX6_lots_61 (c_X6_liesByLot n _) rfl rc_X6 rfl (by decide) (by decide) (Nat.le_of_ble_eq_true rfl) (fun _ M6 _ => ?_)
      refine y_aload_n (pc := 64) dX6_lots_64 rfl ?_
      refine y_bipush (pc := 65) dX6_lots_65 (by decide) ?_
      refine y_callVv (pc := 67) v_X6_goes l_X6_210 dX6_lots_67 (c_X6_goes n _ _) rfl rc_X6 rfl (by decide) (by decide) (Nat.le_of_ble_eq_true rfl) (fun _ M7 _ => ?_)
      refine y_iload (pc := 70) dX6_lots_70 rfl ?_
      refine y_iload_n (pc := 72) dX6_lots_72 rfl ?_
      refine y_gd (fun h8 => ?_)
      refine y_if_ne (off := 10) (tgt := 83) (pc := 73) dX6_lots_73 (by decide) h8 (fun h9 => ?_) (fun h9 => ?_)
      · refine y_aload_n (pc := 83) dX6_lots_83 rfl ?_
        refine y_callVi (pc := 84) v_X6_worthsOwned l_X6_369 dX6_lots_84 (c_X6_worthsOwned n _) rfl rc_X6 rfl (by decide) (by decide) (Nat.le_of_ble_eq_true rfl) (fun r11 M10 _ => ?_)
        exact y_sub (ls_s (ls_s (ls_n (ls_s (ls_n (ls_n (ls_s ls_0))))))) (t_X6_lots_87 n (m_X6_lots_50 n t) ih M10 a1 a3 a6 r11 a5)
      · refine y_aload_n (pc := 76) dX6_lots_76 rfl ?_
        refine y_callVi (pc := 77) v_X6_manyOwned l_X6_277 dX6_lots_77 (c_X6_manyOwned n _) rfl rc_X6 rfl (by decide) (by decide) (Nat.le_of_ble_eq_true rfl) (fun r13 M12 _ => ?_)
        refine y_goto (tgt := 87) (pc := 80) dX6_lots_80 (by decide) ?_
        exact y_sub (ls_s (ls_s (ls_n (ls_s (ls_n (ls_n (ls_s ls_0))))))) (t_X6_lots_87 n (m_X6_lots_50 n t) ih M12 a1 a3 a6 r13 a5)
def m_X6_lots_27 (n : Nat) (M : Mem) (a1 : Int) (a2 : Int) (a3 : Int) (a4 : Int) : Rs := if I32 a4 then (if a4 = 0 then (wr M 137 32 a2 (fun M16 => m_X6_lots_50 n n M16 a1 a3 0 0)) else (bd (m_X6_no n M a4) (fun r18 M17 => some (r18, M17)))) else none
theorem t_X6_lots_27 (n : Nat) (M : Mem) (a1 : Int) (a2 : Int) (a3 : Int) (a4 : Int) : Y RX6 cX6_lots 7 8 0 none 27 [some (rv 137), some (iv a1), some (iv a2), some (iv a3), some (iv a4), none, none] [] M (m_X6_lots_27 n M a1 a2 a3 a4) := by
  unfold m_X6_lots_27
  refine y_iload (pc := 27) dX6_lots_27 rfl ?_
  refine y_gd (fun h14 => ?_)
  refine y_if_eq (off := 10) (tgt := 39) (pc := 29) dX6_lots_29 (by decide) h14 (fun h15 => ?_) (fun h15 => ?_)
  · refine y_aload_n (pc := 39) dX6_lots_39 rfl ?_
    refine y_iload_n (pc := 40) dX6_lots_40 rfl ?_
    refine y_putintw (pc := 41) pf_X6_357 dX6_lots_41 (fun M16 => ?_)
    refine y_iconst (pc := 44) dX6_lots_44 ?_
    refine y_istore (L' := [some (rv 137), some (iv a1), some (iv a2), some (iv a3), some (iv a4), some (iv 0), none]) (pc := 45) dX6_lots_45 (by decide) rfl rfl ?_
    refine y_iconst (pc := 47) dX6_lots_47 ?_
    refine y_istore (L' := [some (rv 137), some (iv a1), some (iv a2), some (iv a3), some (iv a4), some (iv 0), some (iv 0)]) (pc := 48) dX6_lots_48 (by decide) rfl rfl ?_
    exact y_sub (ls_s (ls_s (ls_n (ls_s (ls_n (ls_s (ls_s ls_0))))))) (t_X6_lots_50 n n M16 a1 a3 0 0)
  · refine y_aload_n (pc := 32) dX6_lots_32 rfl ?_
    refine y_iload (pc := 33) dX6_lots_33 rfl ?_
    refine y_callVi (pc := 35) v_X6_no l_X6_172 dX6_lots_35 (c_X6_no n _ _) rfl rc_X6 rfl (by decide) (by decide) (Nat.le_of_ble_eq_true rfl) (fun r18 M17 _ => ?_)
    exact y_iret (pc := 38) dX6_lots_38
def m_X6_lots (n : Nat) (M : Mem) (a1 : Int) (a2 : Int) (a3 : Int) : Rs := bd (m_X6_bound n M a1 1 20) (fun r20 M19 => if I32 r20 then (if r20 = 0 then (bd (m_X6_isIn n M19 a3 0 1) (fun r24 M23 => if I32 r24 then (if r24 = 0 then (m_X6_lots_27 n M23 a1 a2 a3 (-2)) else (m_X6_lots_27 n M23 a1 a2 a3 r20)) else none)) else (m_X6_lots_27 n M19 a1 a2 a3 r20)) else none)
theorem y_X6_lots (n : Nat) (M : Mem) (a1 : Int) (a2 : Int) (a3 : Int) : Y RX6 cX6_lots 7 8 0 none 0 [some (rv 137), some (iv a1), some (iv a2), some (iv a3), none, none, none] [] M (m_X6_lots n M a1 a2 a3) := by
  unfold m_X6_lots
  refine y_iload_n (pc := 0) dX6_lots_0 rfl ?_
  refine y_iconst (pc := 1) dX6_lots_1 ?_
  refine y_bipush (pc := 2) dX6_lots_2 (by decide) ?_
  refine y_callSi (pc := 4) s_X6_bound l_X6_165 dX6_lots_4 (c_X6_bound n _ _ _ _) rfl rfl (by decide) (by decide) (Nat.le_of_ble_eq_true rfl) (fun r20 M19 _ => ?_)
  refine y_istore (L' := [some (rv 137), some (iv a1), some (iv a2), some (iv a3), some (iv r20), none, none]) (pc := 7) dX6_lots_7 (by decide) rfl rfl ?_
  refine y_iload (pc := 9) dX6_lots_9 rfl ?_
  refine y_gd (fun h21 => ?_)
  refine y_if_ne (off := 16) (tgt := 27) (pc := 11) dX6_lots_11 (by decide) h21 (fun h22 => ?_) (fun h22 => ?_)
  · exact y_sub (ls_s (ls_s (ls_s (ls_s (ls_s (ls_n (ls_n ls_0))))))) (t_X6_lots_27 n M19 a1 a2 a3 r20)
  · refine y_iload_n (pc := 14) dX6_lots_14 rfl ?_
    refine y_iconst (pc := 15) dX6_lots_15 ?_
    refine y_iconst (pc := 16) dX6_lots_16 ?_
    refine y_callSi (pc := 17) s_X6_isIn l_X6_82 dX6_lots_17 (c_X6_isIn n _ _ _ _) rfl rfl (by decide) (by decide) (Nat.le_of_ble_eq_true rfl) (fun r24 M23 _ => ?_)
    refine y_gd (fun h25 => ?_)
    refine y_if_ne (off := 7) (tgt := 27) (pc := 20) dX6_lots_20 (by decide) h25 (fun h26 => ?_) (fun h26 => ?_)
    · exact y_sub (ls_s (ls_s (ls_s (ls_s (ls_s (ls_n (ls_n ls_0))))))) (t_X6_lots_27 n M23 a1 a2 a3 r20)
    · refine y_bipush (pc := 23) dX6_lots_23 (by decide) ?_
      refine y_istore (L' := [some (rv 137), some (iv a1), some (iv a2), some (iv a3), some (iv (-2)), none, none]) (pc := 25) dX6_lots_25 (by decide) rfl rfl ?_
      exact y_sub (ls_s (ls_s (ls_s (ls_s (ls_s (ls_n (ls_n ls_0))))))) (t_X6_lots_27 n M23 a1 a2 a3 (-2))
theorem c_X6_lots (n : Nat) (M : Mem) (a1 : Int) (a2 : Int) (a3 : Int) : ∀ res : Int × Mem, m_X6_lots n M a1 a2 a3 = some res → CTi yX6_lots cX6_lots 7 (some .int) 8 [rv 137, iv a1, iv a2, iv a3] M res := CTi_of (by decide +kernel) rfl (Nat.le_of_ble_eq_true rfl) rfl (y_X6_lots n M a1 a2 a3)
def m_X6_count (n : Nat) (M : Mem) (a1 : Int) : Rs := bd (m_X6_isIn n M a1 11 16) (fun r2 M1 => if I32 r2 then (if r2 = 0 then (if I32 a1 then (if a1 = 0 then (some ((rd M1 137 12), M1)) else (if a1 = 1 then (some ((rd M1 137 7), M1)) else (if a1 = 2 then (some ((rd M1 137 3), M1)) else (if a1 = 3 then (some ((rd M1 137 13), M1)) else (if a1 = 4 then (some ((rd M1 137 14), M1)) else (if a1 = 5 then (bd (m_X6_manyOwned n M1) (fun r13 M12 => some (r13, M12))) else (if a1 = 6 then (some ((rd M1 137 22), M1)) else (if a1 = 7 then (some ((rd M1 137 31), M1)) else (if a1 = 8 then (some ((rd M1 137 30), M1)) else (if a1 = 9 then (bd (m_X6_foggyCells n M1) (fun r19 M18 => some (r19, M18))) else (some ((-9), M1)))))))))))) else none) else (if 0 ≤ (a1 - 10) ∧ (a1 - 10) < 7 then (some ((rd M1 148 (Int.toNat (a1 - 10))), M1)) else none)) else none)
theorem y_X6_count (n : Nat) (M : Mem) (a1 : Int) : Y RX6 cX6_count 2 6 0 none 0 [some (rv 137), some (iv a1)] [] M (m_X6_count n M a1) := by
  unfold m_X6_count
  refine y_iload_n (pc := 0) dX6_count_0 rfl ?_
  refine y_bipush (pc := 1) dX6_count_1 (by decide) ?_
  refine y_bipush (pc := 3) dX6_count_3 (by decide) ?_
  refine y_callSi (pc := 5) s_X6_isIn l_X6_82 dX6_count_5 (c_X6_isIn n _ _ _ _) rfl rfl (by decide) (by decide) (Nat.le_of_ble_eq_true rfl) (fun r2 M1 _ => ?_)
  refine y_gd (fun h3 => ?_)
  refine y_if_eq (off := 13) (tgt := 21) (pc := 8) dX6_count_8 (by decide) h3 (fun h4 => ?_) (fun h4 => ?_)
  · refine y_iload_n (pc := 21) dX6_count_21 rfl ?_
    refine y_gd (fun h5 => ?_)
    refine y_br (fun h6 => ?_) (fun h6 => ?_)
    · refine y_tableIn (off := 54) (tgt := 76) (pc := 22) dX6_count_22 h6 (by decide) (by decide) (by decide) rfl (by decide) ?_
      refine y_aload_n (pc := 76) dX6_count_76 rfl ?_
      refine y_getint (pc := 77) g_X6_89 dX6_count_77 ?_
      exact y_iret (pc := 80) dX6_count_80
    · refine y_br (fun h7 => ?_) (fun h7 => ?_)
      · refine y_tableIn (off := 59) (tgt := 81) (pc := 22) dX6_count_22 h7 (by decide) (by decide) (by decide) rfl (by decide) ?_
        refine y_aload_n (pc := 81) dX6_count_81 rfl ?_
        refine y_getint (pc := 82) g_X6_86 dX6_count_82 ?_
        exact y_iret (pc := 85) dX6_count_85
      · refine y_br (fun h8 => ?_) (fun h8 => ?_)
        · refine y_tableIn (off := 64) (tgt := 86) (pc := 22) dX6_count_22 h8 (by decide) (by decide) (by decide) rfl (by decide) ?_
          refine y_aload_n (pc := 86) dX6_count_86 rfl ?_
          refine y_getint (pc := 87) g_X6_79 dX6_count_87 ?_
          exact y_iret (pc := 90) dX6_count_90
        · refine y_br (fun h9 => ?_) (fun h9 => ?_)
          · refine y_tableIn (off := 69) (tgt := 91) (pc := 22) dX6_count_22 h9 (by decide) (by decide) (by decide) rfl (by decide) ?_
            refine y_aload_n (pc := 91) dX6_count_91 rfl ?_
            refine y_getint (pc := 92) g_X6_114 dX6_count_92 ?_
            exact y_iret (pc := 95) dX6_count_95
          · refine y_br (fun h10 => ?_) (fun h10 => ?_)
            · refine y_tableIn (off := 74) (tgt := 96) (pc := 22) dX6_count_22 h10 (by decide) (by decide) (by decide) rfl (by decide) ?_
              refine y_aload_n (pc := 96) dX6_count_96 rfl ?_
              refine y_getint (pc := 97) g_X6_74 dX6_count_97 ?_
              exact y_iret (pc := 100) dX6_count_100
            · refine y_br (fun h11 => ?_) (fun h11 => ?_)
              · refine y_tableIn (off := 79) (tgt := 101) (pc := 22) dX6_count_22 h11 (by decide) (by decide) (by decide) rfl (by decide) ?_
                refine y_aload_n (pc := 101) dX6_count_101 rfl ?_
                refine y_callVi (pc := 102) v_X6_manyOwned l_X6_277 dX6_count_102 (c_X6_manyOwned n _) rfl rc_X6 rfl (by decide) (by decide) (Nat.le_of_ble_eq_true rfl) (fun r13 M12 _ => ?_)
                exact y_iret (pc := 105) dX6_count_105
              · refine y_br (fun h14 => ?_) (fun h14 => ?_)
                · refine y_tableIn (off := 84) (tgt := 106) (pc := 22) dX6_count_22 h14 (by decide) (by decide) (by decide) rfl (by decide) ?_
                  refine y_aload_n (pc := 106) dX6_count_106 rfl ?_
                  refine y_getint (pc := 107) g_X6_169 dX6_count_107 ?_
                  exact y_iret (pc := 110) dX6_count_110
                · refine y_br (fun h15 => ?_) (fun h15 => ?_)
                  · refine y_tableIn (off := 89) (tgt := 111) (pc := 22) dX6_count_22 h15 (by decide) (by decide) (by decide) rfl (by decide) ?_
                    refine y_aload_n (pc := 111) dX6_count_111 rfl ?_
                    refine y_getint (pc := 112) g_X6_305 dX6_count_112 ?_
                    exact y_iret (pc := 115) dX6_count_115
                  · refine y_br (fun h16 => ?_) (fun h16 => ?_)
                    · refine y_tableIn (off := 94) (tgt := 116) (pc := 22) dX6_count_22 h16 (by decide) (by decide) (by decide) rfl (by decide) ?_
                      refine y_aload_n (pc := 116) dX6_count_116 rfl ?_
                      refine y_getint (pc := 117) g_X6_242 dX6_count_117 ?_
                      exact y_iret (pc := 120) dX6_count_120
                    · refine y_br (fun h17 => ?_) (fun h17 => ?_)
                      · refine y_tableIn (off := 99) (tgt := 121) (pc := 22) dX6_count_22 h17 (by decide) (by decide) (by decide) rfl (by decide) ?_
                        refine y_aload_n (pc := 121) dX6_count_121 rfl ?_
                        refine y_callVi (pc := 122) v_X6_foggyCells l_X6_286 dX6_count_122 (c_X6_foggyCells n _) rfl rc_X6 rfl (by decide) (by decide) (Nat.le_of_ble_eq_true rfl) (fun r19 M18 _ => ?_)
                        exact y_iret (pc := 125) dX6_count_125
                      · refine y_tableOut (tgt := 126) (pc := 22) dX6_count_22 h5 (by omega) (by decide) ?_
                        refine y_bipush (pc := 126) dX6_count_126 (by decide) ?_
                        exact y_iret (pc := 128) dX6_count_128
  · refine y_aload_n (pc := 11) dX6_count_11 rfl ?_
    refine y_getref (pc := 12) (x := 148) g_X6_7 dX6_count_12 ?_
    refine y_iload_n (pc := 15) dX6_count_15 rfl ?_
    refine y_bipush (pc := 16) dX6_count_16 (by decide) ?_
    refine y_isub (pc := 18) dX6_count_18 ?_
    refine y_gd (fun h20 => ?_)
    refine y_iald (pc := 19) dX6_count_19 ar_148 h20 ?_
    exact y_iret (pc := 20) dX6_count_20
theorem c_X6_count (n : Nat) (M : Mem) (a1 : Int) : ∀ res : Int × Mem, m_X6_count n M a1 = some res → CTi yX6_count cX6_count 2 (some .int) 6 [rv 137, iv a1] M res := CTi_of (by decide +kernel) rfl (Nat.le_of_ble_eq_true rfl) rfl (y_X6_count n M a1)
