def m_X0_grab_111 (n : Nat) (k30 : Mem → Int → Int → Int → Int → Int → Rs) (M : Mem) (a1 : Int) (a2 : Int) (a3 : Int) (a4 : Int) (a5 : Int) : Rs := if 0 ≤ a5 ∧ a5 < 8 then (wr M 28 (Int.toNat a5) a1 (fun M2 => k30 M2 a1 a2 a3 (a4 + (-1)) (a5 + 1))) else none
theorem t_X0_grab_111 (n : Nat) (k30 : Mem → Int → Int → Int → Int → Int → Rs) (hk30 : ∀ (M : Mem) (a1 : Int) (a2 : Int) (a3 : Int) (a4 : Int) (a5 : Int), Y RX0 cX0_grab 7 1 3 none 30 [some (rv 129), some (iv a1), some (iv a2), some (iv a3), some (iv a4), some (iv a5), none] [] M (k30 M a1 a2 a3 a4 a5)) (M : Mem) (a1 : Int) (a2 : Int) (a3 : Int) (a4 : Int) (a5 : Int) : Y RX0 cX0_grab 7 1 3 none 111 [some (rv 129), some (iv a1), some (iv a2), some (iv a3), some (iv a4), some (iv a5), none] [] M (m_X0_grab_111 n k30 M a1 a2 a3 a4 a5) := by
  unfold m_X0_grab_111
  refine y_aload_n (pc := 111) dX0_grab_111 rfl ?_
  refine y_getref (pc := 112) (x := 22) g_X0_12 dX0_grab_112 ?_
  refine y_getref (pc := 115) (x := 28) (g_X0_111 (by decide)) dX0_grab_115 ?_
  refine y_iload (pc := 118) dX0_grab_118 rfl ?_
  refine y_iload_n (pc := 120) dX0_grab_120 rfl ?_
  refine y_gd (fun h1 => ?_)
  refine y_iastw (pc := 121) dX0_grab_121 ar_28 h1 (fun M2 => ?_)
  refine y_iinc (L' := [some (rv 129), some (iv a1), some (iv a2), some (iv a3), some (iv (a4 + (-1))), some (iv a5), none]) (pc := 122) dX0_grab_122 rfl (by decide) rfl rfl ?_
  refine y_iinc (L' := [some (rv 129), some (iv a1), some (iv a2), some (iv a3), some (iv (a4 + (-1))), some (iv (a5 + 1)), none]) (pc := 125) dX0_grab_125 rfl (by decide) rfl rfl ?_
  refine y_goto (tgt := 30) (pc := 128) dX0_grab_128 (by decide) ?_
  exact y_sub (ls_s (ls_s (ls_s (ls_s (ls_s (ls_s (ls_n ls_0))))))) (hk30 M2 a1 a2 a3 (a4 + (-1)) (a5 + 1))
def m_X0_grab_30 (n : Nat) : Nat → Mem → Int → Int → Int → Int → Int → Rs
  | 0, _, _, _, _, _, _ => none
  | t + 1, M, a1, a2, a3, a4, a5 => if I32 a5 then (if (rd M 22 7) ≤ a5 then (some (0, M)) else (if I32 a4 then (if a4 ≤ 0 then (some (0, M)) else (if 0 ≤ a5 ∧ a5 < 8 then (lt (rd M 28 (Int.toNat a5)) (fun x8 => if 0 ≤ a1 ∧ a1 < 5 then (if (rd M 27 (Int.toNat a5)) = (rd M 32 (Int.toNat a1)) then (if I32 x8 then (if x8 = a1 then ((m_X0_grab_30 n t) M a1 a2 a3 a4 (a5 + 1)) else (if x8 = (-1) then (m_X0_grab_111 n (m_X0_grab_30 n t) M a1 a2 a3 a4 a5) else (bd (m_X1_mayTakeAnothers n M a2 a3 (rd M 26 (Int.toNat a5))) (fun r15 M14 => if I32 r15 then (if r15 = 0 then ((m_X0_grab_30 n t) M14 a1 a2 a3 a4 (a5 + 1)) else (m_X0_grab_111 n (m_X0_grab_30 n t) M14 a1 a2 a3 a4 a5)) else none)))) else none) else ((m_X0_grab_30 n t) M a1 a2 a3 a4 (a5 + 1))) else none)) else none)) else none)) else none
theorem t_X0_grab_30 (n : Nat) : ∀ (t : Nat) (M : Mem) (a1 : Int) (a2 : Int) (a3 : Int) (a4 : Int) (a5 : Int), Y RX0 cX0_grab 7 1 3 none 30 [some (rv 129), some (iv a1), some (iv a2), some (iv a3), some (iv a4), some (iv a5), none] [] M (m_X0_grab_30 n t M a1 a2 a3 a4 a5) := by
  intro t
  induction t with
  | zero => intro M a1 a2 a3 a4 a5; exact y_none
  | succ t ih =>
    intro M a1 a2 a3 a4 a5
    rewrite [m_X0_grab_30]
    refine y_iload (pc := 30) dX0_grab_30 rfl ?_
    refine y_aload_n (pc := 32) dX0_grab_32 rfl ?_
    refine y_getref (pc := 33) (x := 22) g_X0_12 dX0_grab_33 ?_
    refine y_getint (pc := 36) (g_X0_105 (by decide)) dX0_grab_36 ?_
    refine y_gd (fun h3 => ?_)
    refine y_icmp_ge (off := 92) (tgt := 131) (pc := 39) dX0_grab_39 (by decide) h3 (rd_rng _ _ _) (fun h4 => ?_) (fun h4 => ?_)
    · exact y_vret (pc := 131) dX0_grab_131
    · refine y_iload (pc := 42) dX0_grab_42 rfl ?_
      refine y_gd (fun h5 => ?_)
      refine y_if_le (off := 87) (tgt := 131) (pc := 44) dX0_grab_44 (by decide) h5 (fun h6 => ?_) (fun h6 => ?_)
      · exact y_vret (pc := 131) dX0_grab_131
      · refine y_aload_n (pc := 47) dX0_grab_47 rfl ?_
        refine y_getref (pc := 48) (x := 22) g_X0_12 dX0_grab_48 ?_
        refine y_getref (pc := 51) (x := 28) (g_X0_111 (by decide)) dX0_grab_51 ?_
        refine y_iload (pc := 54) dX0_grab_54 rfl ?_
        refine y_gd (fun h7 => ?_)
        refine y_iald (pc := 56) dX0_grab_56 ar_28 h7 ?_
        refine y_leti (fun x8 => ?_)
        refine y_istore (L' := [some (rv 129), some (iv a1), some (iv a2), some (iv a3), some (iv a4), some (iv a5), some (iv x8)]) (pc := 57) dX0_grab_57 (by decide) rfl rfl ?_
        refine y_aload_n (pc := 59) dX0_grab_59 rfl ?_
        refine y_getref (pc := 60) (x := 22) g_X0_12 dX0_grab_60 ?_
        refine y_getref (pc := 63) (x := 27) (g_X0_108 (by decide)) dX0_grab_63 ?_
        refine y_iload (pc := 66) dX0_grab_66 rfl ?_
        refine y_iald (pc := 68) dX0_grab_68 ar_27 h7 ?_
        refine y_aload_n (pc := 69) dX0_grab_69 rfl ?_
        refine y_getref (pc := 70) (x := 22) g_X0_12 dX0_grab_70 ?_
        refine y_getref (pc := 73) (x := 32) (g_X0_61 (by decide)) dX0_grab_73 ?_
        refine y_iload_n (pc := 76) dX0_grab_76 rfl ?_
        refine y_gd (fun h9 => ?_)
        refine y_iald (pc := 77) dX0_grab_77 ar_32 h9 ?_
        refine y_icmp_ne (off := 47) (tgt := 125) (pc := 78) dX0_grab_78 (by decide) (rd_rng _ _ _) (rd_rng _ _ _) (fun h10 => ?_) (fun h10 => ?_)
        · refine y_iinc (L' := [some (rv 129), some (iv a1), some (iv a2), some (iv a3), some (iv a4), some (iv (a5 + 1)), some (iv x8)]) (pc := 125) dX0_grab_125 rfl (by decide) rfl rfl ?_
          refine y_goto (tgt := 30) (pc := 128) dX0_grab_128 (by decide) ?_
          exact y_sub (ls_s (ls_s (ls_s (ls_s (ls_s (ls_s (ls_n ls_0))))))) (ih M a1 a2 a3 a4 (a5 + 1))
        · refine y_iload (pc := 81) dX0_grab_81 rfl ?_
          refine y_iload_n (pc := 83) dX0_grab_83 rfl ?_
          refine y_gd (fun h11 => ?_)
          refine y_icmp_eq (off := 41) (tgt := 125) (pc := 84) dX0_grab_84 (by decide) h11 (ix32 h9 (by decide)) (fun h12 => ?_) (fun h12 => ?_)
          · refine y_iinc (L' := [some (rv 129), some (iv a1), some (iv a2), some (iv a3), some (iv a4), some (iv (a5 + 1)), some (iv x8)]) (pc := 125) dX0_grab_125 rfl (by decide) rfl rfl ?_
            refine y_goto (tgt := 30) (pc := 128) dX0_grab_128 (by decide) ?_
            exact y_sub (ls_s (ls_s (ls_s (ls_s (ls_s (ls_s (ls_n ls_0))))))) (ih M a1 a2 a3 a4 (a5 + 1))
          · refine y_iload (pc := 87) dX0_grab_87 rfl ?_
            refine y_iconst (pc := 89) dX0_grab_89 ?_
            refine y_icmp_eq (off := 21) (tgt := 111) (pc := 90) dX0_grab_90 (by decide) h11 (by decide) (fun h13 => ?_) (fun h13 => ?_)
            · exact y_sub (ls_s (ls_s (ls_s (ls_s (ls_s (ls_s (ls_n ls_0))))))) (t_X0_grab_111 n (m_X0_grab_30 n t) ih M a1 a2 a3 a4 a5)
            · refine y_iload_n (pc := 93) dX0_grab_93 rfl ?_
              refine y_iload_n (pc := 94) dX0_grab_94 rfl ?_
              refine y_aload_n (pc := 95) dX0_grab_95 rfl ?_
              refine y_getref (pc := 96) (x := 22) g_X0_12 dX0_grab_96 ?_
              refine y_getref (pc := 99) (x := 26) (g_X0_120 (by decide)) dX0_grab_99 ?_
              refine y_iload (pc := 102) dX0_grab_102 rfl ?_
              refine y_iald (pc := 104) dX0_grab_104 ar_26 h7 ?_
              refine y_callSi (pc := 105) s_X1_mayTakeAnothers l_X0_123 dX0_grab_105 (c_X1_mayTakeAnothers n _ _ _ _) (fun _ h => nomatch h) rfl rfl (by decide) (by decide) (Nat.le_of_ble_eq_true rfl) (fun r15 M14 _ => ?_)
              refine y_gd (fun h16 => ?_)
              refine y_if_eq (off := 17) (tgt := 125) (pc := 108) dX0_grab_108 (by decide) h16 (fun h17 => ?_) (fun h17 => ?_)
              · refine y_iinc (L' := [some (rv 129), some (iv a1), some (iv a2), some (iv a3), some (iv a4), some (iv (a5 + 1)), some (iv x8)]) (pc := 125) dX0_grab_125 rfl (by decide) rfl rfl ?_
                refine y_goto (tgt := 30) (pc := 128) dX0_grab_128 (by decide) ?_
                exact y_sub (ls_s (ls_s (ls_s (ls_s (ls_s (ls_s (ls_n ls_0))))))) (ih M14 a1 a2 a3 a4 (a5 + 1))
              · exact y_sub (ls_s (ls_s (ls_s (ls_s (ls_s (ls_s (ls_n ls_0))))))) (t_X0_grab_111 n (m_X0_grab_30 n t) ih M14 a1 a2 a3 a4 a5)
def m_X0_grab (n : Nat) (M : Mem) (a1 : Int) : Rs := if 0 ≤ a1 ∧ a1 < 5 then (lt (rd M 29 (Int.toNat a1)) (fun x19 => lt (rd M 30 (Int.toNat a1)) (fun x20 => bd (m_X1_grabs n M x19 x20) (fun r22 M21 => m_X0_grab_30 n n M21 a1 x19 x20 r22 0)))) else none
theorem y_X0_grab (n : Nat) (M : Mem) (a1 : Int) : Y RX0 cX0_grab 7 1 3 none 0 [some (rv 129), some (iv a1), none, none, none, none, none] [] M (m_X0_grab n M a1) := by
  unfold m_X0_grab
  refine y_aload_n (pc := 0) dX0_grab_0 rfl ?_
  refine y_getref (pc := 1) (x := 22) g_X0_12 dX0_grab_1 ?_
  refine y_getref (pc := 4) (x := 29) (g_X0_64 (by decide)) dX0_grab_4 ?_
  refine y_iload_n (pc := 7) dX0_grab_7 rfl ?_
  refine y_gd (fun h18 => ?_)
  refine y_iald (pc := 8) dX0_grab_8 ar_29 h18 ?_
  refine y_leti (fun x19 => ?_)
  refine y_istore_n (L' := [some (rv 129), some (iv a1), some (iv x19), none, none, none, none]) (pc := 9) dX0_grab_9 (by decide) rfl rfl ?_
  refine y_aload_n (pc := 10) dX0_grab_10 rfl ?_
  refine y_getref (pc := 11) (x := 22) g_X0_12 dX0_grab_11 ?_
  refine y_getref (pc := 14) (x := 30) (g_X0_67 (by decide)) dX0_grab_14 ?_
  refine y_iload_n (pc := 17) dX0_grab_17 rfl ?_
  refine y_iald (pc := 18) dX0_grab_18 ar_30 h18 ?_
  refine y_leti (fun x20 => ?_)
  refine y_istore_n (L' := [some (rv 129), some (iv a1), some (iv x19), some (iv x20), none, none, none]) (pc := 19) dX0_grab_19 (by decide) rfl rfl ?_
  refine y_iload_n (pc := 20) dX0_grab_20 rfl ?_
  refine y_iload_n (pc := 21) dX0_grab_21 rfl ?_
  refine y_callSi (pc := 22) s_X1_grabs l_X0_117 dX0_grab_22 (c_X1_grabs n _ _ _) (fun _ h => nomatch h) rfl rfl (by decide) (by decide) (Nat.le_of_ble_eq_true rfl) (fun r22 M21 _ => ?_)
  refine y_istore (L' := [some (rv 129), some (iv a1), some (iv x19), some (iv x20), some (iv r22), none, none]) (pc := 25) dX0_grab_25 (by decide) rfl rfl ?_
  refine y_iconst (pc := 27) dX0_grab_27 ?_
  refine y_istore (L' := [some (rv 129), some (iv a1), some (iv x19), some (iv x20), some (iv r22), some (iv 0), none]) (pc := 28) dX0_grab_28 (by decide) rfl rfl ?_
  exact y_sub (ls_s (ls_s (ls_s (ls_s (ls_s (ls_s (ls_n ls_0))))))) (t_X0_grab_30 n n M21 a1 x19 x20 r22 0)
theorem c_X0_grab (n : Nat) (M : Mem) (a1 : Int) : ∀ res : Int × Mem, m_X0_grab n M a1 = some res → CTv none yX0_grab cX0_grab 7 1 [rv 129, iv a1] M res := CTv_of (by decide +kernel) rfl (Nat.le_of_ble_eq_true rfl) rfl (y_X0_grab n M a1)
def m_X1_pace (n : Nat) (M : Mem) (a0 : Int) (a1 : Int) : Rs := if I32 a0 then (if a0 = 1 then (some (2, M)) else (if a0 = 2 then (some (2, M)) else (if a0 = 3 then (some (0, M)) else (if a0 = 4 then (some (2, M)) else (if a0 = 5 then (if I32 a1 then (some (((Int.tdiv a1 3) + 1), M)) else none) else (if a0 = 6 then (if I32 a1 then (some ((Int.tdiv a1 3), M)) else none) else (if a0 = 7 then (some (3, M)) else (some (1, M))))))))) else none
theorem y_X1_pace (n : Nat) (M : Mem) (a0 : Int) (a1 : Int) : Y RX1 cX1_pace 2 0 0 none 0 [some (iv a0), some (iv a1)] [] M (m_X1_pace n M a0 a1) := by
  unfold m_X1_pace
  refine y_iload_n (pc := 0) dX1_pace_0 rfl ?_
  refine y_gd (fun h1 => ?_)
  refine y_br (fun h2 => ?_) (fun h2 => ?_)
  · refine y_tableIn (off := 43) (tgt := 44) (pc := 1) dX1_pace_1 h2 (by decide) (by decide) (by decide) rfl (by decide) ?_
    refine y_iconst (pc := 44) dX1_pace_44 ?_
    exact y_iret (pc := 45) dX1_pace_45
  · refine y_br (fun h3 => ?_) (fun h3 => ?_)
    · refine y_tableIn (off := 43) (tgt := 44) (pc := 1) dX1_pace_1 h3 (by decide) (by decide) (by decide) rfl (by decide) ?_
      refine y_iconst (pc := 44) dX1_pace_44 ?_
      exact y_iret (pc := 45) dX1_pace_45
    · refine y_br (fun h4 => ?_) (fun h4 => ?_)
      · refine y_tableIn (off := 45) (tgt := 46) (pc := 1) dX1_pace_1 h4 (by decide) (by decide) (by decide) rfl (by decide) ?_
        refine y_iconst (pc := 46) dX1_pace_46 ?_
        exact y_iret (pc := 47) dX1_pace_47
      · refine y_br (fun h5 => ?_) (fun h5 => ?_)
        · refine y_tableIn (off := 43) (tgt := 44) (pc := 1) dX1_pace_1 h5 (by decide) (by decide) (by decide) rfl (by decide) ?_
          refine y_iconst (pc := 44) dX1_pace_44 ?_
          exact y_iret (pc := 45) dX1_pace_45
        · refine y_br (fun h6 => ?_) (fun h6 => ?_)
          · refine y_tableIn (off := 47) (tgt := 48) (pc := 1) dX1_pace_1 h6 (by decide) (by decide) (by decide) rfl (by decide) ?_
            refine y_iload_n (pc := 48) dX1_pace_48 rfl ?_
            refine y_iconst (pc := 49) dX1_pace_49 ?_
            refine y_gd (fun h7 => ?_)
            refine y_idiv (pc := 50) dX1_pace_50 h7 (by decide) (by decide) ?_
            refine y_iconst (pc := 51) dX1_pace_51 ?_
            refine y_iadd (pc := 52) dX1_pace_52 ?_
            exact y_iret (pc := 53) dX1_pace_53
          · refine y_br (fun h8 => ?_) (fun h8 => ?_)
            · refine y_tableIn (off := 53) (tgt := 54) (pc := 1) dX1_pace_1 h8 (by decide) (by decide) (by decide) rfl (by decide) ?_
              refine y_iload_n (pc := 54) dX1_pace_54 rfl ?_
              refine y_iconst (pc := 55) dX1_pace_55 ?_
              refine y_gd (fun h9 => ?_)
              refine y_idiv (pc := 56) dX1_pace_56 h9 (by decide) (by decide) ?_
              exact y_iret (pc := 57) dX1_pace_57
            · refine y_br (fun h10 => ?_) (fun h10 => ?_)
              · refine y_tableIn (off := 57) (tgt := 58) (pc := 1) dX1_pace_1 h10 (by decide) (by decide) (by decide) rfl (by decide) ?_
                refine y_iconst (pc := 58) dX1_pace_58 ?_
                exact y_iret (pc := 59) dX1_pace_59
              · refine y_tableOut (tgt := 60) (pc := 1) dX1_pace_1 h1 (by omega) (by decide) ?_
                refine y_iconst (pc := 60) dX1_pace_60 ?_
                exact y_iret (pc := 61) dX1_pace_61
theorem c_X1_pace (n : Nat) (M : Mem) (a0 : Int) (a1 : Int) : ∀ res : Int × Mem, m_X1_pace n M a0 a1 = some res → CTi none yX1_pace cX1_pace 2 (some .int) 0 [iv a0, iv a1] M res := CTi_of (by decide +kernel) rfl (Nat.le_of_ble_eq_true rfl) rfl (y_X1_pace n M a0 a1)
def m_X0_walk_107 (n : Nat) (M : Mem) (a1 : Int) (a4 : Int) : Rs := if 0 ≤ a1 ∧ a1 < 5 then (wr M 32 (Int.toNat a1) a4 (fun M2 => some (0, M2))) else none
theorem t_X0_walk_107 (n : Nat) (M : Mem) (a1 : Int) (a4 : Int) : Y RX0 cX0_walk 7 1 3 none 107 [some (rv 129), some (iv a1), none, none, some (iv a4), none, none] [] M (m_X0_walk_107 n M a1 a4) := by
  unfold m_X0_walk_107
  refine y_aload_n (pc := 107) dX0_walk_107 rfl ?_
  refine y_getref (pc := 108) (x := 22) g_X0_12 dX0_walk_108 ?_
  refine y_getref (pc := 111) (x := 32) (g_X0_61 (by decide)) dX0_walk_111 ?_
  refine y_iload_n (pc := 114) dX0_walk_114 rfl ?_
  refine y_iload (pc := 115) dX0_walk_115 rfl ?_
  refine y_gd (fun h1 => ?_)
  refine y_iastw (pc := 117) dX0_walk_117 ar_32 h1 (fun M2 => ?_)
  exact y_vret (pc := 118) dX0_walk_118
def m_X0_walk_98 (n : Nat) (k36 : Mem → Int → Int → Int → Int → Int → Rs) (M : Mem) (a1 : Int) (a2 : Int) (a3 : Int) (a5 : Int) (s0 : Int) (s1 : Int) : Rs := k36 M a1 a2 a3 (s1 + s0) (a5 + 1)
theorem t_X0_walk_98 (n : Nat) (k36 : Mem → Int → Int → Int → Int → Int → Rs) (hk36 : ∀ (M : Mem) (a1 : Int) (a2 : Int) (a3 : Int) (a4 : Int) (a5 : Int), Y RX0 cX0_walk 7 1 3 none 36 [some (rv 129), some (iv a1), some (iv a2), some (iv a3), some (iv a4), some (iv a5), none] [] M (k36 M a1 a2 a3 a4 a5)) (M : Mem) (a1 : Int) (a2 : Int) (a3 : Int) (a5 : Int) (s0 : Int) (s1 : Int) : Y RX0 cX0_walk 7 1 3 none 98 [some (rv 129), some (iv a1), some (iv a2), some (iv a3), none, some (iv a5), none] [iv s0, iv s1] M (m_X0_walk_98 n k36 M a1 a2 a3 a5 s0 s1) := by
  unfold m_X0_walk_98
  refine y_iadd (pc := 98) dX0_walk_98 ?_
  refine y_istore (L' := [some (rv 129), some (iv a1), some (iv a2), some (iv a3), some (iv (s1 + s0)), some (iv a5), none]) (pc := 99) dX0_walk_99 (by decide) rfl rfl ?_
  refine y_iinc (L' := [some (rv 129), some (iv a1), some (iv a2), some (iv a3), some (iv (s1 + s0)), some (iv (a5 + 1)), none]) (pc := 101) dX0_walk_101 rfl (by decide) rfl rfl ?_
  refine y_goto (tgt := 36) (pc := 104) dX0_walk_104 (by decide) ?_
  exact y_sub (ls_s (ls_s (ls_s (ls_s (ls_s (ls_s (ls_n ls_0))))))) (hk36 M a1 a2 a3 (s1 + s0) (a5 + 1))
def m_X0_walk_79 (n : Nat) (k36 : Mem → Int → Int → Int → Int → Int → Rs) (M : Mem) (a1 : Int) (a2 : Int) (a3 : Int) (a5 : Int) (s0 : Int) (s1 : Int) : Rs := k36 M a1 a2 a3 (s1 + s0) (a5 + 1)
theorem t_X0_walk_79 (n : Nat) (k36 : Mem → Int → Int → Int → Int → Int → Rs) (hk36 : ∀ (M : Mem) (a1 : Int) (a2 : Int) (a3 : Int) (a4 : Int) (a5 : Int), Y RX0 cX0_walk 7 1 3 none 36 [some (rv 129), some (iv a1), some (iv a2), some (iv a3), some (iv a4), some (iv a5), none] [] M (k36 M a1 a2 a3 a4 a5)) (M : Mem) (a1 : Int) (a2 : Int) (a3 : Int) (a5 : Int) (s0 : Int) (s1 : Int) : Y RX0 cX0_walk 7 1 3 none 79 [some (rv 129), some (iv a1), some (iv a2), some (iv a3), none, some (iv a5), none] [iv s0, iv s1] M (m_X0_walk_79 n k36 M a1 a2 a3 a5 s0 s1) := by
  unfold m_X0_walk_79
  refine y_iadd (pc := 79) dX0_walk_79 ?_
  refine y_istore (L' := [some (rv 129), some (iv a1), some (iv a2), some (iv a3), some (iv (s1 + s0)), some (iv a5), none]) (pc := 80) dX0_walk_80 (by decide) rfl rfl ?_
  refine y_goto (tgt := 101) (pc := 82) dX0_walk_82 (by decide) ?_
  refine y_iinc (L' := [some (rv 129), some (iv a1), some (iv a2), some (iv a3), some (iv (s1 + s0)), some (iv (a5 + 1)), none]) (pc := 101) dX0_walk_101 rfl (by decide) rfl rfl ?_
  refine y_goto (tgt := 36) (pc := 104) dX0_walk_104 (by decide) ?_
  exact y_sub (ls_s (ls_s (ls_s (ls_s (ls_s (ls_s (ls_n ls_0))))))) (hk36 M a1 a2 a3 (s1 + s0) (a5 + 1))
def m_X0_walk_36 (n : Nat) : Nat → Mem → Int → Int → Int → Int → Int → Rs
  | 0, _, _, _, _, _, _ => none
  | t + 1, M, a1, a2, a3, a4, a5 => if I32 a5 then (if I32 a3 then (if a3 ≤ a5 then (m_X0_walk_107 n M a1 a4) else (if I32 a4 then (if I32 a2 then (if a4 = a2 then (m_X0_walk_107 n M a1 a4) else (lt ((Int.tdiv a2 6) - (Int.tdiv a4 6)) (fun x9 => if I32 x9 then (if x9 = 0 then (if a2 ≤ a4 then (m_X0_walk_98 n (m_X0_walk_36 n t) M a1 a2 a3 a5 (-1) a4) else (m_X0_walk_98 n (m_X0_walk_36 n t) M a1 a2 a3 a5 1 a4)) else (if x9 ≤ 0 then (m_X0_walk_79 n (m_X0_walk_36 n t) M a1 a2 a3 a5 (-6) a4) else (m_X0_walk_79 n (m_X0_walk_36 n t) M a1 a2 a3 a5 6 a4))) else none))) else none) else none)) else none) else none
theorem t_X0_walk_36 (n : Nat) : ∀ (t : Nat) (M : Mem) (a1 : Int) (a2 : Int) (a3 : Int) (a4 : Int) (a5 : Int), Y RX0 cX0_walk 7 1 3 none 36 [some (rv 129), some (iv a1), some (iv a2), some (iv a3), some (iv a4), some (iv a5), none] [] M (m_X0_walk_36 n t M a1 a2 a3 a4 a5) := by
  intro t
  induction t with
  | zero => intro M a1 a2 a3 a4 a5; exact y_none
  | succ t ih =>
    intro M a1 a2 a3 a4 a5
    rewrite [m_X0_walk_36]
    refine y_iload (pc := 36) dX0_walk_36 rfl ?_
    refine y_iload_n (pc := 38) dX0_walk_38 rfl ?_
    refine y_gd (fun h3 => ?_)
    refine y_gd (fun h4 => ?_)
    refine y_icmp_ge (off := 68) (tgt := 107) (pc := 39) dX0_walk_39 (by decide) h3 h4 (fun h5 => ?_) (fun h5 => ?_)
    · exact y_sub (ls_s (ls_s (ls_n (ls_n (ls_s (ls_n (ls_n ls_0))))))) (t_X0_walk_107 n M a1 a4)
    · refine y_iload (pc := 42) dX0_walk_42 rfl ?_
      refine y_iload_n (pc := 44) dX0_walk_44 rfl ?_
      refine y_gd (fun h6 => ?_)
      refine y_gd (fun h7 => ?_)
      refine y_icmp_eq (off := 62) (tgt := 107) (pc := 45) dX0_walk_45 (by decide) h6 h7 (fun h8 => ?_) (fun h8 => ?_)
      · exact y_sub (ls_s (ls_s (ls_n (ls_n (ls_s (ls_n (ls_n ls_0))))))) (t_X0_walk_107 n M a1 a4)
      · refine y_iload_n (pc := 48) dX0_walk_48 rfl ?_
        refine y_bipush (pc := 49) dX0_walk_49 (by decide) ?_
        refine y_idiv (pc := 51) dX0_walk_51 h7 (by decide) (by decide) ?_
        refine y_iload (pc := 52) dX0_walk_52 rfl ?_
        refine y_bipush (pc := 54) dX0_walk_54 (by decide) ?_
        refine y_idiv (pc := 56) dX0_walk_56 h6 (by decide) (by decide) ?_
        refine y_isub (pc := 57) dX0_walk_57 ?_
        refine y_leti (fun x9 => ?_)
        refine y_istore (L' := [some (rv 129), some (iv a1), some (iv a2), some (iv a3), some (iv a4), some (iv a5), some (iv x9)]) (pc := 58) dX0_walk_58 (by decide) rfl rfl ?_
        refine y_iload (pc := 60) dX0_walk_60 rfl ?_
        refine y_gd (fun h10 => ?_)
        refine y_if_eq (off := 23) (tgt := 85) (pc := 62) dX0_walk_62 (by decide) h10 (fun h11 => ?_) (fun h11 => ?_)
        · refine y_iload (pc := 85) dX0_walk_85 rfl ?_
          refine y_iload_n (pc := 87) dX0_walk_87 rfl ?_
          refine y_iload (pc := 88) dX0_walk_88 rfl ?_
          refine y_icmp_le (off := 7) (tgt := 97) (pc := 90) dX0_walk_90 (by decide) h7 h6 (fun h12 => ?_) (fun h12 => ?_)
          · refine y_iconst (pc := 97) dX0_walk_97 ?_
            exact y_sub (ls_s (ls_s (ls_s (ls_s (ls_n (ls_s (ls_n ls_0))))))) (t_X0_walk_98 n (m_X0_walk_36 n t) ih M a1 a2 a3 a5 (-1) a4)
          · refine y_iconst (pc := 93) dX0_walk_93 ?_
            refine y_goto (tgt := 98) (pc := 94) dX0_walk_94 (by decide) ?_
            exact y_sub (ls_s (ls_s (ls_s (ls_s (ls_n (ls_s (ls_n ls_0))))))) (t_X0_walk_98 n (m_X0_walk_36 n t) ih M a1 a2 a3 a5 1 a4)
        · refine y_iload (pc := 65) dX0_walk_65 rfl ?_
          refine y_iload (pc := 67) dX0_walk_67 rfl ?_
          refine y_if_le (off := 8) (tgt := 77) (pc := 69) dX0_walk_69 (by decide) h10 (fun h13 => ?_) (fun h13 => ?_)
          · refine y_bipush (pc := 77) dX0_walk_77 (by decide) ?_
            exact y_sub (ls_s (ls_s (ls_s (ls_s (ls_n (ls_s (ls_n ls_0))))))) (t_X0_walk_79 n (m_X0_walk_36 n t) ih M a1 a2 a3 a5 (-6) a4)
          · refine y_bipush (pc := 72) dX0_walk_72 (by decide) ?_
            refine y_goto (tgt := 79) (pc := 74) dX0_walk_74 (by decide) ?_
            exact y_sub (ls_s (ls_s (ls_s (ls_s (ls_n (ls_s (ls_n ls_0))))))) (t_X0_walk_79 n (m_X0_walk_36 n t) ih M a1 a2 a3 a5 6 a4)
def m_X0_walk (n : Nat) (M : Mem) (a1 : Int) (a2 : Int) : Rs := if 0 ≤ a1 ∧ a1 < 5 then (bd (m_X1_pace n M (rd M 29 (Int.toNat a1)) (rd M 30 (Int.toNat a1))) (fun r16 M15 => lt (rd M15 32 (Int.toNat a1)) (fun x17 => m_X0_walk_36 n n M15 a1 a2 r16 x17 0))) else none
theorem y_X0_walk (n : Nat) (M : Mem) (a1 : Int) (a2 : Int) : Y RX0 cX0_walk 7 1 3 none 0 [some (rv 129), some (iv a1), some (iv a2), none, none, none, none] [] M (m_X0_walk n M a1 a2) := by
  unfold m_X0_walk
  refine y_aload_n (pc := 0) dX0_walk_0 rfl ?_
  refine y_getref (pc := 1) (x := 22) g_X0_12 dX0_walk_1 ?_
  refine y_getref (pc := 4) (x := 29) (g_X0_64 (by decide)) dX0_walk_4 ?_
  refine y_iload_n (pc := 7) dX0_walk_7 rfl ?_
  refine y_gd (fun h14 => ?_)
  refine y_iald (pc := 8) dX0_walk_8 ar_29 h14 ?_
  refine y_aload_n (pc := 9) dX0_walk_9 rfl ?_
  refine y_getref (pc := 10) (x := 22) g_X0_12 dX0_walk_10 ?_
  refine y_getref (pc := 13) (x := 30) (g_X0_67 (by decide)) dX0_walk_13 ?_
  refine y_iload_n (pc := 16) dX0_walk_16 rfl ?_
  refine y_iald (pc := 17) dX0_walk_17 ar_30 h14 ?_
  refine y_callSi (pc := 18) s_X1_pace l_X0_114 dX0_walk_18 (c_X1_pace n _ _ _) (fun _ h => nomatch h) rfl rfl (by decide) (by decide) (Nat.le_of_ble_eq_true rfl) (fun r16 M15 _ => ?_)
  refine y_istore_n (L' := [some (rv 129), some (iv a1), some (iv a2), some (iv r16), none, none, none]) (pc := 21) dX0_walk_21 (by decide) rfl rfl ?_
  refine y_aload_n (pc := 22) dX0_walk_22 rfl ?_
  refine y_getref (pc := 23) (x := 22) g_X0_12 dX0_walk_23 ?_
  refine y_getref (pc := 26) (x := 32) (g_X0_61 (by decide)) dX0_walk_26 ?_
  refine y_iload_n (pc := 29) dX0_walk_29 rfl ?_
  refine y_iald (pc := 30) dX0_walk_30 ar_32 h14 ?_
  refine y_leti (fun x17 => ?_)
  refine y_istore (L' := [some (rv 129), some (iv a1), some (iv a2), some (iv r16), some (iv x17), none, none]) (pc := 31) dX0_walk_31 (by decide) rfl rfl ?_
  refine y_iconst (pc := 33) dX0_walk_33 ?_
  refine y_istore (L' := [some (rv 129), some (iv a1), some (iv a2), some (iv r16), some (iv x17), some (iv 0), none]) (pc := 34) dX0_walk_34 (by decide) rfl rfl ?_
  exact y_sub (ls_s (ls_s (ls_s (ls_s (ls_s (ls_s (ls_n ls_0))))))) (t_X0_walk_36 n n M15 a1 a2 r16 x17 0)
theorem c_X0_walk (n : Nat) (M : Mem) (a1 : Int) (a2 : Int) : ∀ res : Int × Mem, m_X0_walk n M a1 a2 = some res → CTv none yX0_walk cX0_walk 7 1 [rv 129, iv a1, iv a2] M res := CTv_of (by decide +kernel) rfl (Nat.le_of_ble_eq_true rfl) rfl (y_X0_walk n M a1 a2)
def m_X0_goOn_34 (n : Nat) (k6 : Mem → Int → Int → Rs) : Nat → Mem → Int → Int → Int → Rs
  | 0, _, _, _, _ => none
  | t + 1, M, a1, a2, a3 => if I32 a3 then (if (rd M 22 12) ≤ a3 then (k6 M a1 (a2 + 1)) else (bd (m_X0_goal n M a3) (fun r4 M3 => bd (m_X0_walk n M3 a3 r4) (fun _ M5 => if 0 ≤ a3 ∧ a3 < 5 then (bd (m_X0_isInFog n M5 (rd M5 32 (Int.toNat a3))) (fun r8 M7 => if I32 r8 then (if r8 = 0 then ((m_X0_goOn_34 n k6 t) M7 a1 a2 (a3 + 1)) else (bd (m_X0_grab n M7 a3) (fun _ M11 => (m_X0_goOn_34 n k6 t) M11 a1 a2 (a3 + 1)))) else none)) else none)))) else none
theorem t_X0_goOn_34 (n : Nat) (k6 : Mem → Int → Int → Rs) (hk6 : ∀ (M : Mem) (a1 : Int) (a2 : Int), Y RX0 cX0_goOn 4 4 3 none 6 [some (rv 129), some (iv a1), some (iv a2), none] [] M (k6 M a1 a2)) : ∀ (t : Nat) (M : Mem) (a1 : Int) (a2 : Int) (a3 : Int), Y RX0 cX0_goOn 4 4 3 none 34 [some (rv 129), some (iv a1), some (iv a2), some (iv a3)] [] M (m_X0_goOn_34 n k6 t M a1 a2 a3) := by
  intro t
  induction t with
  | zero => intro M a1 a2 a3; exact y_none
  | succ t ih =>
    intro M a1 a2 a3
    rewrite [m_X0_goOn_34]
    refine y_iload_n (pc := 34) dX0_goOn_34 rfl ?_
    refine y_aload_n (pc := 35) dX0_goOn_35 rfl ?_
    refine y_getref (pc := 36) (x := 22) g_X0_12 dX0_goOn_36 ?_
    refine y_getint (pc := 39) (g_X0_58 (by decide)) dX0_goOn_39 ?_
    refine y_gd (fun h1 => ?_)
    refine y_icmp_ge (off := 40) (tgt := 82) (pc := 42) dX0_goOn_42 (by decide) h1 (rd_rng _ _ _) (fun h2 => ?_) (fun h2 => ?_)
    · refine y_iinc (L' := [some (rv 129), some (iv a1), some (iv (a2 + 1)), some (iv a3)]) (pc := 82) dX0_goOn_82 rfl (by decide) rfl rfl ?_
      refine y_goto (tgt := 6) (pc := 85) dX0_goOn_85 (by decide) ?_
      exact y_sub (ls_s (ls_s (ls_s (ls_n ls_0)))) (hk6 M a1 (a2 + 1))
    · refine y_aload_n (pc := 45) dX0_goOn_45 rfl ?_
      refine y_iload_n (pc := 46) dX0_goOn_46 rfl ?_
      refine y_aload_n (pc := 47) dX0_goOn_47 rfl ?_
      refine y_iload_n (pc := 48) dX0_goOn_48 rfl ?_
      refine y_callVi (pc := 49) v_X0_goal l_X0_94 dX0_goOn_49 (c_X0_goal n _ _) (fun _ h => nomatch h) rfl rc_X0 rfl (by decide) (by decide) (Nat.le_of_ble_eq_true rfl) (fun r4 M3 _ => ?_)
      refine y_callVv (pc := 52) v_X0_walk l_X0_97 dX0_goOn_52 (c_X0_walk n _ _ _) (fun _ h => nomatch h) rfl rc_X0 rfl (by decide) (by decide) (Nat.le_of_ble_eq_true rfl) (fun _ M5 _ => ?_)
      refine y_aload_n (pc := 55) dX0_goOn_55 rfl ?_
      refine y_aload_n (pc := 56) dX0_goOn_56 rfl ?_
      refine y_getref (pc := 57) (x := 22) g_X0_12 dX0_goOn_57 ?_
      refine y_getref (pc := 60) (x := 32) (g_X0_61 (by decide)) dX0_goOn_60 ?_
      refine y_iload_n (pc := 63) dX0_goOn_63 rfl ?_
      refine y_gd (fun h6 => ?_)
      refine y_iald (pc := 64) dX0_goOn_64 ar_32 h6 ?_
      refine y_callVi (pc := 65) v_X0_isInFog l_X0_87 dX0_goOn_65 (c_X0_isInFog n _ _) (fun _ h => nomatch h) rfl rc_X0 rfl (by decide) (by decide) (Nat.le_of_ble_eq_true rfl) (fun r8 M7 _ => ?_)
      refine y_gd (fun h9 => ?_)
      refine y_if_eq (off := 8) (tgt := 76) (pc := 68) dX0_goOn_68 (by decide) h9 (fun h10 => ?_) (fun h10 => ?_)
      · refine y_iinc (L' := [some (rv 129), some (iv a1), some (iv a2), some (iv (a3 + 1))]) (pc := 76) dX0_goOn_76 rfl (by decide) rfl rfl ?_
        refine y_goto (tgt := 34) (pc := 79) dX0_goOn_79 (by decide) ?_
        exact y_sub (ls_s (ls_s (ls_s (ls_s ls_0)))) (ih M7 a1 a2 (a3 + 1))
      · refine y_aload_n (pc := 71) dX0_goOn_71 rfl ?_
        refine y_iload_n (pc := 72) dX0_goOn_72 rfl ?_
        refine y_callVv (pc := 73) v_X0_grab l_X0_101 dX0_goOn_73 (c_X0_grab n _ _) (fun _ h => nomatch h) rfl rc_X0 rfl (by decide) (by decide) (Nat.le_of_ble_eq_true rfl) (fun _ M11 _ => ?_)
        refine y_iinc (L' := [some (rv 129), some (iv a1), some (iv a2), some (iv (a3 + 1))]) (pc := 76) dX0_goOn_76 rfl (by decide) rfl rfl ?_
        refine y_goto (tgt := 34) (pc := 79) dX0_goOn_79 (by decide) ?_
        exact y_sub (ls_s (ls_s (ls_s (ls_s ls_0)))) (ih M11 a1 a2 (a3 + 1))
def m_X0_goOn_6 (n : Nat) : Nat → Mem → Int → Int → Rs
  | 0, _, _, _ => none
  | t + 1, M, a1, a2 => if I32 a2 then (if I32 a1 then (if a1 ≤ a2 then (some (0, M)) else (wr M 22 13 ((rd M 22 13) + 1) (fun M15 => bd (m_X0_look n M15) (fun _ M16 => bd (m_X0_dropInTheClear n M16) (fun _ M17 => m_X0_goOn_34 n (m_X0_goOn_6 n t) n M17 a1 a2 0))))) else none) else none
theorem t_X0_goOn_6 (n : Nat) : ∀ (t : Nat) (M : Mem) (a1 : Int) (a2 : Int), Y RX0 cX0_goOn 4 4 3 none 6 [some (rv 129), some (iv a1), some (iv a2), none] [] M (m_X0_goOn_6 n t M a1 a2) := by
  intro t
  induction t with
  | zero => intro M a1 a2; exact y_none
  | succ t ih =>
    intro M a1 a2
    rewrite [m_X0_goOn_6]
    refine y_iload_n (pc := 6) dX0_goOn_6 rfl ?_
    refine y_iload_n (pc := 7) dX0_goOn_7 rfl ?_
    refine y_gd (fun h12 => ?_)
    refine y_gd (fun h13 => ?_)
    refine y_icmp_ge (off := 80) (tgt := 88) (pc := 8) dX0_goOn_8 (by decide) h12 h13 (fun h14 => ?_) (fun h14 => ?_)
    · exact y_vret (pc := 88) dX0_goOn_88
    · refine y_aload_n (pc := 11) dX0_goOn_11 rfl ?_
      refine y_getref (pc := 12) (x := 22) g_X0_12 dX0_goOn_12 ?_
      refine y_dup (pc := 15) dX0_goOn_15 rfl ?_
      refine y_getint (pc := 16) (g_X0_43 (by decide)) dX0_goOn_16 ?_
      refine y_iconst (pc := 19) dX0_goOn_19 ?_
      refine y_iadd (pc := 20) dX0_goOn_20 ?_
      refine y_putintw (pc := 21) (pf_X0_43 (by decide)) dX0_goOn_21 (fun M15 => ?_)
      refine y_aload_n (pc := 24) dX0_goOn_24 rfl ?_
      refine y_callVv (pc := 25) v_X0_look l_X0_40 dX0_goOn_25 (c_X0_look n _) (fun _ h => nomatch h) rfl rc_X0 rfl (by decide) (by decide) (Nat.le_of_ble_eq_true rfl) (fun _ M16 _ => ?_)
      refine y_aload_n (pc := 28) dX0_goOn_28 rfl ?_
      refine y_callVv (pc := 29) v_X0_dropInTheClear l_X0_91 dX0_goOn_29 (c_X0_dropInTheClear n _) (fun _ h => nomatch h) rfl rc_X0 rfl (by decide) (by decide) (Nat.le_of_ble_eq_true rfl) (fun _ M17 _ => ?_)
      refine y_iconst (pc := 32) dX0_goOn_32 ?_
      refine y_istore_n (L' := [some (rv 129), some (iv a1), some (iv a2), some (iv 0)]) (pc := 33) dX0_goOn_33 (by decide) rfl rfl ?_
      exact y_sub (ls_s (ls_s (ls_s (ls_s ls_0)))) (t_X0_goOn_34 n (m_X0_goOn_6 n t) ih n M17 a1 a2 0)
def m_X0_goOn (n : Nat) (M : Mem) (a1 : Int) : Rs := bd (m_X0_look n M) (fun _ M18 => m_X0_goOn_6 n n M18 a1 0)
theorem y_X0_goOn (n : Nat) (M : Mem) (a1 : Int) : Y RX0 cX0_goOn 4 4 3 none 0 [some (rv 129), some (iv a1), none, none] [] M (m_X0_goOn n M a1) := by
  unfold m_X0_goOn
  refine y_aload_n (pc := 0) dX0_goOn_0 rfl ?_
  refine y_callVv (pc := 1) v_X0_look l_X0_40 dX0_goOn_1 (c_X0_look n _) (fun _ h => nomatch h) rfl rc_X0 rfl (by decide) (by decide) (Nat.le_of_ble_eq_true rfl) (fun _ M18 _ => ?_)
  refine y_iconst (pc := 4) dX0_goOn_4 ?_
  refine y_istore_n (L' := [some (rv 129), some (iv a1), some (iv 0), none]) (pc := 5) dX0_goOn_5 (by decide) rfl rfl ?_
  exact y_sub (ls_s (ls_s (ls_s (ls_n ls_0)))) (t_X0_goOn_6 n n M18 a1 0)
theorem c_X0_goOn (n : Nat) (M : Mem) (a1 : Int) : ∀ res : Int × Mem, m_X0_goOn n M a1 = some res → CTv none yX0_goOn cX0_goOn 4 4 [rv 129, iv a1] M res := CTv_of (by decide +kernel) rfl (Nat.le_of_ble_eq_true rfl) rfl (y_X0_goOn n M a1)
def m_X2_spread (n : Nat) (M : Mem) (a0 : Int) (a1 : Int) : Rs := lt (bShl (bAnd a0 (-8521761)) 1) (fun x1 => lt (bShr (bAnd a0 (-266306)) 1) (fun x2 => some ((bAnd (bOr (bOr (bOr (bOr a0 (bShl a0 6)) (bShr a0 6)) x1) x2) a1), M)))
theorem y_X2_spread (n : Nat) (M : Mem) (a0 : Int) (a1 : Int) : Y RX2 cX2_spread 4 0 0 none 0 [some (iv a0), some (iv a1), none, none] [] M (m_X2_spread n M a0 a1) := by
  unfold m_X2_spread
  refine y_iload_n (pc := 0) dX2_spread_0 rfl ?_
  refine y_ldc (pc := 1) (n := (-8521761)) k_X2_11 (by decide) dX2_spread_1 ?_
  refine y_iand (pc := 3) dX2_spread_3 ?_
  refine y_iconst (pc := 4) dX2_spread_4 ?_
  refine y_ishl (pc := 5) dX2_spread_5 ?_
  refine y_leti (fun x1 => ?_)
  refine y_istore_n (L' := [some (iv a0), some (iv a1), some (iv x1), none]) (pc := 6) dX2_spread_6 (by decide) rfl rfl ?_
  refine y_iload_n (pc := 7) dX2_spread_7 rfl ?_
  refine y_ldc (pc := 8) (n := (-266306)) k_X2_12 (by decide) dX2_spread_8 ?_
  refine y_iand (pc := 10) dX2_spread_10 ?_
  refine y_iconst (pc := 11) dX2_spread_11 ?_
  refine y_ishr (pc := 12) dX2_spread_12 ?_
  refine y_leti (fun x2 => ?_)
  refine y_istore_n (L' := [some (iv a0), some (iv a1), some (iv x1), some (iv x2)]) (pc := 13) dX2_spread_13 (by decide) rfl rfl ?_
  refine y_iload_n (pc := 14) dX2_spread_14 rfl ?_
  refine y_iload_n (pc := 15) dX2_spread_15 rfl ?_
  refine y_bipush (pc := 16) dX2_spread_16 (by decide) ?_
  refine y_ishl (pc := 18) dX2_spread_18 ?_
  refine y_ior (pc := 19) dX2_spread_19 ?_
  refine y_iload_n (pc := 20) dX2_spread_20 rfl ?_
  refine y_bipush (pc := 21) dX2_spread_21 (by decide) ?_
  refine y_ishr (pc := 23) dX2_spread_23 ?_
  refine y_ior (pc := 24) dX2_spread_24 ?_
  refine y_iload_n (pc := 25) dX2_spread_25 rfl ?_
  refine y_ior (pc := 26) dX2_spread_26 ?_
  refine y_iload_n (pc := 27) dX2_spread_27 rfl ?_
  refine y_ior (pc := 28) dX2_spread_28 ?_
  refine y_iload_n (pc := 29) dX2_spread_29 rfl ?_
  refine y_iand (pc := 30) dX2_spread_30 ?_
  exact y_iret (pc := 31) dX2_spread_31
theorem c_X2_spread (n : Nat) (M : Mem) (a0 : Int) (a1 : Int) : ∀ res : Int × Mem, m_X2_spread n M a0 a1 = some res → CTi none yX2_spread cX2_spread 4 (some .int) 0 [iv a0, iv a1] M res := CTi_of (by decide +kernel) rfl (Nat.le_of_ble_eq_true rfl) rfl (y_X2_spread n M a0 a1)
def m_X2_pieceWith_8 (n : Nat) : Nat → Mem → Int → Int → Int → Rs
  | 0, _, _, _, _ => none
  | t + 1, M, a1, a2, a3 => if I32 a3 then (if 24 ≤ a3 then (some (a2, M)) else (bd (m_X2_spread n M a2 a1) (fun r4 M3 => (m_X2_pieceWith_8 n t) M3 a1 r4 (a3 + 1)))) else none
theorem t_X2_pieceWith_8 (n : Nat) : ∀ (t : Nat) (M : Mem) (a1 : Int) (a2 : Int) (a3 : Int), Y RX2 cX2_pieceWith 4 1 0 none 8 [none, some (iv a1), some (iv a2), some (iv a3)] [] M (m_X2_pieceWith_8 n t M a1 a2 a3) := by
  intro t
  induction t with
  | zero => intro M a1 a2 a3; exact y_none
  | succ t ih =>
    intro M a1 a2 a3
    rewrite [m_X2_pieceWith_8]
    refine y_iload_n (pc := 8) dX2_pieceWith_8 rfl ?_
    refine y_bipush (pc := 9) dX2_pieceWith_9 (by decide) ?_
    refine y_gd (fun h1 => ?_)
    refine y_icmp_ge (off := 15) (tgt := 26) (pc := 11) dX2_pieceWith_11 (by decide) h1 (by decide) (fun h2 => ?_) (fun h2 => ?_)
    · refine y_iload_n (pc := 26) dX2_pieceWith_26 rfl ?_
      exact y_iret (pc := 27) dX2_pieceWith_27
    · refine y_iload_n (pc := 14) dX2_pieceWith_14 rfl ?_
      refine y_iload_n (pc := 15) dX2_pieceWith_15 rfl ?_
      refine y_callSi (pc := 16) s_X2_spread l_X2_13 dX2_pieceWith_16 (c_X2_spread n _ _ _) (fun _ h => nomatch h) rfl rfl (by decide) (by decide) (Nat.le_of_ble_eq_true rfl) (fun r4 M3 _ => ?_)
      refine y_istore_n (L' := [none, some (iv a1), some (iv r4), some (iv a3)]) (pc := 19) dX2_pieceWith_19 (by decide) rfl rfl ?_
      refine y_iinc (L' := [none, some (iv a1), some (iv r4), some (iv (a3 + 1))]) (pc := 20) dX2_pieceWith_20 rfl (by decide) rfl rfl ?_
      refine y_goto (tgt := 8) (pc := 23) dX2_pieceWith_23 (by decide) ?_
      exact y_sub (ls_n (ls_s (ls_s (ls_s ls_0)))) (ih M3 a1 r4 (a3 + 1))
def m_X2_pieceWith (n : Nat) (M : Mem) (a0 : Int) (a1 : Int) : Rs := m_X2_pieceWith_8 n n M a1 (bAnd a1 (bShl 1 a0)) 0
theorem y_X2_pieceWith (n : Nat) (M : Mem) (a0 : Int) (a1 : Int) : Y RX2 cX2_pieceWith 4 1 0 none 0 [some (iv a0), some (iv a1), none, none] [] M (m_X2_pieceWith n M a0 a1) := by
  unfold m_X2_pieceWith
  refine y_iload_n (pc := 0) dX2_pieceWith_0 rfl ?_
  refine y_iconst (pc := 1) dX2_pieceWith_1 ?_
  refine y_iload_n (pc := 2) dX2_pieceWith_2 rfl ?_
  refine y_ishl (pc := 3) dX2_pieceWith_3 ?_
  refine y_iand (pc := 4) dX2_pieceWith_4 ?_
  refine y_istore_n (L' := [some (iv a0), some (iv a1), some (iv (bAnd a1 (bShl 1 a0))), none]) (pc := 5) dX2_pieceWith_5 (by decide) rfl rfl ?_
  refine y_iconst (pc := 6) dX2_pieceWith_6 ?_
  refine y_istore_n (L' := [some (iv a0), some (iv a1), some (iv (bAnd a1 (bShl 1 a0))), some (iv 0)]) (pc := 7) dX2_pieceWith_7 (by decide) rfl rfl ?_
  exact y_sub (ls_n (ls_s (ls_s (ls_s ls_0)))) (t_X2_pieceWith_8 n n M a1 (bAnd a1 (bShl 1 a0)) 0)
theorem c_X2_pieceWith (n : Nat) (M : Mem) (a0 : Int) (a1 : Int) : ∀ res : Int × Mem, m_X2_pieceWith n M a0 a1 = some res → CTi none yX2_pieceWith cX2_pieceWith 4 (some .int) 1 [iv a0, iv a1] M res := CTi_of (by decide +kernel) rfl (Nat.le_of_ble_eq_true rfl) rfl (y_X2_pieceWith n M a0 a1)
def m_X2_howMany_6 (n : Nat) : Nat → Mem → Int → Int → Int → Int → Rs
  | 0, _, _, _, _, _ => none
  | t + 1, M, a0, a1, a2, a3 => if I32 a3 then (if 24 ≤ a3 then (some (a1, M)) else (if I32 (bAnd a2 (bShl 1 a3)) then (if (bAnd a2 (bShl 1 a3)) = 0 then ((m_X2_howMany_6 n t) M a0 a1 a2 (a3 + 1)) else (bd (m_X2_pieceWith n M a3 a0) (fun r6 M5 => lt (bAnd a2 (bXor r6 (-1))) (fun x7 => (m_X2_howMany_6 n t) M5 a0 (a1 + 1) x7 (a3 + 1))))) else none)) else none
theorem t_X2_howMany_6 (n : Nat) : ∀ (t : Nat) (M : Mem) (a0 : Int) (a1 : Int) (a2 : Int) (a3 : Int), Y RX2 cX2_howMany 4 2 0 none 6 [some (iv a0), some (iv a1), some (iv a2), some (iv a3)] [] M (m_X2_howMany_6 n t M a0 a1 a2 a3) := by
  intro t
  induction t with
  | zero => intro M a0 a1 a2 a3; exact y_none
  | succ t ih =>
    intro M a0 a1 a2 a3
    rewrite [m_X2_howMany_6]
    refine y_iload_n (pc := 6) dX2_howMany_6 rfl ?_
    refine y_bipush (pc := 7) dX2_howMany_7 (by decide) ?_
    refine y_gd (fun h1 => ?_)
    refine y_icmp_ge (off := 30) (tgt := 39) (pc := 9) dX2_howMany_9 (by decide) h1 (by decide) (fun h2 => ?_) (fun h2 => ?_)
    · refine y_iload_n (pc := 39) dX2_howMany_39 rfl ?_
      exact y_iret (pc := 40) dX2_howMany_40
    · refine y_iload_n (pc := 12) dX2_howMany_12 rfl ?_
      refine y_iconst (pc := 13) dX2_howMany_13 ?_
      refine y_iload_n (pc := 14) dX2_howMany_14 rfl ?_
      refine y_ishl (pc := 15) dX2_howMany_15 ?_
      refine y_iand (pc := 16) dX2_howMany_16 ?_
      refine y_gd (fun h3 => ?_)
      refine y_if_eq (off := 16) (tgt := 33) (pc := 17) dX2_howMany_17 (by decide) h3 (fun h4 => ?_) (fun h4 => ?_)
      · refine y_iinc (L' := [some (iv a0), some (iv a1), some (iv a2), some (iv (a3 + 1))]) (pc := 33) dX2_howMany_33 rfl (by decide) rfl rfl ?_
        refine y_goto (tgt := 6) (pc := 36) dX2_howMany_36 (by decide) ?_
        exact y_sub (ls_s (ls_s (ls_s (ls_s ls_0)))) (ih M a0 a1 a2 (a3 + 1))
      · refine y_iload_n (pc := 20) dX2_howMany_20 rfl ?_
        refine y_iload_n (pc := 21) dX2_howMany_21 rfl ?_
        refine y_iload_n (pc := 22) dX2_howMany_22 rfl ?_
        refine y_callSi (pc := 23) s_X2_pieceWith l_X2_17 dX2_howMany_23 (c_X2_pieceWith n _ _ _) (fun _ h => nomatch h) rfl rfl (by decide) (by decide) (Nat.le_of_ble_eq_true rfl) (fun r6 M5 _ => ?_)
        refine y_iconst (pc := 26) dX2_howMany_26 ?_
        refine y_ixor (pc := 27) dX2_howMany_27 ?_
        refine y_iand (pc := 28) dX2_howMany_28 ?_
        refine y_leti (fun x7 => ?_)
        refine y_istore_n (L' := [some (iv a0), some (iv a1), some (iv x7), some (iv a3)]) (pc := 29) dX2_howMany_29 (by decide) rfl rfl ?_
        refine y_iinc (L' := [some (iv a0), some (iv (a1 + 1)), some (iv x7), some (iv a3)]) (pc := 30) dX2_howMany_30 rfl (by decide) rfl rfl ?_
        refine y_iinc (L' := [some (iv a0), some (iv (a1 + 1)), some (iv x7), some (iv (a3 + 1))]) (pc := 33) dX2_howMany_33 rfl (by decide) rfl rfl ?_
        refine y_goto (tgt := 6) (pc := 36) dX2_howMany_36 (by decide) ?_
        exact y_sub (ls_s (ls_s (ls_s (ls_s ls_0)))) (ih M5 a0 (a1 + 1) x7 (a3 + 1))
def m_X2_howMany (n : Nat) (M : Mem) (a0 : Int) : Rs := m_X2_howMany_6 n n M a0 0 a0 0
theorem y_X2_howMany (n : Nat) (M : Mem) (a0 : Int) : Y RX2 cX2_howMany 4 2 0 none 0 [some (iv a0), none, none, none] [] M (m_X2_howMany n M a0) := by
  unfold m_X2_howMany
  refine y_iconst (pc := 0) dX2_howMany_0 ?_
  refine y_istore_n (L' := [some (iv a0), some (iv 0), none, none]) (pc := 1) dX2_howMany_1 (by decide) rfl rfl ?_
  refine y_iload_n (pc := 2) dX2_howMany_2 rfl ?_
  refine y_istore_n (L' := [some (iv a0), some (iv 0), some (iv a0), none]) (pc := 3) dX2_howMany_3 (by decide) rfl rfl ?_
  refine y_iconst (pc := 4) dX2_howMany_4 ?_
  refine y_istore_n (L' := [some (iv a0), some (iv 0), some (iv a0), some (iv 0)]) (pc := 5) dX2_howMany_5 (by decide) rfl rfl ?_
  exact y_sub (ls_s (ls_s (ls_s (ls_s ls_0)))) (t_X2_howMany_6 n n M a0 0 a0 0)
theorem c_X2_howMany (n : Nat) (M : Mem) (a0 : Int) : ∀ res : Int × Mem, m_X2_howMany n M a0 = some res → CTi none yX2_howMany cX2_howMany 4 (some .int) 2 [iv a0] M res := CTi_of (by decide +kernel) rfl (Nat.le_of_ble_eq_true rfl) rfl (y_X2_howMany n M a0)
def m_J6_bitCount_0f7a4 (n : Nat) (M : Mem) (a0 : Int) : Rs := lt (a0 - (bAnd (bUshr a0 1) 1431655765)) (fun x1 => lt ((bAnd x1 858993459) + (bAnd (bUshr x1 2) 858993459)) (fun x2 => lt (bAnd (x2 + (bUshr x2 4)) 252645135) (fun x3 => lt ((x3 + (bUshr x3 8)) + (bUshr (x3 + (bUshr x3 8)) 16)) (fun x4 => some ((bAnd x4 63), M)))))
theorem y_J6_bitCount_0f7a4 (n : Nat) (M : Mem) (a0 : Int) : Y RJ6 cJ6_bitCount_0f7a4 1 0 0 none 0 [some (iv a0)] [] M (m_J6_bitCount_0f7a4 n M a0) := by
  unfold m_J6_bitCount_0f7a4
  refine y_iload_n (pc := 0) dJ6_bitCount_0f7a4_0 rfl ?_
  refine y_iload_n (pc := 1) dJ6_bitCount_0f7a4_1 rfl ?_
  refine y_iconst (pc := 2) dJ6_bitCount_0f7a4_2 ?_
  refine y_iushr (pc := 3) dJ6_bitCount_0f7a4_3 ?_
  refine y_ldcw (pc := 4) (n := 1431655765) k_J6_265 (by decide) dJ6_bitCount_0f7a4_4 ?_
  refine y_iand (pc := 7) dJ6_bitCount_0f7a4_7 ?_
  refine y_isub (pc := 8) dJ6_bitCount_0f7a4_8 ?_
  refine y_leti (fun x1 => ?_)
  refine y_istore_n (L' := [some (iv x1)]) (pc := 9) dJ6_bitCount_0f7a4_9 (by decide) rfl rfl ?_
  refine y_iload_n (pc := 10) dJ6_bitCount_0f7a4_10 rfl ?_
  refine y_ldcw (pc := 11) (n := 858993459) k_J6_266 (by decide) dJ6_bitCount_0f7a4_11 ?_
  refine y_iand (pc := 14) dJ6_bitCount_0f7a4_14 ?_
  refine y_iload_n (pc := 15) dJ6_bitCount_0f7a4_15 rfl ?_
  refine y_iconst (pc := 16) dJ6_bitCount_0f7a4_16 ?_
  refine y_iushr (pc := 17) dJ6_bitCount_0f7a4_17 ?_
  refine y_ldcw (pc := 18) (n := 858993459) k_J6_266 (by decide) dJ6_bitCount_0f7a4_18 ?_
  refine y_iand (pc := 21) dJ6_bitCount_0f7a4_21 ?_
  refine y_iadd (pc := 22) dJ6_bitCount_0f7a4_22 ?_
  refine y_leti (fun x2 => ?_)
  refine y_istore_n (L' := [some (iv x2)]) (pc := 23) dJ6_bitCount_0f7a4_23 (by decide) rfl rfl ?_
  refine y_iload_n (pc := 24) dJ6_bitCount_0f7a4_24 rfl ?_
  refine y_iload_n (pc := 25) dJ6_bitCount_0f7a4_25 rfl ?_
  refine y_iconst (pc := 26) dJ6_bitCount_0f7a4_26 ?_
  refine y_iushr (pc := 27) dJ6_bitCount_0f7a4_27 ?_
  refine y_iadd (pc := 28) dJ6_bitCount_0f7a4_28 ?_
  refine y_ldcw (pc := 29) (n := 252645135) k_J6_267 (by decide) dJ6_bitCount_0f7a4_29 ?_
  refine y_iand (pc := 32) dJ6_bitCount_0f7a4_32 ?_
  refine y_leti (fun x3 => ?_)
  refine y_istore_n (L' := [some (iv x3)]) (pc := 33) dJ6_bitCount_0f7a4_33 (by decide) rfl rfl ?_
  refine y_iload_n (pc := 34) dJ6_bitCount_0f7a4_34 rfl ?_
  refine y_iload_n (pc := 35) dJ6_bitCount_0f7a4_35 rfl ?_
  refine y_bipush (pc := 36) dJ6_bitCount_0f7a4_36 (by decide) ?_
  refine y_iushr (pc := 38) dJ6_bitCount_0f7a4_38 ?_
  refine y_iadd (pc := 39) dJ6_bitCount_0f7a4_39 ?_
  refine y_istore_n (L' := [some (iv (x3 + (bUshr x3 8)))]) (pc := 40) dJ6_bitCount_0f7a4_40 (by decide) rfl rfl ?_
  refine y_iload_n (pc := 41) dJ6_bitCount_0f7a4_41 rfl ?_
  refine y_iload_n (pc := 42) dJ6_bitCount_0f7a4_42 rfl ?_
  refine y_bipush (pc := 43) dJ6_bitCount_0f7a4_43 (by decide) ?_
  refine y_iushr (pc := 45) dJ6_bitCount_0f7a4_45 ?_
  refine y_iadd (pc := 46) dJ6_bitCount_0f7a4_46 ?_
  refine y_leti (fun x4 => ?_)
  refine y_istore_n (L' := [some (iv x4)]) (pc := 47) dJ6_bitCount_0f7a4_47 (by decide) rfl rfl ?_
  refine y_iload_n (pc := 48) dJ6_bitCount_0f7a4_48 rfl ?_
  refine y_bipush (pc := 49) dJ6_bitCount_0f7a4_49 (by decide) ?_
  refine y_iand (pc := 51) dJ6_bitCount_0f7a4_51 ?_
  exact y_iret (pc := 52) dJ6_bitCount_0f7a4_52
theorem c_J6_bitCount_0f7a4 (n : Nat) (M : Mem) (a0 : Int) : ∀ res : Int × Mem, m_J6_bitCount_0f7a4 n M a0 = some res → CTi none yJ6_bitCount_0f7a4 cJ6_bitCount_0f7a4 1 (some .int) 0 [iv a0] M res := CTi_of (by decide +kernel) rfl (Nat.le_of_ble_eq_true rfl) rfl (y_J6_bitCount_0f7a4 n M a0)
def m_X2_greatest_4 (n : Nat) : Nat → Mem → Int → Int → Int → Rs
  | 0, _, _, _, _ => none
  | t + 1, M, a0, a1, a2 => if I32 a2 then (if 24 ≤ a2 then (some (a1, M)) else (bd (m_X2_pieceWith n M a2 a0) (fun r4 M3 => bd (m_J6_bitCount_0f7a4 n M3 r4) (fun r6 M5 => if I32 a1 then (if I32 r6 then ((m_X2_greatest_4 n t) M5 a0 (mxZ a1 r6) (a2 + 1)) else none) else none)))) else none
theorem t_X2_greatest_4 (n : Nat) : ∀ (t : Nat) (M : Mem) (a0 : Int) (a1 : Int) (a2 : Int), Y RX2 cX2_greatest 3 2 0 none 4 [some (iv a0), some (iv a1), some (iv a2)] [] M (m_X2_greatest_4 n t M a0 a1 a2) := by
  intro t
  induction t with
  | zero => intro M a0 a1 a2; exact y_none
  | succ t ih =>
    intro M a0 a1 a2
    rewrite [m_X2_greatest_4]
    refine y_iload_n (pc := 4) dX2_greatest_4 rfl ?_
    refine y_bipush (pc := 5) dX2_greatest_5 (by decide) ?_
    refine y_gd (fun h1 => ?_)
    refine y_icmp_ge (off := 22) (tgt := 29) (pc := 7) dX2_greatest_7 (by decide) h1 (by decide) (fun h2 => ?_) (fun h2 => ?_)
    · refine y_iload_n (pc := 29) dX2_greatest_29 rfl ?_
      exact y_iret (pc := 30) dX2_greatest_30
    · refine y_iload_n (pc := 10) dX2_greatest_10 rfl ?_
      refine y_iload_n (pc := 11) dX2_greatest_11 rfl ?_
      refine y_iload_n (pc := 12) dX2_greatest_12 rfl ?_
      refine y_callSi (pc := 13) s_X2_pieceWith l_X2_17 dX2_greatest_13 (c_X2_pieceWith n _ _ _) (fun _ h => nomatch h) rfl rfl (by decide) (by decide) (Nat.le_of_ble_eq_true rfl) (fun r4 M3 _ => ?_)
      refine y_callSi (pc := 16) s_J6_bitCount_0f7a4 l_X2_20 dX2_greatest_16 (c_J6_bitCount_0f7a4 n _ _) (fun _ h => nomatch h) rfl rfl (by decide) (by decide) (Nat.le_of_ble_eq_true rfl) (fun r6 M5 _ => ?_)
      refine y_gd (fun h7 => ?_)
      refine y_gd (fun h8 => ?_)
      refine y_mmaxw (pc := 19) h7 h8 l_X2_26 dX2_greatest_19 (Nat.le_of_ble_eq_true rfl) (by decide) ?_
      refine y_istore_n (L' := [some (iv a0), some (iv (mxZ a1 r6)), some (iv a2)]) (pc := 22) dX2_greatest_22 (by decide) rfl rfl ?_
      refine y_iinc (L' := [some (iv a0), some (iv (mxZ a1 r6)), some (iv (a2 + 1))]) (pc := 23) dX2_greatest_23 rfl (by decide) rfl rfl ?_
      refine y_goto (tgt := 4) (pc := 26) dX2_greatest_26 (by decide) ?_
      exact y_sub (ls_s (ls_s (ls_s ls_0))) (ih M5 a0 (mxZ a1 r6) (a2 + 1))
def m_X2_greatest (n : Nat) (M : Mem) (a0 : Int) : Rs := m_X2_greatest_4 n n M a0 0 0
theorem y_X2_greatest (n : Nat) (M : Mem) (a0 : Int) : Y RX2 cX2_greatest 3 2 0 none 0 [some (iv a0), none, none] [] M (m_X2_greatest n M a0) := by
  unfold m_X2_greatest
  refine y_iconst (pc := 0) dX2_greatest_0 ?_
  refine y_istore_n (L' := [some (iv a0), some (iv 0), none]) (pc := 1) dX2_greatest_1 (by decide) rfl rfl ?_
  refine y_iconst (pc := 2) dX2_greatest_2 ?_
  refine y_istore_n (L' := [some (iv a0), some (iv 0), some (iv 0)]) (pc := 3) dX2_greatest_3 (by decide) rfl rfl ?_
  exact y_sub (ls_s (ls_s (ls_s ls_0))) (t_X2_greatest_4 n n M a0 0 0)
theorem c_X2_greatest (n : Nat) (M : Mem) (a0 : Int) : ∀ res : Int × Mem, m_X2_greatest n M a0 = some res → CTi none yX2_greatest cX2_greatest 3 (some .int) 2 [iv a0] M res := CTi_of (by decide +kernel) rfl (Nat.le_of_ble_eq_true rfl) rfl (y_X2_greatest n M a0)
def m_X2_steps_9 (n : Nat) : Nat → Mem → Int → Int → Int → Int → Rs
  | 0, _, _, _, _, _ => none
  | t + 1, M, a1, a2, a3, a4 => if I32 a4 then (if 24 ≤ a4 then (some ((-9), M)) else (if I32 (bAnd a3 (bShl 1 a1)) then (if (bAnd a3 (bShl 1 a1)) = 0 then (bd (m_X2_spread n M a3 a2) (fun r6 M5 => (m_X2_steps_9 n t) M5 a1 a2 r6 (a4 + 1))) else (some (a4, M))) else none)) else none
theorem t_X2_steps_9 (n : Nat) : ∀ (t : Nat) (M : Mem) (a1 : Int) (a2 : Int) (a3 : Int) (a4 : Int), Y RX2 cX2_steps 5 1 0 none 9 [none, some (iv a1), some (iv a2), some (iv a3), some (iv a4)] [] M (m_X2_steps_9 n t M a1 a2 a3 a4) := by
  intro t
  induction t with
  | zero => intro M a1 a2 a3 a4; exact y_none
  | succ t ih =>
    intro M a1 a2 a3 a4
    rewrite [m_X2_steps_9]
    refine y_iload (pc := 9) dX2_steps_9 rfl ?_
    refine y_bipush (pc := 11) dX2_steps_11 (by decide) ?_
    refine y_gd (fun h1 => ?_)
    refine y_icmp_ge (off := 26) (tgt := 39) (pc := 13) dX2_steps_13 (by decide) h1 (by decide) (fun h2 => ?_) (fun h2 => ?_)
    · refine y_bipush (pc := 39) dX2_steps_39 (by decide) ?_
      exact y_iret (pc := 41) dX2_steps_41
    · refine y_iload_n (pc := 16) dX2_steps_16 rfl ?_
      refine y_iconst (pc := 17) dX2_steps_17 ?_
      refine y_iload_n (pc := 18) dX2_steps_18 rfl ?_
      refine y_ishl (pc := 19) dX2_steps_19 ?_
      refine y_iand (pc := 20) dX2_steps_20 ?_
      refine y_gd (fun h3 => ?_)
      refine y_if_eq (off := 6) (tgt := 27) (pc := 21) dX2_steps_21 (by decide) h3 (fun h4 => ?_) (fun h4 => ?_)
      · refine y_iload_n (pc := 27) dX2_steps_27 rfl ?_
        refine y_iload_n (pc := 28) dX2_steps_28 rfl ?_
        refine y_callSi (pc := 29) s_X2_spread l_X2_13 dX2_steps_29 (c_X2_spread n _ _ _) (fun _ h => nomatch h) rfl rfl (by decide) (by decide) (Nat.le_of_ble_eq_true rfl) (fun r6 M5 _ => ?_)
        refine y_istore_n (L' := [none, some (iv a1), some (iv a2), some (iv r6), some (iv a4)]) (pc := 32) dX2_steps_32 (by decide) rfl rfl ?_
        refine y_iinc (L' := [none, some (iv a1), some (iv a2), some (iv r6), some (iv (a4 + 1))]) (pc := 33) dX2_steps_33 rfl (by decide) rfl rfl ?_
        refine y_goto (tgt := 9) (pc := 36) dX2_steps_36 (by decide) ?_
        exact y_sub (ls_n (ls_s (ls_s (ls_s (ls_s ls_0))))) (ih M5 a1 a2 r6 (a4 + 1))
      · refine y_iload (pc := 24) dX2_steps_24 rfl ?_
        exact y_iret (pc := 26) dX2_steps_26
def m_X2_steps (n : Nat) (M : Mem) (a0 : Int) (a1 : Int) (a2 : Int) : Rs := m_X2_steps_9 n n M a1 a2 (bAnd a2 (bShl 1 a0)) 0
theorem y_X2_steps (n : Nat) (M : Mem) (a0 : Int) (a1 : Int) (a2 : Int) : Y RX2 cX2_steps 5 1 0 none 0 [some (iv a0), some (iv a1), some (iv a2), none, none] [] M (m_X2_steps n M a0 a1 a2) := by
  unfold m_X2_steps
  refine y_iload_n (pc := 0) dX2_steps_0 rfl ?_
  refine y_iconst (pc := 1) dX2_steps_1 ?_
  refine y_iload_n (pc := 2) dX2_steps_2 rfl ?_
  refine y_ishl (pc := 3) dX2_steps_3 ?_
  refine y_iand (pc := 4) dX2_steps_4 ?_
  refine y_istore_n (L' := [some (iv a0), some (iv a1), some (iv a2), some (iv (bAnd a2 (bShl 1 a0))), none]) (pc := 5) dX2_steps_5 (by decide) rfl rfl ?_
  refine y_iconst (pc := 6) dX2_steps_6 ?_
  refine y_istore (L' := [some (iv a0), some (iv a1), some (iv a2), some (iv (bAnd a2 (bShl 1 a0))), some (iv 0)]) (pc := 7) dX2_steps_7 (by decide) rfl rfl ?_
  exact y_sub (ls_n (ls_s (ls_s (ls_s (ls_s ls_0))))) (t_X2_steps_9 n n M a1 a2 (bAnd a2 (bShl 1 a0)) 0)
theorem c_X2_steps (n : Nat) (M : Mem) (a0 : Int) (a1 : Int) (a2 : Int) : ∀ res : Int × Mem, m_X2_steps n M a0 a1 a2 = some res → CTi none yX2_steps cX2_steps 5 (some .int) 1 [iv a0, iv a1, iv a2] M res := CTi_of (by decide +kernel) rfl (Nat.le_of_ble_eq_true rfl) rfl (y_X2_steps n M a0 a1 a2)
def m_X4_hasThing (n : Nat) (M : Mem) (a0 : Nat) (a1 : Int) : Rs := if isW a0 then (if I32 a1 then (if a1 < 0 then (some (0, M)) else (if (rd M a0 7) ≤ a1 then (some (0, M)) else (some (1, M)))) else none) else none
theorem y_X4_hasThing (n : Nat) (M : Mem) (a0 : Nat) (a1 : Int) : Y RX4 cX4_hasThing 2 0 1 none 0 [some (rv a0), some (iv a1)] [] M (m_X4_hasThing n M a0 a1) := by
  unfold m_X4_hasThing
  refine y_gd (fun ha0 => ?_)
  refine y_iload_n (pc := 0) dX4_hasThing_0 rfl ?_
  refine y_gd (fun h1 => ?_)
  refine y_if_lt (off := 15) (tgt := 16) (pc := 1) dX4_hasThing_1 (by decide) h1 (fun h2 => ?_) (fun h2 => ?_)
  · refine y_iconst (pc := 16) dX4_hasThing_16 ?_
    exact y_zret (pc := 17) dX4_hasThing_17 (by decide)
  · refine y_iload_n (pc := 4) dX4_hasThing_4 rfl ?_
    refine y_aload_n (pc := 5) dX4_hasThing_5 rfl ?_
    refine y_getint (pc := 6) (g_X4_34 ha0) dX4_hasThing_6 ?_
    refine y_icmp_ge (off := 7) (tgt := 16) (pc := 9) dX4_hasThing_9 (by decide) h1 (rd_rng _ _ _) (fun h3 => ?_) (fun h3 => ?_)
    · refine y_iconst (pc := 16) dX4_hasThing_16 ?_
      exact y_zret (pc := 17) dX4_hasThing_17 (by decide)
    · refine y_iconst (pc := 12) dX4_hasThing_12 ?_
      refine y_goto (tgt := 17) (pc := 13) dX4_hasThing_13 (by decide) ?_
      exact y_zret (pc := 17) dX4_hasThing_17 (by decide)
theorem c_X4_hasThing (n : Nat) (M : Mem) (a0 : Nat) (a1 : Int) : ∀ res : Int × Mem, m_X4_hasThing n M a0 a1 = some res → CTi none yX4_hasThing cX4_hasThing 2 (some .boolean) 0 [rv a0, iv a1] M res := CTz_of (by decide +kernel) rfl (Nat.le_of_ble_eq_true rfl) rfl (y_X4_hasThing n M a0 a1)
def m_X4_hasPerson (n : Nat) (M : Mem) (a0 : Nat) (a1 : Int) : Rs := if isW a0 then (if I32 a1 then (if a1 < 0 then (some (0, M)) else (if (rd M a0 12) ≤ a1 then (some (0, M)) else (some (1, M)))) else none) else none
theorem y_X4_hasPerson (n : Nat) (M : Mem) (a0 : Nat) (a1 : Int) : Y RX4 cX4_hasPerson 2 0 1 none 0 [some (rv a0), some (iv a1)] [] M (m_X4_hasPerson n M a0 a1) := by
  unfold m_X4_hasPerson
  refine y_gd (fun ha0 => ?_)
  refine y_iload_n (pc := 0) dX4_hasPerson_0 rfl ?_
  refine y_gd (fun h1 => ?_)
  refine y_if_lt (off := 15) (tgt := 16) (pc := 1) dX4_hasPerson_1 (by decide) h1 (fun h2 => ?_) (fun h2 => ?_)
  · refine y_iconst (pc := 16) dX4_hasPerson_16 ?_
    exact y_zret (pc := 17) dX4_hasPerson_17 (by decide)
  · refine y_iload_n (pc := 4) dX4_hasPerson_4 rfl ?_
    refine y_aload_n (pc := 5) dX4_hasPerson_5 rfl ?_
    refine y_getint (pc := 6) (g_X4_49 ha0) dX4_hasPerson_6 ?_
    refine y_icmp_ge (off := 7) (tgt := 16) (pc := 9) dX4_hasPerson_9 (by decide) h1 (rd_rng _ _ _) (fun h3 => ?_) (fun h3 => ?_)
    · refine y_iconst (pc := 16) dX4_hasPerson_16 ?_
      exact y_zret (pc := 17) dX4_hasPerson_17 (by decide)
    · refine y_iconst (pc := 12) dX4_hasPerson_12 ?_
      refine y_goto (tgt := 17) (pc := 13) dX4_hasPerson_13 (by decide) ?_
      exact y_zret (pc := 17) dX4_hasPerson_17 (by decide)
theorem c_X4_hasPerson (n : Nat) (M : Mem) (a0 : Nat) (a1 : Int) : ∀ res : Int × Mem, m_X4_hasPerson n M a0 a1 = some res → CTi none yX4_hasPerson cX4_hasPerson 2 (some .boolean) 0 [rv a0, iv a1] M res := CTz_of (by decide +kernel) rfl (Nat.le_of_ble_eq_true rfl) rfl (y_X4_hasPerson n M a0 a1)
def m_X4_addFront (n : Nat) (M : Mem) (a0 : Nat) (a1 : Int) (a2 : Int) (a3 : Int) : Rs := if isW a0 then (if I32 a2 then (if 9 < a2 then (some (0, M)) else (if I32 a3 then (if 9 < a3 then (some (0, M)) else (if (rd M a0 3) < 6 then (if 0 ≤ (rd M a0 3) ∧ (rd M a0 3) < 6 then (wr M (a0 + 1) (Int.toNat (rd M a0 3)) a1 (fun M7 => if 0 ≤ (rd M7 a0 3) ∧ (rd M7 a0 3) < 6 then (wr M7 (a0 + 2) (Int.toNat (rd M7 a0 3)) a2 (fun M9 => if 0 ≤ (rd M9 a0 3) ∧ (rd M9 a0 3) < 6 then (wr M9 (a0 + 3) (Int.toNat (rd M9 a0 3)) a3 (fun M11 => wr M11 a0 3 ((rd M11 a0 3) + 1) (fun M12 => some (1, M12)))) else none)) else none)) else none) else (some (0, M)))) else none)) else none) else none
theorem y_X4_addFront (n : Nat) (M : Mem) (a0 : Nat) (a1 : Int) (a2 : Int) (a3 : Int) : Y RX4 cX4_addFront 4 0 1 none 0 [some (rv a0), some (iv a1), some (iv a2), some (iv a3)] [] M (m_X4_addFront n M a0 a1 a2 a3) := by
  unfold m_X4_addFront
  refine y_gd (fun ha0 => ?_)
  refine y_iload_n (pc := 0) dX4_addFront_0 rfl ?_
  refine y_bipush (pc := 1) dX4_addFront_1 (by decide) ?_
  refine y_gd (fun h1 => ?_)
  refine y_icmp_gt (off := 18) (tgt := 21) (pc := 3) dX4_addFront_3 (by decide) h1 (by decide) (fun h2 => ?_) (fun h2 => ?_)
  · refine y_iconst (pc := 21) dX4_addFront_21 ?_
    exact y_zret (pc := 22) dX4_addFront_22 (by decide)
  · refine y_iload_n (pc := 6) dX4_addFront_6 rfl ?_
    refine y_bipush (pc := 7) dX4_addFront_7 (by decide) ?_
    refine y_gd (fun h3 => ?_)
    refine y_icmp_gt (off := 12) (tgt := 21) (pc := 9) dX4_addFront_9 (by decide) h3 (by decide) (fun h4 => ?_) (fun h4 => ?_)
    · refine y_iconst (pc := 21) dX4_addFront_21 ?_
      exact y_zret (pc := 22) dX4_addFront_22 (by decide)
    · refine y_aload_n (pc := 12) dX4_addFront_12 rfl ?_
      refine y_getint (pc := 13) (g_X4_21 ha0) dX4_addFront_13 ?_
      refine y_bipush (pc := 16) dX4_addFront_16 (by decide) ?_
      refine y_icmp_lt (off := 5) (tgt := 23) (pc := 18) dX4_addFront_18 (by decide) (rd_rng _ _ _) (by decide) (fun h5 => ?_) (fun h5 => ?_)
      · refine y_aload_n (pc := 23) dX4_addFront_23 rfl ?_
        refine y_getref (pc := 24) (x := (a0 + 1)) (g_X4_9 ha0) dX4_addFront_24 ?_
        refine y_aload_n (pc := 27) dX4_addFront_27 rfl ?_
        refine y_getint (pc := 28) (g_X4_21 ha0) dX4_addFront_28 ?_
        refine y_iload_n (pc := 31) dX4_addFront_31 rfl ?_
        refine y_gd (fun h6 => ?_)
        refine y_iastw (pc := 32) dX4_addFront_32 (ar_w1 ha0) h6 (fun M7 => ?_)
        refine y_aload_n (pc := 33) dX4_addFront_33 rfl ?_
        refine y_getref (pc := 34) (x := (a0 + 2)) (g_X4_15 ha0) dX4_addFront_34 ?_
        refine y_aload_n (pc := 37) dX4_addFront_37 rfl ?_
        refine y_getint (pc := 38) (g_X4_21 ha0) dX4_addFront_38 ?_
        refine y_iload_n (pc := 41) dX4_addFront_41 rfl ?_
        refine y_gd (fun h8 => ?_)
        refine y_iastw (pc := 42) dX4_addFront_42 (ar_w2 ha0) h8 (fun M9 => ?_)
        refine y_aload_n (pc := 43) dX4_addFront_43 rfl ?_
        refine y_getref (pc := 44) (x := (a0 + 3)) (g_X4_18 ha0) dX4_addFront_44 ?_
        refine y_aload_n (pc := 47) dX4_addFront_47 rfl ?_
        refine y_getint (pc := 48) (g_X4_21 ha0) dX4_addFront_48 ?_
        refine y_iload_n (pc := 51) dX4_addFront_51 rfl ?_
        refine y_gd (fun h10 => ?_)
        refine y_iastw (pc := 52) dX4_addFront_52 (ar_w3 ha0) h10 (fun M11 => ?_)
        refine y_aload_n (pc := 53) dX4_addFront_53 rfl ?_
        refine y_dup (pc := 54) dX4_addFront_54 rfl ?_
        refine y_getint (pc := 55) (g_X4_21 ha0) dX4_addFront_55 ?_
        refine y_iconst (pc := 58) dX4_addFront_58 ?_
        refine y_iadd (pc := 59) dX4_addFront_59 ?_
        refine y_putintw (pc := 60) (pf_X4_21 ha0) dX4_addFront_60 (fun M12 => ?_)
        refine y_iconst (pc := 63) dX4_addFront_63 ?_
        exact y_zret (pc := 64) dX4_addFront_64 (by decide)
      · refine y_iconst (pc := 21) dX4_addFront_21 ?_
        exact y_zret (pc := 22) dX4_addFront_22 (by decide)
theorem c_X4_addFront (n : Nat) (M : Mem) (a0 : Nat) (a1 : Int) (a2 : Int) (a3 : Int) : ∀ res : Int × Mem, m_X4_addFront n M a0 a1 a2 a3 = some res → CTi none yX4_addFront cX4_addFront 4 (some .boolean) 0 [rv a0, iv a1, iv a2, iv a3] M res := CTz_of (by decide +kernel) rfl (Nat.le_of_ble_eq_true rfl) rfl (y_X4_addFront n M a0 a1 a2 a3)
