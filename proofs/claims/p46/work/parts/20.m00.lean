def m_X3_airOfFront_198 (n : Nat) (M : Mem) (a2 : Int) (a7 : Int) : Rs := if I32 a7 then (if I32 a2 then (if a7 ≤ a2 then (some (a2, M)) else (some (a7, M))) else none) else none
theorem t_X3_airOfFront_198 (n : Nat) (M : Mem) (a2 : Int) (a7 : Int) : Y RX3 cX3_airOfFront 11 0 0 none 198 [none, none, some (iv a2), none, none, none, none, some (iv a7), none, none, none] [] M (m_X3_airOfFront_198 n M a2 a7) := by
  unfold m_X3_airOfFront_198
  refine y_iload (pc := 198) dX3_airOfFront_198 rfl ?_
  refine y_iload_n (pc := 200) dX3_airOfFront_200 rfl ?_
  refine y_gd (fun h1 => ?_)
  refine y_gd (fun h2 => ?_)
  refine y_icmp_le (off := 8) (tgt := 209) (pc := 201) dX3_airOfFront_201 (by decide) h1 h2 (fun h3 => ?_) (fun h3 => ?_)
  · refine y_iload_n (pc := 209) dX3_airOfFront_209 rfl ?_
    exact y_iret (pc := 210) dX3_airOfFront_210
  · refine y_iload (pc := 204) dX3_airOfFront_204 rfl ?_
    refine y_goto (tgt := 210) (pc := 206) dX3_airOfFront_206 (by decide) ?_
    exact y_iret (pc := 210) dX3_airOfFront_210
def m_X3_airOfFront_177 (n : Nat) (M : Mem) (a2 : Int) (s0 : Int) (s1 : Int) : Rs := m_X3_airOfFront_198 n M a2 (s1 - s0)
theorem t_X3_airOfFront_177 (n : Nat) (M : Mem) (a2 : Int) (s0 : Int) (s1 : Int) : Y RX3 cX3_airOfFront 11 0 0 none 177 [none, none, some (iv a2), none, none, none, none, none, none, none, none] [iv s0, iv s1] M (m_X3_airOfFront_177 n M a2 s0 s1) := by
  unfold m_X3_airOfFront_177
  refine y_isub (pc := 177) dX3_airOfFront_177 ?_
  refine y_istore (L' := [none, none, some (iv a2), none, none, none, none, some (iv (s1 - s0)), none, none, none]) (pc := 178) dX3_airOfFront_178 (by decide) rfl rfl ?_
  refine y_goto (tgt := 198) (pc := 180) dX3_airOfFront_180 (by decide) ?_
  exact y_sub (ls_n (ls_n (ls_s (ls_n (ls_n (ls_n (ls_n (ls_s (ls_n (ls_n (ls_n ls_0))))))))))) (t_X3_airOfFront_198 n M a2 (s1 - s0))
def m_X3_airOfFront_147 (n : Nat) (M : Mem) (a2 : Int) (s0 : Int) : Rs := m_X3_airOfFront_198 n M a2 s0
theorem t_X3_airOfFront_147 (n : Nat) (M : Mem) (a2 : Int) (s0 : Int) : Y RX3 cX3_airOfFront 11 0 0 none 147 [none, none, some (iv a2), none, none, none, none, none, none, none, none] [iv s0] M (m_X3_airOfFront_147 n M a2 s0) := by
  unfold m_X3_airOfFront_147
  refine y_istore (L' := [none, none, some (iv a2), none, none, none, none, some (iv s0), none, none, none]) (pc := 147) dX3_airOfFront_147 (by decide) rfl rfl ?_
  refine y_goto (tgt := 198) (pc := 149) dX3_airOfFront_149 (by decide) ?_
  exact y_sub (ls_n (ls_n (ls_s (ls_n (ls_n (ls_n (ls_n (ls_s (ls_n (ls_n (ls_n ls_0))))))))))) (t_X3_airOfFront_198 n M a2 s0)
def m_X3_airOfFront_146 (n : Nat) (M : Mem) (a2 : Int) : Rs := m_X3_airOfFront_147 n M a2 0
theorem t_X3_airOfFront_146 (n : Nat) (M : Mem) (a2 : Int) : Y RX3 cX3_airOfFront 11 0 0 none 146 [none, none, some (iv a2), none, none, none, none, none, none, none, none] [] M (m_X3_airOfFront_146 n M a2) := by
  unfold m_X3_airOfFront_146
  refine y_iconst (pc := 146) dX3_airOfFront_146 ?_
  exact y_sub (ls_n (ls_n (ls_s (ls_n (ls_n (ls_n (ls_n (ls_n (ls_n (ls_n (ls_n ls_0))))))))))) (t_X3_airOfFront_147 n M a2 0)
def m_X3_airOfFront_113 (n : Nat) (M : Mem) (a2 : Int) (s0 : Int) : Rs := m_X3_airOfFront_198 n M a2 s0
theorem t_X3_airOfFront_113 (n : Nat) (M : Mem) (a2 : Int) (s0 : Int) : Y RX3 cX3_airOfFront 11 0 0 none 113 [none, none, some (iv a2), none, none, none, none, none, none, none, none] [iv s0] M (m_X3_airOfFront_113 n M a2 s0) := by
  unfold m_X3_airOfFront_113
  refine y_istore (L' := [none, none, some (iv a2), none, none, none, none, some (iv s0), none, none, none]) (pc := 113) dX3_airOfFront_113 (by decide) rfl rfl ?_
  refine y_goto (tgt := 198) (pc := 115) dX3_airOfFront_115 (by decide) ?_
  exact y_sub (ls_n (ls_n (ls_s (ls_n (ls_n (ls_n (ls_n (ls_s (ls_n (ls_n (ls_n ls_0))))))))))) (t_X3_airOfFront_198 n M a2 s0)
def m_X3_airOfFront_87 (n : Nat) (M : Mem) (a2 : Int) (s0 : Int) : Rs := m_X3_airOfFront_198 n M a2 s0
theorem t_X3_airOfFront_87 (n : Nat) (M : Mem) (a2 : Int) (s0 : Int) : Y RX3 cX3_airOfFront 11 0 0 none 87 [none, none, some (iv a2), none, none, none, none, none, none, none, none] [iv s0] M (m_X3_airOfFront_87 n M a2 s0) := by
  unfold m_X3_airOfFront_87
  refine y_istore (L' := [none, none, some (iv a2), none, none, none, none, some (iv s0), none, none, none]) (pc := 87) dX3_airOfFront_87 (by decide) rfl rfl ?_
  refine y_goto (tgt := 198) (pc := 89) dX3_airOfFront_89 (by decide) ?_
  exact y_sub (ls_n (ls_n (ls_s (ls_n (ls_n (ls_n (ls_n (ls_s (ls_n (ls_n (ls_n ls_0))))))))))) (t_X3_airOfFront_198 n M a2 s0)
def m_X3_airOfFront_86 (n : Nat) (M : Mem) (a2 : Int) : Rs := m_X3_airOfFront_87 n M a2 0
theorem t_X3_airOfFront_86 (n : Nat) (M : Mem) (a2 : Int) : Y RX3 cX3_airOfFront 11 0 0 none 86 [none, none, some (iv a2), none, none, none, none, none, none, none, none] [] M (m_X3_airOfFront_86 n M a2) := by
  unfold m_X3_airOfFront_86
  refine y_iconst (pc := 86) dX3_airOfFront_86 ?_
  exact y_sub (ls_n (ls_n (ls_s (ls_n (ls_n (ls_n (ls_n (ls_n (ls_n (ls_n (ls_n ls_0))))))))))) (t_X3_airOfFront_87 n M a2 0)
def m_X3_airOfFront (n : Nat) (M : Mem) (a1 : Int) (a2 : Int) (a3 : Int) (a4 : Int) : Rs := if 0 ≤ a1 ∧ a1 < 6 then (lt (rd M 123 (Int.toNat a1)) (fun x5 => if I32 a3 then (if (rd M 122 (Int.toNat a1)) = 0 then (lt ((rd M 124 (Int.toNat a1)) + 2) (fun x8 => if I32 x8 then (if x8 ≤ 0 then (m_X3_airOfFront_86 n M a2) else (if I32 a4 then (if x8 ≠ 0 then (if I32 (Int.tmod a3 6) then (if I32 (Int.tmod a4 x8) then (if (Int.tmod a4 x8) < (Int.tmod a3 6) then (m_X3_airOfFront_86 n M a2) else (m_X3_airOfFront_87 n M a2 x5)) else none) else none) else none) else none)) else none)) else (if (rd M 122 (Int.toNat a1)) = 1 then (if I32 (Int.tdiv a3 6) then (if I32 (Int.tmod (rd M 124 (Int.toNat a1)) 4) then (if (Int.tdiv a3 6) = (Int.tmod (rd M 124 (Int.toNat a1)) 4) then (m_X3_airOfFront_113 n M a2 x5) else (m_X3_airOfFront_113 n M a2 0)) else none) else none) else (if (rd M 122 (Int.toNat a1)) = 2 then (lt ((rd M 124 (Int.toNat a1)) + 1) (fun x21 => if I32 x21 then (if x21 ≤ 0 then (m_X3_airOfFront_146 n M a2) else (if I32 a4 then (if x21 ≠ 0 then (if I32 (Int.tmod a4 x21) then (if (Int.tmod a4 x21) = 0 then (m_X3_airOfFront_147 n M a2 x5) else (m_X3_airOfFront_146 n M a2)) else none) else none) else none)) else none)) else (if (rd M 122 (Int.toNat a1)) = 3 then (if I32 a4 then (lt ((Int.tmod a3 6) - (Int.tmod a4 6)) (fun x30 => if I32 x30 then (if 0 ≤ x30 then (m_X3_airOfFront_177 n M a2 x30 x5) else (m_X3_airOfFront_177 n M a2 (-x30) x5)) else none)) else none) else (if (rd M 122 (Int.toNat a1)) = 4 then (if I32 a2 then (if I32 x5 then (if a2 ≤ x5 then (some (0, M)) else (some ((a2 - x5), M))) else none) else none) else (m_X3_airOfFront_198 n M a2 0)))))) else none)) else none
theorem y_X3_airOfFront (n : Nat) (M : Mem) (a1 : Int) (a2 : Int) (a3 : Int) (a4 : Int) : Y RX3 cX3_airOfFront 11 0 0 none 0 [some (rv 121), some (iv a1), some (iv a2), some (iv a3), some (iv a4), none, none, none, none, none, none] [] M (m_X3_airOfFront n M a1 a2 a3 a4) := by
  unfold m_X3_airOfFront
  refine y_aload_n (pc := 0) dX3_airOfFront_0 rfl ?_
  refine y_getref (pc := 1) (x := 123) g_X3_15 dX3_airOfFront_1 ?_
  refine y_iload_n (pc := 4) dX3_airOfFront_4 rfl ?_
  refine y_gd (fun h4 => ?_)
  refine y_iald (pc := 5) dX3_airOfFront_5 ar_123 h4 ?_
  refine y_leti (fun x5 => ?_)
  refine y_istore (L' := [some (rv 121), some (iv a1), some (iv a2), some (iv a3), some (iv a4), some (iv x5), none, none, none, none, none]) (pc := 6) dX3_airOfFront_6 (by decide) rfl rfl ?_
  refine y_iload_n (pc := 8) dX3_airOfFront_8 rfl ?_
  refine y_bipush (pc := 9) dX3_airOfFront_9 (by decide) ?_
  refine y_gd (fun h6 => ?_)
  refine y_irem (pc := 11) dX3_airOfFront_11 h6 (by decide) (by decide) ?_
  refine y_istore (L' := [some (rv 121), some (iv a1), some (iv a2), some (iv a3), some (iv a4), some (iv x5), some (iv (Int.tmod a3 6)), none, none, none, none]) (pc := 12) dX3_airOfFront_12 (by decide) rfl rfl ?_
  refine y_iconst (pc := 14) dX3_airOfFront_14 ?_
  refine y_istore (L' := [some (rv 121), some (iv a1), some (iv a2), some (iv a3), some (iv a4), some (iv x5), some (iv (Int.tmod a3 6)), some (iv 0), none, none, none]) (pc := 15) dX3_airOfFront_15 (by decide) rfl rfl ?_
  refine y_aload_n (pc := 17) dX3_airOfFront_17 rfl ?_
  refine y_getref (pc := 18) (x := 122) g_X3_9 dX3_airOfFront_18 ?_
  refine y_iload_n (pc := 21) dX3_airOfFront_21 rfl ?_
  refine y_iald (pc := 22) dX3_airOfFront_22 ar_122 h4 ?_
  refine y_br (fun h7 => ?_) (fun h7 => ?_)
  · refine y_tableIn (off := 33) (tgt := 56) (pc := 23) dX3_airOfFront_23 h7 (by decide) (by decide) (by decide) rfl (by decide) ?_
    refine y_aload_n (pc := 56) dX3_airOfFront_56 rfl ?_
    refine y_getref (pc := 57) (x := 124) g_X3_18 dX3_airOfFront_57 ?_
    refine y_iload_n (pc := 60) dX3_airOfFront_60 rfl ?_
    refine y_iald (pc := 61) dX3_airOfFront_61 ar_124 h4 ?_
    refine y_iconst (pc := 62) dX3_airOfFront_62 ?_
    refine y_iadd (pc := 63) dX3_airOfFront_63 ?_
    refine y_leti (fun x8 => ?_)
    refine y_istore (L' := [some (rv 121), some (iv a1), some (iv a2), some (iv a3), some (iv a4), some (iv x5), some (iv (Int.tmod a3 6)), some (iv 0), some (iv x8), none, none]) (pc := 64) dX3_airOfFront_64 (by decide) rfl rfl ?_
    refine y_iload (pc := 66) dX3_airOfFront_66 rfl ?_
    refine y_gd (fun h9 => ?_)
    refine y_if_le (off := 18) (tgt := 86) (pc := 68) dX3_airOfFront_68 (by decide) h9 (fun h10 => ?_) (fun h10 => ?_)
    · exact y_sub (ls_n (ls_n (ls_s (ls_n (ls_n (ls_n (ls_n (ls_n (ls_n (ls_n (ls_n ls_0))))))))))) (t_X3_airOfFront_86 n M a2)
    · refine y_iload (pc := 71) dX3_airOfFront_71 rfl ?_
      refine y_iload (pc := 73) dX3_airOfFront_73 rfl ?_
      refine y_iload (pc := 75) dX3_airOfFront_75 rfl ?_
      refine y_gd (fun h11 => ?_)
      refine y_gd (fun h12 => ?_)
      refine y_irem (pc := 77) dX3_airOfFront_77 h11 h9 h12 ?_
      refine y_gd (fun h13 => ?_)
      refine y_gd (fun h14 => ?_)
      refine y_icmp_gt (off := 8) (tgt := 86) (pc := 78) dX3_airOfFront_78 (by decide) h13 h14 (fun h15 => ?_) (fun h15 => ?_)
      · exact y_sub (ls_n (ls_n (ls_s (ls_n (ls_n (ls_n (ls_n (ls_n (ls_n (ls_n (ls_n ls_0))))))))))) (t_X3_airOfFront_86 n M a2)
      · refine y_iload (pc := 81) dX3_airOfFront_81 rfl ?_
        refine y_goto (tgt := 87) (pc := 83) dX3_airOfFront_83 (by decide) ?_
        exact y_sub (ls_n (ls_n (ls_s (ls_n (ls_n (ls_n (ls_n (ls_n (ls_n (ls_n (ls_n ls_0))))))))))) (t_X3_airOfFront_87 n M a2 x5)
  · refine y_br (fun h16 => ?_) (fun h16 => ?_)
    · refine y_tableIn (off := 69) (tgt := 92) (pc := 23) dX3_airOfFront_23 h16 (by decide) (by decide) (by decide) rfl (by decide) ?_
      refine y_iload_n (pc := 92) dX3_airOfFront_92 rfl ?_
      refine y_bipush (pc := 93) dX3_airOfFront_93 (by decide) ?_
      refine y_idiv (pc := 95) dX3_airOfFront_95 h6 (by decide) (by decide) ?_
      refine y_aload_n (pc := 96) dX3_airOfFront_96 rfl ?_
      refine y_getref (pc := 97) (x := 124) g_X3_18 dX3_airOfFront_97 ?_
      refine y_iload_n (pc := 100) dX3_airOfFront_100 rfl ?_
      refine y_iald (pc := 101) dX3_airOfFront_101 ar_124 h4 ?_
      refine y_iconst (pc := 102) dX3_airOfFront_102 ?_
      refine y_irem (pc := 103) dX3_airOfFront_103 (rd_rng _ _ _) (by decide) (by decide) ?_
      refine y_gd (fun h17 => ?_)
      refine y_gd (fun h18 => ?_)
      refine y_icmp_ne (off := 8) (tgt := 112) (pc := 104) dX3_airOfFront_104 (by decide) h17 h18 (fun h19 => ?_) (fun h19 => ?_)
      · refine y_iconst (pc := 112) dX3_airOfFront_112 ?_
        exact y_sub (ls_n (ls_n (ls_s (ls_n (ls_n (ls_n (ls_n (ls_n (ls_n (ls_n (ls_n ls_0))))))))))) (t_X3_airOfFront_113 n M a2 0)
      · refine y_iload (pc := 107) dX3_airOfFront_107 rfl ?_
        refine y_goto (tgt := 113) (pc := 109) dX3_airOfFront_109 (by decide) ?_
        exact y_sub (ls_n (ls_n (ls_s (ls_n (ls_n (ls_n (ls_n (ls_n (ls_n (ls_n (ls_n ls_0))))))))))) (t_X3_airOfFront_113 n M a2 x5)
    · refine y_br (fun h20 => ?_) (fun h20 => ?_)
      · refine y_tableIn (off := 95) (tgt := 118) (pc := 23) dX3_airOfFront_23 h20 (by decide) (by decide) (by decide) rfl (by decide) ?_
        refine y_aload_n (pc := 118) dX3_airOfFront_118 rfl ?_
        refine y_getref (pc := 119) (x := 124) g_X3_18 dX3_airOfFront_119 ?_
        refine y_iload_n (pc := 122) dX3_airOfFront_122 rfl ?_
        refine y_iald (pc := 123) dX3_airOfFront_123 ar_124 h4 ?_
        refine y_iconst (pc := 124) dX3_airOfFront_124 ?_
        refine y_iadd (pc := 125) dX3_airOfFront_125 ?_
        refine y_leti (fun x21 => ?_)
        refine y_istore (L' := [some (rv 121), some (iv a1), some (iv a2), some (iv a3), some (iv a4), some (iv x5), some (iv (Int.tmod a3 6)), some (iv 0), none, some (iv x21), none]) (pc := 126) dX3_airOfFront_126 (by decide) rfl rfl ?_
        refine y_iload (pc := 128) dX3_airOfFront_128 rfl ?_
        refine y_gd (fun h22 => ?_)
        refine y_if_le (off := 16) (tgt := 146) (pc := 130) dX3_airOfFront_130 (by decide) h22 (fun h23 => ?_) (fun h23 => ?_)
        · exact y_sub (ls_n (ls_n (ls_s (ls_n (ls_n (ls_n (ls_n (ls_n (ls_n (ls_n (ls_n ls_0))))))))))) (t_X3_airOfFront_146 n M a2)
        · refine y_iload (pc := 133) dX3_airOfFront_133 rfl ?_
          refine y_iload (pc := 135) dX3_airOfFront_135 rfl ?_
          refine y_gd (fun h24 => ?_)
          refine y_gd (fun h25 => ?_)
          refine y_irem (pc := 137) dX3_airOfFront_137 h24 h22 h25 ?_
          refine y_gd (fun h26 => ?_)
          refine y_if_ne (off := 8) (tgt := 146) (pc := 138) dX3_airOfFront_138 (by decide) h26 (fun h27 => ?_) (fun h27 => ?_)
          · exact y_sub (ls_n (ls_n (ls_s (ls_n (ls_n (ls_n (ls_n (ls_n (ls_n (ls_n (ls_n ls_0))))))))))) (t_X3_airOfFront_146 n M a2)
          · refine y_iload (pc := 141) dX3_airOfFront_141 rfl ?_
            refine y_goto (tgt := 147) (pc := 143) dX3_airOfFront_143 (by decide) ?_
            exact y_sub (ls_n (ls_n (ls_s (ls_n (ls_n (ls_n (ls_n (ls_n (ls_n (ls_n (ls_n ls_0))))))))))) (t_X3_airOfFront_147 n M a2 x5)
      · refine y_br (fun h28 => ?_) (fun h28 => ?_)
        · refine y_tableIn (off := 129) (tgt := 152) (pc := 23) dX3_airOfFront_23 h28 (by decide) (by decide) (by decide) rfl (by decide) ?_
          refine y_iload (pc := 152) dX3_airOfFront_152 rfl ?_
          refine y_iload (pc := 154) dX3_airOfFront_154 rfl ?_
          refine y_bipush (pc := 156) dX3_airOfFront_156 (by decide) ?_
          refine y_gd (fun h29 => ?_)
          refine y_irem (pc := 158) dX3_airOfFront_158 h29 (by decide) (by decide) ?_
          refine y_isub (pc := 159) dX3_airOfFront_159 ?_
          refine y_leti (fun x30 => ?_)
          refine y_istore (L' := [some (rv 121), some (iv a1), some (iv a2), some (iv a3), some (iv a4), some (iv x5), some (iv (Int.tmod a3 6)), some (iv 0), none, none, some (iv x30)]) (pc := 160) dX3_airOfFront_160 (by decide) rfl rfl ?_
          refine y_iload (pc := 162) dX3_airOfFront_162 rfl ?_
          refine y_iload (pc := 164) dX3_airOfFront_164 rfl ?_
          refine y_gd (fun h31 => ?_)
          refine y_if_ge (off := 9) (tgt := 175) (pc := 166) dX3_airOfFront_166 (by decide) h31 (fun h32 => ?_) (fun h32 => ?_)
          · refine y_iload (pc := 175) dX3_airOfFront_175 rfl ?_
            exact y_sub (ls_n (ls_n (ls_s (ls_n (ls_n (ls_n (ls_n (ls_n (ls_n (ls_n (ls_n ls_0))))))))))) (t_X3_airOfFront_177 n M a2 x30 x5)
          · refine y_iload (pc := 169) dX3_airOfFront_169 rfl ?_
            refine y_ineg (pc := 171) dX3_airOfFront_171 ?_
            refine y_goto (tgt := 177) (pc := 172) dX3_airOfFront_172 (by decide) ?_
            exact y_sub (ls_n (ls_n (ls_s (ls_n (ls_n (ls_n (ls_n (ls_n (ls_n (ls_n (ls_n ls_0))))))))))) (t_X3_airOfFront_177 n M a2 (-x30) x5)
        · refine y_br (fun h33 => ?_) (fun h33 => ?_)
          · refine y_tableIn (off := 160) (tgt := 183) (pc := 23) dX3_airOfFront_23 h33 (by decide) (by decide) (by decide) rfl (by decide) ?_
            refine y_iload_n (pc := 183) dX3_airOfFront_183 rfl ?_
            refine y_iload (pc := 184) dX3_airOfFront_184 rfl ?_
            refine y_gd (fun h34 => ?_)
            refine y_gd (fun h35 => ?_)
            refine y_icmp_le (off := 10) (tgt := 196) (pc := 186) dX3_airOfFront_186 (by decide) h34 h35 (fun h36 => ?_) (fun h36 => ?_)
            · refine y_iconst (pc := 196) dX3_airOfFront_196 ?_
              exact y_iret (pc := 197) dX3_airOfFront_197
            · refine y_iload_n (pc := 189) dX3_airOfFront_189 rfl ?_
              refine y_iload (pc := 190) dX3_airOfFront_190 rfl ?_
              refine y_isub (pc := 192) dX3_airOfFront_192 ?_
              refine y_goto (tgt := 197) (pc := 193) dX3_airOfFront_193 (by decide) ?_
              exact y_iret (pc := 197) dX3_airOfFront_197
          · refine y_tableOut (tgt := 198) (pc := 23) dX3_airOfFront_23 (rd_rng _ _ _) (by omega) (by decide) ?_
            exact y_sub (ls_n (ls_n (ls_s (ls_n (ls_n (ls_n (ls_n (ls_s (ls_n (ls_n (ls_n ls_0))))))))))) (t_X3_airOfFront_198 n M a2 0)
theorem c_X3_airOfFront (n : Nat) (M : Mem) (a1 : Int) (a2 : Int) (a3 : Int) (a4 : Int) : ∀ res : Int × Mem, m_X3_airOfFront n M a1 a2 a3 a4 = some res → CTi none yX3_airOfFront cX3_airOfFront 11 (some .int) 0 [rv 121, iv a1, iv a2, iv a3, iv a4] M res := CTi_of (by decide +kernel) rfl (Nat.le_of_ble_eq_true rfl) rfl (y_X3_airOfFront n M a1 a2 a3 a4)
def m_X3_airAt_100 (n : Nat) : Nat → Mem → Int → Int → Rs
  | 0, _, _, _ => none
  | t + 1, M, a5, a6 => if I32 a6 then (if (rd M 121 3) ≤ a6 then (some (a5, M)) else (if 0 ≤ a6 ∧ a6 < 6 then (bd (m_X3_airOfFront n M a6 a5 (rd M 127 (Int.toNat a6)) (rd M 128 (Int.toNat a6))) (fun r5 M4 => (m_X3_airAt_100 n t) M4 r5 (a6 + 1))) else none)) else none
theorem t_X3_airAt_100 (n : Nat) : ∀ (t : Nat) (M : Mem) (a5 : Int) (a6 : Int), Y RX3 cX3_airAt 7 1 0 none 100 [some (rv 121), none, none, none, none, some (iv a5), some (iv a6)] [] M (m_X3_airAt_100 n t M a5 a6) := by
  intro t
  induction t with
  | zero => intro M a5 a6; exact y_none
  | succ t ih =>
    intro M a5 a6
    rewrite [m_X3_airAt_100]
    refine y_iload (pc := 100) dX3_airAt_100 rfl ?_
    refine y_aload_n (pc := 102) dX3_airAt_102 rfl ?_
    refine y_getint (pc := 103) g_X3_21 dX3_airAt_103 ?_
    refine y_gd (fun h1 => ?_)
    refine y_icmp_ge (off := 33) (tgt := 139) (pc := 106) dX3_airAt_106 (by decide) h1 (rd_rng _ _ _) (fun h2 => ?_) (fun h2 => ?_)
    · refine y_iload (pc := 139) dX3_airAt_139 rfl ?_
      exact y_iret (pc := 141) dX3_airAt_141
    · refine y_aload_n (pc := 109) dX3_airAt_109 rfl ?_
      refine y_iload (pc := 110) dX3_airAt_110 rfl ?_
      refine y_iload (pc := 112) dX3_airAt_112 rfl ?_
      refine y_aload_n (pc := 114) dX3_airAt_114 rfl ?_
      refine y_getref (pc := 115) (x := 127) g_X3_31 dX3_airAt_115 ?_
      refine y_iload (pc := 118) dX3_airAt_118 rfl ?_
      refine y_gd (fun h3 => ?_)
      refine y_iald (pc := 120) dX3_airAt_120 ar_127 h3 ?_
      refine y_aload_n (pc := 121) dX3_airAt_121 rfl ?_
      refine y_getref (pc := 122) (x := 128) g_X3_34 dX3_airAt_122 ?_
      refine y_iload (pc := 125) dX3_airAt_125 rfl ?_
      refine y_iald (pc := 127) dX3_airAt_127 ar_128 h3 ?_
      refine y_callVi (pc := 128) v_X3_airOfFront l_X3_66 dX3_airAt_128 (c_X3_airOfFront n _ _ _ _ _) (fun _ h => nomatch h) rfl rc_X3 rfl (by decide) (by decide) (Nat.le_of_ble_eq_true rfl) (fun r5 M4 _ => ?_)
      refine y_istore (L' := [some (rv 121), none, none, none, none, some (iv r5), some (iv a6)]) (pc := 131) dX3_airAt_131 (by decide) rfl rfl ?_
      refine y_iinc (L' := [some (rv 121), none, none, none, none, some (iv r5), some (iv (a6 + 1))]) (pc := 133) dX3_airAt_133 rfl (by decide) rfl rfl ?_
      refine y_goto (tgt := 100) (pc := 136) dX3_airAt_136 (by decide) ?_
      exact y_sub (ls_s (ls_n (ls_n (ls_n (ls_n (ls_s (ls_s ls_0))))))) (ih M4 r5 (a6 + 1))
def m_X3_airAt_13 (n : Nat) : Nat → Mem → Int → Int → Int → Rs
  | 0, _, _, _, _ => none
  | t + 1, M, a3, a4, a5 => if I32 a5 then (if a5 < 0 then (m_X3_airAt_100 n n M 0 0) else (if 0 ≤ a5 ∧ a5 < 6 then (wr M 127 (Int.toNat a5) a3 (fun M9 => wr M9 128 (Int.toNat a5) a4 (fun M10 => if (rd M10 122 (Int.toNat a5)) = 5 then (if I32 a3 then (lt ((a3 + 5) - (2 * (Int.tmod a3 6))) (fun x16 => (m_X3_airAt_13 n t) M10 x16 a4 (a5 + (-1)))) else none) else (if (rd M10 122 (Int.toNat a5)) = 6 then (if I32 (a4 - (rd M10 124 (Int.toNat a5))) then (lt (mxZ (a4 - (rd M10 124 (Int.toNat a5))) 0) (fun x14 => (m_X3_airAt_13 n t) M10 a3 x14 (a5 + (-1)))) else none) else ((m_X3_airAt_13 n t) M10 a3 a4 (a5 + (-1))))))) else none)) else none
theorem t_X3_airAt_13 (n : Nat) : ∀ (t : Nat) (M : Mem) (a3 : Int) (a4 : Int) (a5 : Int), Y RX3 cX3_airAt 7 1 0 none 13 [some (rv 121), none, none, some (iv a3), some (iv a4), some (iv a5), none] [] M (m_X3_airAt_13 n t M a3 a4 a5) := by
  intro t
  induction t with
  | zero => intro M a3 a4 a5; exact y_none
  | succ t ih =>
    intro M a3 a4 a5
    rewrite [m_X3_airAt_13]
    refine y_iload (pc := 13) dX3_airAt_13 rfl ?_
    refine y_gd (fun h6 => ?_)
    refine y_if_lt (off := 79) (tgt := 94) (pc := 15) dX3_airAt_15 (by decide) h6 (fun h7 => ?_) (fun h7 => ?_)
    · refine y_iconst (pc := 94) dX3_airAt_94 ?_
      refine y_istore (L' := [some (rv 121), none, none, some (iv a3), some (iv a4), some (iv 0), none]) (pc := 95) dX3_airAt_95 (by decide) rfl rfl ?_
      refine y_iconst (pc := 97) dX3_airAt_97 ?_
      refine y_istore (L' := [some (rv 121), none, none, some (iv a3), some (iv a4), some (iv 0), some (iv 0)]) (pc := 98) dX3_airAt_98 (by decide) rfl rfl ?_
      exact y_sub (ls_s (ls_n (ls_n (ls_n (ls_n (ls_s (ls_s ls_0))))))) (t_X3_airAt_100 n n M 0 0)
    · refine y_aload_n (pc := 18) dX3_airAt_18 rfl ?_
      refine y_getref (pc := 19) (x := 127) g_X3_31 dX3_airAt_19 ?_
      refine y_iload (pc := 22) dX3_airAt_22 rfl ?_
      refine y_iload_n (pc := 24) dX3_airAt_24 rfl ?_
      refine y_gd (fun h8 => ?_)
      refine y_iastw (pc := 25) dX3_airAt_25 ar_127 h8 (fun M9 => ?_)
      refine y_aload_n (pc := 26) dX3_airAt_26 rfl ?_
      refine y_getref (pc := 27) (x := 128) g_X3_34 dX3_airAt_27 ?_
      refine y_iload (pc := 30) dX3_airAt_30 rfl ?_
      refine y_iload (pc := 32) dX3_airAt_32 rfl ?_
      refine y_iastw (pc := 34) dX3_airAt_34 ar_128 h8 (fun M10 => ?_)
      refine y_aload_n (pc := 35) dX3_airAt_35 rfl ?_
      refine y_getref (pc := 36) (x := 122) g_X3_9 dX3_airAt_36 ?_
      refine y_iload (pc := 39) dX3_airAt_39 rfl ?_
      refine y_iald (pc := 41) dX3_airAt_41 ar_122 h8 ?_
      refine y_iconst (pc := 42) dX3_airAt_42 ?_
      refine y_icmp_ne (off := 17) (tgt := 60) (pc := 43) dX3_airAt_43 (by decide) (rd_rng _ _ _) (by decide) (fun h11 => ?_) (fun h11 => ?_)
      · refine y_aload_n (pc := 60) dX3_airAt_60 rfl ?_
        refine y_getref (pc := 61) (x := 122) g_X3_9 dX3_airAt_61 ?_
        refine y_iload (pc := 64) dX3_airAt_64 rfl ?_
        refine y_iald (pc := 66) dX3_airAt_66 ar_122 h8 ?_
        refine y_bipush (pc := 67) dX3_airAt_67 (by decide) ?_
        refine y_icmp_ne (off := 19) (tgt := 88) (pc := 69) dX3_airAt_69 (by decide) (rd_rng _ _ _) (by decide) (fun h12 => ?_) (fun h12 => ?_)
        · refine y_iinc (L' := [some (rv 121), none, none, some (iv a3), some (iv a4), some (iv (a5 + (-1))), none]) (pc := 88) dX3_airAt_88 rfl (by decide) rfl rfl ?_
          refine y_goto (tgt := 13) (pc := 91) dX3_airAt_91 (by decide) ?_
          exact y_sub (ls_s (ls_n (ls_n (ls_s (ls_s (ls_s (ls_n ls_0))))))) (ih M10 a3 a4 (a5 + (-1)))
        · refine y_iload (pc := 72) dX3_airAt_72 rfl ?_
          refine y_aload_n (pc := 74) dX3_airAt_74 rfl ?_
          refine y_getref (pc := 75) (x := 124) g_X3_18 dX3_airAt_75 ?_
          refine y_iload (pc := 78) dX3_airAt_78 rfl ?_
          refine y_iald (pc := 80) dX3_airAt_80 ar_124 h8 ?_
          refine y_isub (pc := 81) dX3_airAt_81 ?_
          refine y_iconst (pc := 82) dX3_airAt_82 ?_
          refine y_gd (fun h13 => ?_)
          refine y_mmaxw (pc := 83) h13 (by decide) l_X3_61 dX3_airAt_83 (Nat.le_of_ble_eq_true rfl) (by decide) ?_
          refine y_leti (fun x14 => ?_)
          refine y_istore (L' := [some (rv 121), none, none, some (iv a3), some (iv x14), some (iv a5), none]) (pc := 86) dX3_airAt_86 (by decide) rfl rfl ?_
          refine y_iinc (L' := [some (rv 121), none, none, some (iv a3), some (iv x14), some (iv (a5 + (-1))), none]) (pc := 88) dX3_airAt_88 rfl (by decide) rfl rfl ?_
          refine y_goto (tgt := 13) (pc := 91) dX3_airAt_91 (by decide) ?_
          exact y_sub (ls_s (ls_n (ls_n (ls_s (ls_s (ls_s (ls_n ls_0))))))) (ih M10 a3 x14 (a5 + (-1)))
      · refine y_iload_n (pc := 46) dX3_airAt_46 rfl ?_
        refine y_iconst (pc := 47) dX3_airAt_47 ?_
        refine y_iadd (pc := 48) dX3_airAt_48 ?_
        refine y_iconst (pc := 49) dX3_airAt_49 ?_
        refine y_iload_n (pc := 50) dX3_airAt_50 rfl ?_
        refine y_bipush (pc := 51) dX3_airAt_51 (by decide) ?_
        refine y_gd (fun h15 => ?_)
        refine y_irem (pc := 53) dX3_airAt_53 h15 (by decide) (by decide) ?_
        refine y_imul (pc := 54) dX3_airAt_54 ?_
        refine y_isub (pc := 55) dX3_airAt_55 ?_
        refine y_leti (fun x16 => ?_)
        refine y_istore_n (L' := [some (rv 121), none, none, some (iv x16), some (iv a4), some (iv a5), none]) (pc := 56) dX3_airAt_56 (by decide) rfl rfl ?_
        refine y_goto (tgt := 88) (pc := 57) dX3_airAt_57 (by decide) ?_
        refine y_iinc (L' := [some (rv 121), none, none, some (iv x16), some (iv a4), some (iv (a5 + (-1))), none]) (pc := 88) dX3_airAt_88 rfl (by decide) rfl rfl ?_
        refine y_goto (tgt := 13) (pc := 91) dX3_airAt_91 (by decide) ?_
        exact y_sub (ls_s (ls_n (ls_n (ls_s (ls_s (ls_s (ls_n ls_0))))))) (ih M10 x16 a4 (a5 + (-1)))
def m_X3_airAt (n : Nat) (M : Mem) (a1 : Int) (a2 : Int) : Rs := m_X3_airAt_13 n n M a1 a2 ((rd M 121 3) - 1)
theorem y_X3_airAt (n : Nat) (M : Mem) (a1 : Int) (a2 : Int) : Y RX3 cX3_airAt 7 1 0 none 0 [some (rv 121), some (iv a1), some (iv a2), none, none, none, none] [] M (m_X3_airAt n M a1 a2) := by
  unfold m_X3_airAt
  refine y_iload_n (pc := 0) dX3_airAt_0 rfl ?_
  refine y_istore_n (L' := [some (rv 121), some (iv a1), some (iv a2), some (iv a1), none, none, none]) (pc := 1) dX3_airAt_1 (by decide) rfl rfl ?_
  refine y_iload_n (pc := 2) dX3_airAt_2 rfl ?_
  refine y_istore (L' := [some (rv 121), some (iv a1), some (iv a2), some (iv a1), some (iv a2), none, none]) (pc := 3) dX3_airAt_3 (by decide) rfl rfl ?_
  refine y_aload_n (pc := 5) dX3_airAt_5 rfl ?_
  refine y_getint (pc := 6) g_X3_21 dX3_airAt_6 ?_
  refine y_iconst (pc := 9) dX3_airAt_9 ?_
  refine y_isub (pc := 10) dX3_airAt_10 ?_
  refine y_istore (L' := [some (rv 121), some (iv a1), some (iv a2), some (iv a1), some (iv a2), some (iv ((rd M 121 3) - 1)), none]) (pc := 11) dX3_airAt_11 (by decide) rfl rfl ?_
  exact y_sub (ls_s (ls_n (ls_n (ls_s (ls_s (ls_s (ls_n ls_0))))))) (t_X3_airAt_13 n n M a1 a2 ((rd M 121 3) - 1))
theorem c_X3_airAt (n : Nat) (M : Mem) (a1 : Int) (a2 : Int) : ∀ res : Int × Mem, m_X3_airAt n M a1 a2 = some res → CTi none yX3_airAt cX3_airAt 7 (some .int) 1 [rv 121, iv a1, iv a2] M res := CTi_of (by decide +kernel) rfl (Nat.le_of_ble_eq_true rfl) rfl (y_X3_airAt n M a1 a2)
def m_X3_isOf_15 (n : Nat) : Nat → Mem → Nat → Int → Rs
  | 0, _, _, _ => none
  | t + 1, M, a1, a2 => if I32 a2 then (if (rd M 121 3) ≤ a2 then (some (1, M)) else (if 0 ≤ a2 ∧ a2 < 6 then (if (rd M 122 (Int.toNat a2)) = (rd M (a1 + 1) (Int.toNat a2)) then (if (rd M 123 (Int.toNat a2)) = (rd M (a1 + 2) (Int.toNat a2)) then (if (rd M 124 (Int.toNat a2)) = (rd M (a1 + 3) (Int.toNat a2)) then ((m_X3_isOf_15 n t) M a1 (a2 + 1)) else (some (0, M))) else (some (0, M))) else (some (0, M))) else none)) else none
theorem t_X3_isOf_15 (n : Nat) : ∀ (t : Nat) (M : Mem) (a1 : Nat) (a2 : Int), isW a1 → Y RX3 cX3_isOf 3 0 1 none 15 [some (rv 121), some (rv a1), some (iv a2)] [] M (m_X3_isOf_15 n t M a1 a2) := by
  intro t
  induction t with
  | zero => intro M a1 a2 ha1; exact y_none
  | succ t ih =>
    intro M a1 a2 ha1
    rewrite [m_X3_isOf_15]
    refine y_iload_n (pc := 15) dX3_isOf_15 rfl ?_
    refine y_aload_n (pc := 16) dX3_isOf_16 rfl ?_
    refine y_getint (pc := 17) g_X3_21 dX3_isOf_17 ?_
    refine y_gd (fun h1 => ?_)
    refine y_icmp_ge (off := 56) (tgt := 76) (pc := 20) dX3_isOf_20 (by decide) h1 (rd_rng _ _ _) (fun h2 => ?_) (fun h2 => ?_)
    · refine y_iconst (pc := 76) dX3_isOf_76 ?_
      exact y_zret (pc := 77) dX3_isOf_77 (by decide)
    · refine y_aload_n (pc := 23) dX3_isOf_23 rfl ?_
      refine y_getref (pc := 24) (x := 122) g_X3_9 dX3_isOf_24 ?_
      refine y_iload_n (pc := 27) dX3_isOf_27 rfl ?_
      refine y_gd (fun h3 => ?_)
      refine y_iald (pc := 28) dX3_isOf_28 ar_122 h3 ?_
      refine y_aload_n (pc := 29) dX3_isOf_29 rfl ?_
      refine y_getref (pc := 30) (x := (a1 + 1)) (g_X3_52 ha1) dX3_isOf_30 ?_
      refine y_iload_n (pc := 33) dX3_isOf_33 rfl ?_
      refine y_iald (pc := 34) dX3_isOf_34 (ar_w1 ha1) h3 ?_
      refine y_icmp_ne (off := 33) (tgt := 68) (pc := 35) dX3_isOf_35 (by decide) (rd_rng _ _ _) (rd_rng _ _ _) (fun h4 => ?_) (fun h4 => ?_)
      · refine y_iconst (pc := 68) dX3_isOf_68 ?_
        exact y_zret (pc := 69) dX3_isOf_69 (by decide)
      · refine y_aload_n (pc := 38) dX3_isOf_38 rfl ?_
        refine y_getref (pc := 39) (x := 123) g_X3_15 dX3_isOf_39 ?_
        refine y_iload_n (pc := 42) dX3_isOf_42 rfl ?_
        refine y_iald (pc := 43) dX3_isOf_43 ar_123 h3 ?_
        refine y_aload_n (pc := 44) dX3_isOf_44 rfl ?_
        refine y_getref (pc := 45) (x := (a1 + 2)) (g_X3_53 ha1) dX3_isOf_45 ?_
        refine y_iload_n (pc := 48) dX3_isOf_48 rfl ?_
        refine y_iald (pc := 49) dX3_isOf_49 (ar_w2 ha1) h3 ?_
        refine y_icmp_ne (off := 18) (tgt := 68) (pc := 50) dX3_isOf_50 (by decide) (rd_rng _ _ _) (rd_rng _ _ _) (fun h5 => ?_) (fun h5 => ?_)
        · refine y_iconst (pc := 68) dX3_isOf_68 ?_
          exact y_zret (pc := 69) dX3_isOf_69 (by decide)
        · refine y_aload_n (pc := 53) dX3_isOf_53 rfl ?_
          refine y_getref (pc := 54) (x := 124) g_X3_18 dX3_isOf_54 ?_
          refine y_iload_n (pc := 57) dX3_isOf_57 rfl ?_
          refine y_iald (pc := 58) dX3_isOf_58 ar_124 h3 ?_
          refine y_aload_n (pc := 59) dX3_isOf_59 rfl ?_
          refine y_getref (pc := 60) (x := (a1 + 3)) (g_X3_54 ha1) dX3_isOf_60 ?_
          refine y_iload_n (pc := 63) dX3_isOf_63 rfl ?_
          refine y_iald (pc := 64) dX3_isOf_64 (ar_w3 ha1) h3 ?_
          refine y_icmp_eq (off := 5) (tgt := 70) (pc := 65) dX3_isOf_65 (by decide) (rd_rng _ _ _) (rd_rng _ _ _) (fun h6 => ?_) (fun h6 => ?_)
          · refine y_iinc (L' := [some (rv 121), some (rv a1), some (iv (a2 + 1))]) (pc := 70) dX3_isOf_70 rfl (by decide) rfl rfl ?_
            refine y_goto (tgt := 15) (pc := 73) dX3_isOf_73 (by decide) ?_
            exact y_sub (ls_s (ls_s (ls_s ls_0))) (ih M a1 (a2 + 1) ha1)
          · refine y_iconst (pc := 68) dX3_isOf_68 ?_
            exact y_zret (pc := 69) dX3_isOf_69 (by decide)
def m_X3_isOf (n : Nat) (M : Mem) (a1 : Nat) : Rs := if isW a1 then (if (rd M 121 3) = (rd M a1 3) then (m_X3_isOf_15 n n M a1 0) else (some (0, M))) else none
theorem y_X3_isOf (n : Nat) (M : Mem) (a1 : Nat) : Y RX3 cX3_isOf 3 0 1 none 0 [some (rv 121), some (rv a1), none] [] M (m_X3_isOf n M a1) := by
  unfold m_X3_isOf
  refine y_gd (fun ha1 => ?_)
  refine y_aload_n (pc := 0) dX3_isOf_0 rfl ?_
  refine y_getint (pc := 1) g_X3_21 dX3_isOf_1 ?_
  refine y_aload_n (pc := 4) dX3_isOf_4 rfl ?_
  refine y_getint (pc := 5) (g_X3_49 ha1) dX3_isOf_5 ?_
  refine y_icmp_eq (off := 5) (tgt := 13) (pc := 8) dX3_isOf_8 (by decide) (rd_rng _ _ _) (rd_rng _ _ _) (fun h7 => ?_) (fun h7 => ?_)
  · refine y_iconst (pc := 13) dX3_isOf_13 ?_
    refine y_istore_n (L' := [some (rv 121), some (rv a1), some (iv 0)]) (pc := 14) dX3_isOf_14 (by decide) rfl rfl ?_
    exact y_sub (ls_s (ls_s (ls_s ls_0))) (t_X3_isOf_15 n n M a1 0 ha1)
  · refine y_iconst (pc := 11) dX3_isOf_11 ?_
    exact y_zret (pc := 12) dX3_isOf_12 (by decide)
theorem c_X3_isOf (n : Nat) (M : Mem) (a1 : Nat) : ∀ res : Int × Mem, m_X3_isOf n M a1 = some res → CTi none yX3_isOf cX3_isOf 3 (some .boolean) 0 [rv 121, rv a1] M res := CTz_of (by decide +kernel) rfl (Nat.le_of_ble_eq_true rfl) rfl (y_X3_isOf n M a1)
def m_X3_turnTo_55 (n : Nat) : Nat → Mem → Int → Rs
  | 0, _, _ => none
  | t + 1, M, a2 => if I32 a2 then (if 64 ≤ a2 then (some (0, M)) else (if 0 ≤ a2 ∧ a2 < 64 then (wr M 126 (Int.toNat a2) (-1) (fun M4 => (m_X3_turnTo_55 n t) M4 (a2 + 1))) else none)) else none
theorem t_X3_turnTo_55 (n : Nat) : ∀ (t : Nat) (M : Mem) (a2 : Int), Y RX3 cX3_turnTo 3 1 3 none 55 [some (rv 121), none, some (iv a2)] [] M (m_X3_turnTo_55 n t M a2) := by
  intro t
  induction t with
  | zero => intro M a2; exact y_none
  | succ t ih =>
    intro M a2
    rewrite [m_X3_turnTo_55]
    refine y_iload_n (pc := 55) dX3_turnTo_55 rfl ?_
    refine y_bipush (pc := 56) dX3_turnTo_56 (by decide) ?_
    refine y_gd (fun h1 => ?_)
    refine y_icmp_ge (off := 16) (tgt := 74) (pc := 58) dX3_turnTo_58 (by decide) h1 (by decide) (fun h2 => ?_) (fun h2 => ?_)
    · exact y_vret (pc := 74) dX3_turnTo_74
    · refine y_aload_n (pc := 61) dX3_turnTo_61 rfl ?_
      refine y_getref (pc := 62) (x := 126) g_X3_28 dX3_turnTo_62 ?_
      refine y_iload_n (pc := 65) dX3_turnTo_65 rfl ?_
      refine y_iconst (pc := 66) dX3_turnTo_66 ?_
      refine y_gd (fun h3 => ?_)
      refine y_iastw (pc := 67) dX3_turnTo_67 ar_126 h3 (fun M4 => ?_)
      refine y_iinc (L' := [some (rv 121), none, some (iv (a2 + 1))]) (pc := 68) dX3_turnTo_68 rfl (by decide) rfl rfl ?_
      refine y_goto (tgt := 55) (pc := 71) dX3_turnTo_71 (by decide) ?_
      exact y_sub (ls_s (ls_n (ls_s ls_0))) (ih M4 (a2 + 1))
def m_X3_turnTo (n : Nat) (M : Mem) (a1 : Nat) : Rs := if isW a1 then (cpw M (a1 + 1) (Int.toNat 0) 122 (Int.toNat 0) (Int.toNat 6) (fun M5 => cpw M5 (a1 + 2) (Int.toNat 0) 123 (Int.toNat 0) (Int.toNat 6) (fun M6 => cpw M6 (a1 + 3) (Int.toNat 0) 124 (Int.toNat 0) (Int.toNat 6) (fun M7 => wr M7 121 3 (rd M7 a1 3) (fun M8 => m_X3_turnTo_55 n n M8 0))))) else none
theorem y_X3_turnTo (n : Nat) (M : Mem) (a1 : Nat) : Y RX3 cX3_turnTo 3 1 3 none 0 [some (rv 121), some (rv a1), none] [] M (m_X3_turnTo n M a1) := by
  unfold m_X3_turnTo
  refine y_gd (fun ha1 => ?_)
  refine y_aload_n (pc := 0) dX3_turnTo_0 rfl ?_
  refine y_getref (pc := 1) (x := (a1 + 1)) (g_X3_52 ha1) dX3_turnTo_1 ?_
  refine y_iconst (pc := 4) dX3_turnTo_4 ?_
  refine y_aload_n (pc := 5) dX3_turnTo_5 rfl ?_
  refine y_getref (pc := 6) (x := 122) g_X3_9 dX3_turnTo_6 ?_
  refine y_iconst (pc := 9) dX3_turnTo_9 ?_
  refine y_bipush (pc := 10) dX3_turnTo_10 (by decide) ?_
  refine y_copyw (pc := 12) l_X3_55 dX3_turnTo_12 (ar_w1 ha1) ar_122 (by decide) (Nat.le_of_ble_eq_true rfl) (by decide) (fun M5 => ?_)
  refine y_aload_n (pc := 15) dX3_turnTo_15 rfl ?_
  refine y_getref (pc := 16) (x := (a1 + 2)) (g_X3_53 ha1) dX3_turnTo_16 ?_
  refine y_iconst (pc := 19) dX3_turnTo_19 ?_
  refine y_aload_n (pc := 20) dX3_turnTo_20 rfl ?_
  refine y_getref (pc := 21) (x := 123) g_X3_15 dX3_turnTo_21 ?_
  refine y_iconst (pc := 24) dX3_turnTo_24 ?_
  refine y_bipush (pc := 25) dX3_turnTo_25 (by decide) ?_
  refine y_copyw (pc := 27) l_X3_55 dX3_turnTo_27 (ar_w2 ha1) ar_123 (by decide) (Nat.le_of_ble_eq_true rfl) (by decide) (fun M6 => ?_)
  refine y_aload_n (pc := 30) dX3_turnTo_30 rfl ?_
  refine y_getref (pc := 31) (x := (a1 + 3)) (g_X3_54 ha1) dX3_turnTo_31 ?_
  refine y_iconst (pc := 34) dX3_turnTo_34 ?_
  refine y_aload_n (pc := 35) dX3_turnTo_35 rfl ?_
  refine y_getref (pc := 36) (x := 124) g_X3_18 dX3_turnTo_36 ?_
  refine y_iconst (pc := 39) dX3_turnTo_39 ?_
  refine y_bipush (pc := 40) dX3_turnTo_40 (by decide) ?_
  refine y_copyw (pc := 42) l_X3_55 dX3_turnTo_42 (ar_w3 ha1) ar_124 (by decide) (Nat.le_of_ble_eq_true rfl) (by decide) (fun M7 => ?_)
  refine y_aload_n (pc := 45) dX3_turnTo_45 rfl ?_
  refine y_aload_n (pc := 46) dX3_turnTo_46 rfl ?_
  refine y_getint (pc := 47) (g_X3_49 ha1) dX3_turnTo_47 ?_
  refine y_putintw (pc := 50) pf_X3_21 dX3_turnTo_50 (fun M8 => ?_)
  refine y_iconst (pc := 53) dX3_turnTo_53 ?_
  refine y_istore_n (L' := [some (rv 121), some (rv a1), some (iv 0)]) (pc := 54) dX3_turnTo_54 (by decide) rfl rfl ?_
  exact y_sub (ls_s (ls_n (ls_s ls_0))) (t_X3_turnTo_55 n n M8 0)
theorem c_X3_turnTo (n : Nat) (M : Mem) (a1 : Nat) : ∀ res : Int × Mem, m_X3_turnTo n M a1 = some res → CTv none yX3_turnTo cX3_turnTo 3 1 [rv 121, rv a1] M res := CTv_of (by decide +kernel) rfl (Nat.le_of_ble_eq_true rfl) rfl (y_X3_turnTo n M a1)
def m_X3_rowOf_37 (n : Nat) : Nat → Mem → Int → Int → Int → Int → Rs
  | 0, _, _, _, _, _ => none
  | t + 1, M, a2, a3, a4, a5 => if I32 a5 then (if 24 ≤ a5 then (if 0 ≤ a3 ∧ a3 < 64 then (wr M 126 (Int.toNat a3) a2 (fun M4 => some (a4, M4))) else none) else (bd (m_X3_airAt n M a5 a2) (fun r6 M5 => if 0 ≤ (a4 + a5) ∧ (a4 + a5) < 1536 then (wr M5 125 (Int.toNat (a4 + a5)) r6 (fun M8 => (m_X3_rowOf_37 n t) M8 a2 a3 a4 (a5 + 1))) else none))) else none
theorem t_X3_rowOf_37 (n : Nat) : ∀ (t : Nat) (M : Mem) (a2 : Int) (a3 : Int) (a4 : Int) (a5 : Int), Y RX3 cX3_rowOf 6 2 0 none 37 [some (rv 121), none, some (iv a2), some (iv a3), some (iv a4), some (iv a5)] [] M (m_X3_rowOf_37 n t M a2 a3 a4 a5) := by
  intro t
  induction t with
  | zero => intro M a2 a3 a4 a5; exact y_none
  | succ t ih =>
    intro M a2 a3 a4 a5
    rewrite [m_X3_rowOf_37]
    refine y_iload (pc := 37) dX3_rowOf_37 rfl ?_
    refine y_bipush (pc := 39) dX3_rowOf_39 (by decide) ?_
    refine y_gd (fun h1 => ?_)
    refine y_icmp_ge (off := 26) (tgt := 67) (pc := 41) dX3_rowOf_41 (by decide) h1 (by decide) (fun h2 => ?_) (fun h2 => ?_)
    · refine y_aload_n (pc := 67) dX3_rowOf_67 rfl ?_
      refine y_getref (pc := 68) (x := 126) g_X3_28 dX3_rowOf_68 ?_
      refine y_iload_n (pc := 71) dX3_rowOf_71 rfl ?_
      refine y_iload_n (pc := 72) dX3_rowOf_72 rfl ?_
      refine y_gd (fun h3 => ?_)
      refine y_iastw (pc := 73) dX3_rowOf_73 ar_126 h3 (fun M4 => ?_)
      refine y_iload (pc := 74) dX3_rowOf_74 rfl ?_
      exact y_iret (pc := 76) dX3_rowOf_76
    · refine y_aload_n (pc := 44) dX3_rowOf_44 rfl ?_
      refine y_getref (pc := 45) (x := 125) g_X3_25 dX3_rowOf_45 ?_
      refine y_iload (pc := 48) dX3_rowOf_48 rfl ?_
      refine y_iload (pc := 50) dX3_rowOf_50 rfl ?_
      refine y_iadd (pc := 52) dX3_rowOf_52 ?_
      refine y_aload_n (pc := 53) dX3_rowOf_53 rfl ?_
      refine y_iload (pc := 54) dX3_rowOf_54 rfl ?_
      refine y_iload_n (pc := 56) dX3_rowOf_56 rfl ?_
      refine y_callVi (pc := 57) v_X3_airAt l_X3_45 dX3_rowOf_57 (c_X3_airAt n _ _ _) (fun _ h => nomatch h) rfl rc_X3 rfl (by decide) (by decide) (Nat.le_of_ble_eq_true rfl) (fun r6 M5 _ => ?_)
      refine y_gd (fun h7 => ?_)
      refine y_iastw (pc := 60) dX3_rowOf_60 ar_125 h7 (fun M8 => ?_)
      refine y_iinc (L' := [some (rv 121), none, some (iv a2), some (iv a3), some (iv a4), some (iv (a5 + 1))]) (pc := 61) dX3_rowOf_61 rfl (by decide) rfl rfl ?_
      refine y_goto (tgt := 37) (pc := 64) dX3_rowOf_64 (by decide) ?_
      exact y_sub (ls_s (ls_n (ls_s (ls_s (ls_s (ls_s ls_0)))))) (ih M8 a2 a3 a4 (a5 + 1))
def m_X3_rowOf_13 (n : Nat) (M : Mem) (a2 : Int) : Rs := if 0 ≤ (bAnd a2 63) ∧ (bAnd a2 63) < 64 then (if I32 a2 then (if (rd M 126 (Int.toNat (bAnd a2 63))) = a2 then (some (((bAnd a2 63) * 24), M)) else (m_X3_rowOf_37 n n M a2 (bAnd a2 63) ((bAnd a2 63) * 24) 0)) else none) else none
theorem t_X3_rowOf_13 (n : Nat) (M : Mem) (a2 : Int) : Y RX3 cX3_rowOf 6 2 0 none 13 [some (rv 121), none, some (iv a2), none, none, none] [] M (m_X3_rowOf_13 n M a2) := by
  unfold m_X3_rowOf_13
  refine y_iload_n (pc := 13) dX3_rowOf_13 rfl ?_
  refine y_bipush (pc := 14) dX3_rowOf_14 (by decide) ?_
  refine y_iand (pc := 16) dX3_rowOf_16 ?_
  refine y_istore_n (L' := [some (rv 121), none, some (iv a2), some (iv (bAnd a2 63)), none, none]) (pc := 17) dX3_rowOf_17 (by decide) rfl rfl ?_
  refine y_iload_n (pc := 18) dX3_rowOf_18 rfl ?_
  refine y_bipush (pc := 19) dX3_rowOf_19 (by decide) ?_
  refine y_imul (pc := 21) dX3_rowOf_21 ?_
  refine y_istore (L' := [some (rv 121), none, some (iv a2), some (iv (bAnd a2 63)), some (iv ((bAnd a2 63) * 24)), none]) (pc := 22) dX3_rowOf_22 (by decide) rfl rfl ?_
  refine y_aload_n (pc := 24) dX3_rowOf_24 rfl ?_
  refine y_getref (pc := 25) (x := 126) g_X3_28 dX3_rowOf_25 ?_
  refine y_iload_n (pc := 28) dX3_rowOf_28 rfl ?_
  refine y_gd (fun h9 => ?_)
  refine y_iald (pc := 29) dX3_rowOf_29 ar_126 h9 ?_
  refine y_iload_n (pc := 30) dX3_rowOf_30 rfl ?_
  refine y_gd (fun h10 => ?_)
  refine y_icmp_eq (off := 43) (tgt := 74) (pc := 31) dX3_rowOf_31 (by decide) (rd_rng _ _ _) h10 (fun h11 => ?_) (fun h11 => ?_)
  · refine y_iload (pc := 74) dX3_rowOf_74 rfl ?_
    exact y_iret (pc := 76) dX3_rowOf_76
  · refine y_iconst (pc := 34) dX3_rowOf_34 ?_
    refine y_istore (L' := [some (rv 121), none, some (iv a2), some (iv (bAnd a2 63)), some (iv ((bAnd a2 63) * 24)), some (iv 0)]) (pc := 35) dX3_rowOf_35 (by decide) rfl rfl ?_
    exact y_sub (ls_s (ls_n (ls_s (ls_s (ls_s (ls_s ls_0)))))) (t_X3_rowOf_37 n n M a2 (bAnd a2 63) ((bAnd a2 63) * 24) 0)
def m_X3_rowOf (n : Nat) (M : Mem) (a1 : Nat) (a2 : Int) : Rs := if isW a1 then (bd (m_X3_isOf n M a1) (fun r13 M12 => if I32 r13 then (if r13 = 0 then (bd (m_X3_turnTo n M12 a1) (fun _ M16 => m_X3_rowOf_13 n M16 a2)) else (m_X3_rowOf_13 n M12 a2)) else none)) else none
theorem y_X3_rowOf (n : Nat) (M : Mem) (a1 : Nat) (a2 : Int) : Y RX3 cX3_rowOf 6 2 0 none 0 [some (rv 121), some (rv a1), some (iv a2), none, none, none] [] M (m_X3_rowOf n M a1 a2) := by
  unfold m_X3_rowOf
  refine y_gd (fun ha1 => ?_)
  refine y_aload_n (pc := 0) dX3_rowOf_0 rfl ?_
  refine y_aload_n (pc := 1) dX3_rowOf_1 rfl ?_
  refine y_callVi (pc := 2) v_X3_isOf l_X3_37 dX3_rowOf_2 (c_X3_isOf n _ _) (fun _ h => nomatch h) rfl rc_X3 rfl (by decide) (by decide) (Nat.le_of_ble_eq_true rfl) (fun r13 M12 _ => ?_)
  refine y_gd (fun h14 => ?_)
  refine y_if_ne (off := 8) (tgt := 13) (pc := 5) dX3_rowOf_5 (by decide) h14 (fun h15 => ?_) (fun h15 => ?_)
  · exact y_sub (ls_s (ls_n (ls_s (ls_n (ls_n (ls_n ls_0)))))) (t_X3_rowOf_13 n M12 a2)
  · refine y_aload_n (pc := 8) dX3_rowOf_8 rfl ?_
    refine y_aload_n (pc := 9) dX3_rowOf_9 rfl ?_
    refine y_callVv (pc := 10) v_X3_turnTo l_X3_41 dX3_rowOf_10 (c_X3_turnTo n _ _) (fun _ h => nomatch h) rfl rc_X3 rfl (by decide) (by decide) (Nat.le_of_ble_eq_true rfl) (fun _ M16 _ => ?_)
    exact y_sub (ls_s (ls_n (ls_s (ls_n (ls_n (ls_n ls_0)))))) (t_X3_rowOf_13 n M16 a2)
theorem c_X3_rowOf (n : Nat) (M : Mem) (a1 : Nat) (a2 : Int) : ∀ res : Int × Mem, m_X3_rowOf n M a1 a2 = some res → CTi none yX3_rowOf cX3_rowOf 6 (some .int) 2 [rv 121, rv a1, iv a2] M res := CTi_of (by decide +kernel) rfl (Nat.le_of_ble_eq_true rfl) rfl (y_X3_rowOf n M a1 a2)
def m_X0_look (n : Nat) (M : Mem) : Rs := bd (m_X3_rowOf n M 22 (rd M 22 13)) (fun r2 M1 => wr M1 129 2 r2 (fun M3 => some (0, M3)))
theorem y_X0_look (n : Nat) (M : Mem) : Y RX0 cX0_look 1 3 3 none 0 [some (rv 129)] [] M (m_X0_look n M) := by
  unfold m_X0_look
  refine y_aload_n (pc := 0) dX0_look_0 rfl ?_
  refine y_aload_n (pc := 1) dX0_look_1 rfl ?_
  refine y_getref (pc := 2) (x := 121) g_X0_21 dX0_look_2 ?_
  refine y_aload_n (pc := 5) dX0_look_5 rfl ?_
  refine y_getref (pc := 6) (x := 22) g_X0_12 dX0_look_6 ?_
  refine y_aload_n (pc := 9) dX0_look_9 rfl ?_
  refine y_getref (pc := 10) (x := 22) g_X0_12 dX0_look_10 ?_
  refine y_getint (pc := 13) (g_X0_43 (by decide)) dX0_look_13 ?_
  refine y_callVi (pc := 16) v_X3_rowOf l_X0_46 dX0_look_16 (c_X3_rowOf n _ _ _) (fun _ h => nomatch h) rfl rc_X3 rfl (by decide) (by decide) (Nat.le_of_ble_eq_true rfl) (fun r2 M1 _ => ?_)
  refine y_putintw (pc := 19) pf_X0_25 dX0_look_19 (fun M3 => ?_)
  exact y_vret (pc := 22) dX0_look_22
theorem c_X0_look (n : Nat) (M : Mem) : ∀ res : Int × Mem, m_X0_look n M = some res → CTv none yX0_look cX0_look 1 3 [rv 129] M res := CTv_of (by decide +kernel) rfl (Nat.le_of_ble_eq_true rfl) rfl (y_X0_look n M)
def m_X4_become (n : Nat) (M : Mem) (a0 : Nat) (a1 : Nat) : Rs := if isW a0 then (if isW a1 then (cpw M (a1 + 1) (Int.toNat 0) (a0 + 1) (Int.toNat 0) (Int.toNat 6) (fun M1 => cpw M1 (a1 + 2) (Int.toNat 0) (a0 + 2) (Int.toNat 0) (Int.toNat 6) (fun M2 => cpw M2 (a1 + 3) (Int.toNat 0) (a0 + 3) (Int.toNat 0) (Int.toNat 6) (fun M3 => wr M3 a0 3 (rd M3 a1 3) (fun M4 => cpw M4 (a1 + 4) (Int.toNat 0) (a0 + 4) (Int.toNat 0) (Int.toNat 8) (fun M5 => cpw M5 (a1 + 5) (Int.toNat 0) (a0 + 5) (Int.toNat 0) (Int.toNat 8) (fun M6 => cpw M6 (a1 + 6) (Int.toNat 0) (a0 + 6) (Int.toNat 0) (Int.toNat 8) (fun M7 => wr M7 a0 7 (rd M7 a1 7) (fun M8 => cpw M8 (a1 + 7) (Int.toNat 0) (a0 + 7) (Int.toNat 0) (Int.toNat 5) (fun M9 => cpw M9 (a1 + 8) (Int.toNat 0) (a0 + 8) (Int.toNat 0) (Int.toNat 5) (fun M10 => cpw M10 (a1 + 9) (Int.toNat 0) (a0 + 9) (Int.toNat 0) (Int.toNat 5) (fun M11 => cpw M11 (a1 + 10) (Int.toNat 0) (a0 + 10) (Int.toNat 0) (Int.toNat 5) (fun M12 => wr M12 a0 12 (rd M12 a1 12) (fun M13 => wr M13 a0 13 (rd M13 a1 13) (fun M14 => wr M14 a0 14 (rd M14 a1 14) (fun M15 => some (0, M15))))))))))))))))) else none) else none
theorem y_X4_become (n : Nat) (M : Mem) (a0 : Nat) (a1 : Nat) : Y RX4 cX4_become 2 1 3 none 0 [some (rv a0), some (rv a1)] [] M (m_X4_become n M a0 a1) := by
  unfold m_X4_become
  refine y_gd (fun ha0 => ?_)
  refine y_gd (fun ha1 => ?_)
  refine y_aload_n (pc := 0) dX4_become_0 rfl ?_
  refine y_getref (pc := 1) (x := (a1 + 1)) (g_X4_9 ha1) dX4_become_1 ?_
  refine y_iconst (pc := 4) dX4_become_4 ?_
  refine y_aload_n (pc := 5) dX4_become_5 rfl ?_
  refine y_getref (pc := 6) (x := (a0 + 1)) (g_X4_9 ha0) dX4_become_6 ?_
  refine y_iconst (pc := 9) dX4_become_9 ?_
  refine y_bipush (pc := 10) dX4_become_10 (by decide) ?_
  refine y_copyw (pc := 12) l_X4_58 dX4_become_12 (ar_w1 ha1) (ar_w1 ha0) (by decide) (Nat.le_of_ble_eq_true rfl) (by decide) (fun M1 => ?_)
  refine y_aload_n (pc := 15) dX4_become_15 rfl ?_
  refine y_getref (pc := 16) (x := (a1 + 2)) (g_X4_15 ha1) dX4_become_16 ?_
  refine y_iconst (pc := 19) dX4_become_19 ?_
  refine y_aload_n (pc := 20) dX4_become_20 rfl ?_
  refine y_getref (pc := 21) (x := (a0 + 2)) (g_X4_15 ha0) dX4_become_21 ?_
  refine y_iconst (pc := 24) dX4_become_24 ?_
  refine y_bipush (pc := 25) dX4_become_25 (by decide) ?_
  refine y_copyw (pc := 27) l_X4_58 dX4_become_27 (ar_w2 ha1) (ar_w2 ha0) (by decide) (Nat.le_of_ble_eq_true rfl) (by decide) (fun M2 => ?_)
  refine y_aload_n (pc := 30) dX4_become_30 rfl ?_
  refine y_getref (pc := 31) (x := (a1 + 3)) (g_X4_18 ha1) dX4_become_31 ?_
  refine y_iconst (pc := 34) dX4_become_34 ?_
  refine y_aload_n (pc := 35) dX4_become_35 rfl ?_
  refine y_getref (pc := 36) (x := (a0 + 3)) (g_X4_18 ha0) dX4_become_36 ?_
  refine y_iconst (pc := 39) dX4_become_39 ?_
  refine y_bipush (pc := 40) dX4_become_40 (by decide) ?_
  refine y_copyw (pc := 42) l_X4_58 dX4_become_42 (ar_w3 ha1) (ar_w3 ha0) (by decide) (Nat.le_of_ble_eq_true rfl) (by decide) (fun M3 => ?_)
  refine y_aload_n (pc := 45) dX4_become_45 rfl ?_
  refine y_aload_n (pc := 46) dX4_become_46 rfl ?_
  refine y_getint (pc := 47) (g_X4_21 ha1) dX4_become_47 ?_
  refine y_putintw (pc := 50) (pf_X4_21 ha0) dX4_become_50 (fun M4 => ?_)
  refine y_aload_n (pc := 53) dX4_become_53 rfl ?_
  refine y_getref (pc := 54) (x := (a1 + 4)) (g_X4_25 ha1) dX4_become_54 ?_
  refine y_iconst (pc := 57) dX4_become_57 ?_
  refine y_aload_n (pc := 58) dX4_become_58 rfl ?_
  refine y_getref (pc := 59) (x := (a0 + 4)) (g_X4_25 ha0) dX4_become_59 ?_
  refine y_iconst (pc := 62) dX4_become_62 ?_
  refine y_bipush (pc := 63) dX4_become_63 (by decide) ?_
  refine y_copyw (pc := 65) l_X4_58 dX4_become_65 (ar_w4 ha1) (ar_w4 ha0) (by decide) (Nat.le_of_ble_eq_true rfl) (by decide) (fun M5 => ?_)
  refine y_aload_n (pc := 68) dX4_become_68 rfl ?_
  refine y_getref (pc := 69) (x := (a1 + 5)) (g_X4_28 ha1) dX4_become_69 ?_
  refine y_iconst (pc := 72) dX4_become_72 ?_
  refine y_aload_n (pc := 73) dX4_become_73 rfl ?_
  refine y_getref (pc := 74) (x := (a0 + 5)) (g_X4_28 ha0) dX4_become_74 ?_
  refine y_iconst (pc := 77) dX4_become_77 ?_
  refine y_bipush (pc := 78) dX4_become_78 (by decide) ?_
  refine y_copyw (pc := 80) l_X4_58 dX4_become_80 (ar_w5 ha1) (ar_w5 ha0) (by decide) (Nat.le_of_ble_eq_true rfl) (by decide) (fun M6 => ?_)
  refine y_aload_n (pc := 83) dX4_become_83 rfl ?_
  refine y_getref (pc := 84) (x := (a1 + 6)) (g_X4_31 ha1) dX4_become_84 ?_
  refine y_iconst (pc := 87) dX4_become_87 ?_
  refine y_aload_n (pc := 88) dX4_become_88 rfl ?_
  refine y_getref (pc := 89) (x := (a0 + 6)) (g_X4_31 ha0) dX4_become_89 ?_
  refine y_iconst (pc := 92) dX4_become_92 ?_
  refine y_bipush (pc := 93) dX4_become_93 (by decide) ?_
  refine y_copyw (pc := 95) l_X4_58 dX4_become_95 (ar_w6 ha1) (ar_w6 ha0) (by decide) (Nat.le_of_ble_eq_true rfl) (by decide) (fun M7 => ?_)
  refine y_aload_n (pc := 98) dX4_become_98 rfl ?_
  refine y_aload_n (pc := 99) dX4_become_99 rfl ?_
  refine y_getint (pc := 100) (g_X4_34 ha1) dX4_become_100 ?_
  refine y_putintw (pc := 103) (pf_X4_34 ha0) dX4_become_103 (fun M8 => ?_)
  refine y_aload_n (pc := 106) dX4_become_106 rfl ?_
  refine y_getref (pc := 107) (x := (a1 + 7)) (g_X4_37 ha1) dX4_become_107 ?_
  refine y_iconst (pc := 110) dX4_become_110 ?_
  refine y_aload_n (pc := 111) dX4_become_111 rfl ?_
  refine y_getref (pc := 112) (x := (a0 + 7)) (g_X4_37 ha0) dX4_become_112 ?_
  refine y_iconst (pc := 115) dX4_become_115 ?_
  refine y_iconst (pc := 116) dX4_become_116 ?_
  refine y_copyw (pc := 117) l_X4_58 dX4_become_117 (ar_w7 ha1) (ar_w7 ha0) (by decide) (Nat.le_of_ble_eq_true rfl) (by decide) (fun M9 => ?_)
  refine y_aload_n (pc := 120) dX4_become_120 rfl ?_
  refine y_getref (pc := 121) (x := (a1 + 8)) (g_X4_40 ha1) dX4_become_121 ?_
  refine y_iconst (pc := 124) dX4_become_124 ?_
  refine y_aload_n (pc := 125) dX4_become_125 rfl ?_
  refine y_getref (pc := 126) (x := (a0 + 8)) (g_X4_40 ha0) dX4_become_126 ?_
  refine y_iconst (pc := 129) dX4_become_129 ?_
  refine y_iconst (pc := 130) dX4_become_130 ?_
  refine y_copyw (pc := 131) l_X4_58 dX4_become_131 (ar_w8 ha1) (ar_w8 ha0) (by decide) (Nat.le_of_ble_eq_true rfl) (by decide) (fun M10 => ?_)
  refine y_aload_n (pc := 134) dX4_become_134 rfl ?_
  refine y_getref (pc := 135) (x := (a1 + 9)) (g_X4_43 ha1) dX4_become_135 ?_
  refine y_iconst (pc := 138) dX4_become_138 ?_
  refine y_aload_n (pc := 139) dX4_become_139 rfl ?_
  refine y_getref (pc := 140) (x := (a0 + 9)) (g_X4_43 ha0) dX4_become_140 ?_
  refine y_iconst (pc := 143) dX4_become_143 ?_
  refine y_iconst (pc := 144) dX4_become_144 ?_
  refine y_copyw (pc := 145) l_X4_58 dX4_become_145 (ar_w9 ha1) (ar_w9 ha0) (by decide) (Nat.le_of_ble_eq_true rfl) (by decide) (fun M11 => ?_)
  refine y_aload_n (pc := 148) dX4_become_148 rfl ?_
  refine y_getref (pc := 149) (x := (a1 + 10)) (g_X4_46 ha1) dX4_become_149 ?_
  refine y_iconst (pc := 152) dX4_become_152 ?_
  refine y_aload_n (pc := 153) dX4_become_153 rfl ?_
  refine y_getref (pc := 154) (x := (a0 + 10)) (g_X4_46 ha0) dX4_become_154 ?_
  refine y_iconst (pc := 157) dX4_become_157 ?_
  refine y_iconst (pc := 158) dX4_become_158 ?_
  refine y_copyw (pc := 159) l_X4_58 dX4_become_159 (ar_w10 ha1) (ar_w10 ha0) (by decide) (Nat.le_of_ble_eq_true rfl) (by decide) (fun M12 => ?_)
  refine y_aload_n (pc := 162) dX4_become_162 rfl ?_
  refine y_aload_n (pc := 163) dX4_become_163 rfl ?_
  refine y_getint (pc := 164) (g_X4_49 ha1) dX4_become_164 ?_
  refine y_putintw (pc := 167) (pf_X4_49 ha0) dX4_become_167 (fun M13 => ?_)
  refine y_aload_n (pc := 170) dX4_become_170 rfl ?_
  refine y_aload_n (pc := 171) dX4_become_171 rfl ?_
  refine y_getint (pc := 172) (g_X4_52 ha1) dX4_become_172 ?_
  refine y_putintw (pc := 175) (pf_X4_52 ha0) dX4_become_175 (fun M14 => ?_)
  refine y_aload_n (pc := 178) dX4_become_178 rfl ?_
  refine y_aload_n (pc := 179) dX4_become_179 rfl ?_
  refine y_getint (pc := 180) (g_X4_55 ha1) dX4_become_180 ?_
  refine y_putintw (pc := 183) (pf_X4_55 ha0) dX4_become_183 (fun M15 => ?_)
  exact y_vret (pc := 186) dX4_become_186
theorem c_X4_become (n : Nat) (M : Mem) (a0 : Nat) (a1 : Nat) : ∀ res : Int × Mem, m_X4_become n M a0 a1 = some res → CTv none yX4_become cX4_become 2 1 [rv a0, rv a1] M res := CTv_of (by decide +kernel) rfl (Nat.le_of_ble_eq_true rfl) rfl (y_X4_become n M a0 a1)
def m_X0_begin (n : Nat) (M : Mem) (a1 : Nat) : Rs := if isW a1 then (bd (m_X4_become n M 22 a1) (fun _ M1 => wr M1 129 3 (-1) (fun M2 => wr M2 129 4 0 (fun M3 => bd (m_X0_look n M3) (fun _ M4 => some (0, M4)))))) else none
theorem y_X0_begin (n : Nat) (M : Mem) (a1 : Nat) : Y RX0 cX0_begin 2 4 3 none 0 [some (rv 129), some (rv a1)] [] M (m_X0_begin n M a1) := by
  unfold m_X0_begin
  refine y_gd (fun ha1 => ?_)
  refine y_aload_n (pc := 0) dX0_begin_0 rfl ?_
  refine y_getref (pc := 1) (x := 22) g_X0_12 dX0_begin_1 ?_
  refine y_aload_n (pc := 4) dX0_begin_4 rfl ?_
  refine y_callVv (pc := 5) v_X4_become l_X0_36 dX0_begin_5 (c_X4_become n _ _ _) (fun _ h => nomatch h) rfl (rc_X4 (by decide)) rfl (by decide) (by decide) (Nat.le_of_ble_eq_true rfl) (fun _ M1 _ => ?_)
  refine y_aload_n (pc := 8) dX0_begin_8 rfl ?_
  refine y_iconst (pc := 9) dX0_begin_9 ?_
  refine y_putintw (pc := 10) pf_X0_29 dX0_begin_10 (fun M2 => ?_)
  refine y_aload_n (pc := 13) dX0_begin_13 rfl ?_
  refine y_iconst (pc := 14) dX0_begin_14 ?_
  refine y_putboolw (pc := 15) pf_X0_32 (by decide) dX0_begin_15 (fun M3 => ?_)
  refine y_aload_n (pc := 18) dX0_begin_18 rfl ?_
  refine y_callVv (pc := 19) v_X0_look l_X0_40 dX0_begin_19 (c_X0_look n _) (fun _ h => nomatch h) rfl rc_X0 rfl (by decide) (by decide) (Nat.le_of_ble_eq_true rfl) (fun _ M4 _ => ?_)
  exact y_vret (pc := 22) dX0_begin_22
theorem c_X0_begin (n : Nat) (M : Mem) (a1 : Nat) : ∀ res : Int × Mem, m_X0_begin n M a1 = some res → CTv none yX0_begin cX0_begin 2 4 [rv 129, rv a1] M res := CTv_of (by decide +kernel) rfl (Nat.le_of_ble_eq_true rfl) rfl (y_X0_begin n M a1)
def m_X0_airOn (n : Nat) (M : Mem) (a1 : Int) : Rs := if (rd M 129 4) = 0 then (if I32 a1 then (if a1 < 0 then (some (0, M)) else (if a1 < 24 then (if 0 ≤ ((rd M 129 2) + a1) ∧ ((rd M 129 2) + a1) < 1536 then (some ((rd M 125 (Int.toNat ((rd M 129 2) + a1))), M)) else none) else (some (0, M)))) else none) else (some (0, M))
theorem y_X0_airOn (n : Nat) (M : Mem) (a1 : Int) : Y RX0 cX0_airOn 2 0 0 none 0 [some (rv 129), some (iv a1)] [] M (m_X0_airOn n M a1) := by
  unfold m_X0_airOn
  refine y_aload_n (pc := 0) dX0_airOn_0 rfl ?_
  refine y_getint (pc := 1) g_X0_32 dX0_airOn_1 ?_
  refine y_if_ne (off := 13) (tgt := 17) (pc := 4) dX0_airOn_4 (by decide) (rd_rng _ _ _) (fun h1 => ?_) (fun h1 => ?_)
  · refine y_iconst (pc := 17) dX0_airOn_17 ?_
    refine y_goto (tgt := 35) (pc := 18) dX0_airOn_18 (by decide) ?_
    exact y_iret (pc := 35) dX0_airOn_35
  · refine y_iload_n (pc := 7) dX0_airOn_7 rfl ?_
    refine y_gd (fun h2 => ?_)
    refine y_if_lt (off := 9) (tgt := 17) (pc := 8) dX0_airOn_8 (by decide) h2 (fun h3 => ?_) (fun h3 => ?_)
    · refine y_iconst (pc := 17) dX0_airOn_17 ?_
      refine y_goto (tgt := 35) (pc := 18) dX0_airOn_18 (by decide) ?_
      exact y_iret (pc := 35) dX0_airOn_35
    · refine y_iload_n (pc := 11) dX0_airOn_11 rfl ?_
      refine y_bipush (pc := 12) dX0_airOn_12 (by decide) ?_
      refine y_icmp_lt (off := 7) (tgt := 21) (pc := 14) dX0_airOn_14 (by decide) h2 (by decide) (fun h4 => ?_) (fun h4 => ?_)
      · refine y_aload_n (pc := 21) dX0_airOn_21 rfl ?_
        refine y_getref (pc := 22) (x := 121) g_X0_21 dX0_airOn_22 ?_
        refine y_getref (pc := 25) (x := 125) g_X0_50 dX0_airOn_25 ?_
        refine y_aload_n (pc := 28) dX0_airOn_28 rfl ?_
        refine y_getint (pc := 29) g_X0_25 dX0_airOn_29 ?_
        refine y_iload_n (pc := 32) dX0_airOn_32 rfl ?_
        refine y_iadd (pc := 33) dX0_airOn_33 ?_
        refine y_gd (fun h5 => ?_)
        refine y_iald (pc := 34) dX0_airOn_34 ar_125 h5 ?_
        exact y_iret (pc := 35) dX0_airOn_35
      · refine y_iconst (pc := 17) dX0_airOn_17 ?_
        refine y_goto (tgt := 35) (pc := 18) dX0_airOn_18 (by decide) ?_
        exact y_iret (pc := 35) dX0_airOn_35
theorem c_X0_airOn (n : Nat) (M : Mem) (a1 : Int) : ∀ res : Int × Mem, m_X0_airOn n M a1 = some res → CTi none yX0_airOn cX0_airOn 2 (some .int) 0 [rv 129, iv a1] M res := CTi_of (by decide +kernel) rfl (Nat.le_of_ble_eq_true rfl) rfl (y_X0_airOn n M a1)
def m_X1_steam (n : Nat) (M : Mem) (a0 : Int) (a1 : Int) : Rs := if I32 a0 then (if a0 = 3 then (some (5, M)) else (if a0 = 4 then (if I32 a1 then (some (((Int.tdiv a1 2) + 5), M)) else none) else (if a0 = 5 then (some (0, M)) else (if a0 = 6 then (some (3, M)) else (some (0, M)))))) else none
theorem y_X1_steam (n : Nat) (M : Mem) (a0 : Int) (a1 : Int) : Y RX1 cX1_steam 2 0 0 none 0 [some (iv a0), some (iv a1)] [] M (m_X1_steam n M a0 a1) := by
  unfold m_X1_steam
  refine y_iload_n (pc := 0) dX1_steam_0 rfl ?_
  refine y_gd (fun h1 => ?_)
  refine y_br (fun h2 => ?_) (fun h2 => ?_)
  · refine y_tableIn (off := 31) (tgt := 32) (pc := 1) dX1_steam_1 h2 (by decide) (by decide) (by decide) rfl (by decide) ?_
    refine y_iconst (pc := 32) dX1_steam_32 ?_
    exact y_iret (pc := 33) dX1_steam_33
  · refine y_br (fun h3 => ?_) (fun h3 => ?_)
    · refine y_tableIn (off := 33) (tgt := 34) (pc := 1) dX1_steam_1 h3 (by decide) (by decide) (by decide) rfl (by decide) ?_
      refine y_iload_n (pc := 34) dX1_steam_34 rfl ?_
      refine y_iconst (pc := 35) dX1_steam_35 ?_
      refine y_gd (fun h4 => ?_)
      refine y_idiv (pc := 36) dX1_steam_36 h4 (by decide) (by decide) ?_
      refine y_iconst (pc := 37) dX1_steam_37 ?_
      refine y_iadd (pc := 38) dX1_steam_38 ?_
      exact y_iret (pc := 39) dX1_steam_39
    · refine y_br (fun h5 => ?_) (fun h5 => ?_)
      · refine y_tableIn (off := 41) (tgt := 42) (pc := 1) dX1_steam_1 h5 (by decide) (by decide) (by decide) rfl (by decide) ?_
        refine y_iconst (pc := 42) dX1_steam_42 ?_
        exact y_iret (pc := 43) dX1_steam_43
      · refine y_br (fun h6 => ?_) (fun h6 => ?_)
        · refine y_tableIn (off := 39) (tgt := 40) (pc := 1) dX1_steam_1 h6 (by decide) (by decide) (by decide) rfl (by decide) ?_
          refine y_iconst (pc := 40) dX1_steam_40 ?_
          exact y_iret (pc := 41) dX1_steam_41
        · refine y_tableOut (tgt := 42) (pc := 1) dX1_steam_1 h1 (by omega) (by decide) ?_
          refine y_iconst (pc := 42) dX1_steam_42 ?_
          exact y_iret (pc := 43) dX1_steam_43
theorem c_X1_steam (n : Nat) (M : Mem) (a0 : Int) (a1 : Int) : ∀ res : Int × Mem, m_X1_steam n M a0 a1 = some res → CTi none yX1_steam cX1_steam 2 (some .int) 0 [iv a0, iv a1] M res := CTi_of (by decide +kernel) rfl (Nat.le_of_ble_eq_true rfl) rfl (y_X1_steam n M a0 a1)
