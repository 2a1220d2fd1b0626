def m_X5_person (n : Nat) (M : Mem) (a1 : Int) (a2 : Int) : Rs := bd (m_X4_hasPerson n M 0 a1) (fun r2 M1 => if I32 r2 then (if r2 = 0 then (bd (m_X5_refuse n M1 (-1)) (fun r38 M37 => some (r38, M37))) else (if I32 a2 then (if a2 = 0 then (if 0 ≤ a1 ∧ a1 < 5 then (some ((rd M1 7 (Int.toNat a1)), M1)) else none) else (if a2 = 1 then (if 0 ≤ a1 ∧ a1 < 5 then (some ((rd M1 8 (Int.toNat a1)), M1)) else none) else (if a2 = 2 then (if 0 ≤ a1 ∧ a1 < 5 then (some ((rd M1 9 (Int.toNat a1)), M1)) else none) else (if a2 = 3 then (if 0 ≤ a1 ∧ a1 < 5 then (some ((rd M1 10 (Int.toNat a1)), M1)) else none) else (if a2 = 4 then (if 0 ≤ a1 ∧ a1 < 5 then (bd (m_X1_pace n M1 (rd M1 7 (Int.toNat a1)) (rd M1 8 (Int.toNat a1))) (fun r17 M16 => some (r17, M16))) else none) else (if a2 = 5 then (if 0 ≤ a1 ∧ a1 < 5 then (bd (m_X1_grabs n M1 (rd M1 7 (Int.toNat a1)) (rd M1 8 (Int.toNat a1))) (fun r21 M20 => some (r21, M20))) else none) else (if a2 = 6 then (if 0 ≤ a1 ∧ a1 < 5 then (bd (m_X1_steam n M1 (rd M1 7 (Int.toNat a1)) (rd M1 8 (Int.toNat a1))) (fun r25 M24 => some (r25, M24))) else none) else (if a2 = 7 then (bd (m_X0_begin n M1 0) (fun _ M27 => wr M27 22 13 ((rd M27 22 13) + 1) (fun M28 => bd (m_X0_look n M28) (fun _ M29 => bd (m_X0_goal n M29 a1) (fun r31 M30 => some (r31, M30)))))) else (if a2 = 8 then (bd (m_X4_worthsOf n M1 0 a1) (fun r34 M33 => some (r34, M33))) else (bd (m_X5_refuse n M1 (-2)) (fun r36 M35 => some (r36, M35)))))))))))) else none)) else none)
theorem y_X5_person (n : Nat) (M : Mem) (a1 : Int) (a2 : Int) : Y RX5 cX5_person 3 5 0 none 0 [some (rv 130), some (iv a1), some (iv a2)] [] M (m_X5_person n M a1 a2) := by
  unfold m_X5_person
  refine y_aload_n (pc := 0) dX5_person_0 rfl ?_
  refine y_getref (pc := 1) (x := 0) g_X5_10 dX5_person_1 ?_
  refine y_iload_n (pc := 4) dX5_person_4 rfl ?_
  refine y_callVi (pc := 5) v_X4_hasPerson l_X5_123 dX5_person_5 (c_X4_hasPerson n _ _ _) rfl (rc_X4 (by decide)) rfl (by decide) (by decide) (Nat.le_of_ble_eq_true rfl) (fun r2 M1 _ => ?_)
  refine y_gd (fun h3 => ?_)
  refine y_if_ne (off := 9) (tgt := 17) (pc := 8) dX5_person_8 (by decide) h3 (fun h4 => ?_) (fun h4 => ?_)
  · refine y_iload_n (pc := 17) dX5_person_17 rfl ?_
    refine y_gd (fun h5 => ?_)
    refine y_br (fun h6 => ?_) (fun h6 => ?_)
    · refine y_tableIn (off := 50) (tgt := 68) (pc := 18) dX5_person_18 h6 (by decide) (by decide) (by decide) rfl (by decide) ?_
      refine y_aload_n (pc := 68) dX5_person_68 rfl ?_
      refine y_getref (pc := 69) (x := 0) g_X5_10 dX5_person_69 ?_
      refine y_getref (pc := 72) (x := 7) (g_X5_126 (by decide)) dX5_person_72 ?_
      refine y_iload_n (pc := 75) dX5_person_75 rfl ?_
      refine y_gd (fun h7 => ?_)
      refine y_iald (pc := 76) dX5_person_76 ar_7 h7 ?_
      exact y_iret (pc := 77) dX5_person_77
    · refine y_br (fun h8 => ?_) (fun h8 => ?_)
      · refine y_tableIn (off := 60) (tgt := 78) (pc := 18) dX5_person_18 h8 (by decide) (by decide) (by decide) rfl (by decide) ?_
        refine y_aload_n (pc := 78) dX5_person_78 rfl ?_
        refine y_getref (pc := 79) (x := 0) g_X5_10 dX5_person_79 ?_
        refine y_getref (pc := 82) (x := 8) (g_X5_129 (by decide)) dX5_person_82 ?_
        refine y_iload_n (pc := 85) dX5_person_85 rfl ?_
        refine y_gd (fun h9 => ?_)
        refine y_iald (pc := 86) dX5_person_86 ar_8 h9 ?_
        exact y_iret (pc := 87) dX5_person_87
      · refine y_br (fun h10 => ?_) (fun h10 => ?_)
        · refine y_tableIn (off := 70) (tgt := 88) (pc := 18) dX5_person_18 h10 (by decide) (by decide) (by decide) rfl (by decide) ?_
          refine y_aload_n (pc := 88) dX5_person_88 rfl ?_
          refine y_getref (pc := 89) (x := 0) g_X5_10 dX5_person_89 ?_
          refine y_getref (pc := 92) (x := 9) (g_X5_132 (by decide)) dX5_person_92 ?_
          refine y_iload_n (pc := 95) dX5_person_95 rfl ?_
          refine y_gd (fun h11 => ?_)
          refine y_iald (pc := 96) dX5_person_96 ar_9 h11 ?_
          exact y_iret (pc := 97) dX5_person_97
        · refine y_br (fun h12 => ?_) (fun h12 => ?_)
          · refine y_tableIn (off := 80) (tgt := 98) (pc := 18) dX5_person_18 h12 (by decide) (by decide) (by decide) rfl (by decide) ?_
            refine y_aload_n (pc := 98) dX5_person_98 rfl ?_
            refine y_getref (pc := 99) (x := 0) g_X5_10 dX5_person_99 ?_
            refine y_getref (pc := 102) (x := 10) (g_X5_135 (by decide)) dX5_person_102 ?_
            refine y_iload_n (pc := 105) dX5_person_105 rfl ?_
            refine y_gd (fun h13 => ?_)
            refine y_iald (pc := 106) dX5_person_106 ar_10 h13 ?_
            exact y_iret (pc := 107) dX5_person_107
          · refine y_br (fun h14 => ?_) (fun h14 => ?_)
            · refine y_tableIn (off := 90) (tgt := 108) (pc := 18) dX5_person_18 h14 (by decide) (by decide) (by decide) rfl (by decide) ?_
              refine y_aload_n (pc := 108) dX5_person_108 rfl ?_
              refine y_getref (pc := 109) (x := 0) g_X5_10 dX5_person_109 ?_
              refine y_getref (pc := 112) (x := 7) (g_X5_126 (by decide)) dX5_person_112 ?_
              refine y_iload_n (pc := 115) dX5_person_115 rfl ?_
              refine y_gd (fun h15 => ?_)
              refine y_iald (pc := 116) dX5_person_116 ar_7 h15 ?_
              refine y_aload_n (pc := 117) dX5_person_117 rfl ?_
              refine y_getref (pc := 118) (x := 0) g_X5_10 dX5_person_118 ?_
              refine y_getref (pc := 121) (x := 8) (g_X5_129 (by decide)) dX5_person_121 ?_
              refine y_iload_n (pc := 124) dX5_person_124 rfl ?_
              refine y_iald (pc := 125) dX5_person_125 ar_8 h15 ?_
              refine y_callSi (pc := 126) s_X1_pace l_X5_138 dX5_person_126 (c_X1_pace n _ _ _) rfl rfl (by decide) (by decide) (Nat.le_of_ble_eq_true rfl) (fun r17 M16 _ => ?_)
              exact y_iret (pc := 129) dX5_person_129
            · refine y_br (fun h18 => ?_) (fun h18 => ?_)
              · refine y_tableIn (off := 112) (tgt := 130) (pc := 18) dX5_person_18 h18 (by decide) (by decide) (by decide) rfl (by decide) ?_
                refine y_aload_n (pc := 130) dX5_person_130 rfl ?_
                refine y_getref (pc := 131) (x := 0) g_X5_10 dX5_person_131 ?_
                refine y_getref (pc := 134) (x := 7) (g_X5_126 (by decide)) dX5_person_134 ?_
                refine y_iload_n (pc := 137) dX5_person_137 rfl ?_
                refine y_gd (fun h19 => ?_)
                refine y_iald (pc := 138) dX5_person_138 ar_7 h19 ?_
                refine y_aload_n (pc := 139) dX5_person_139 rfl ?_
                refine y_getref (pc := 140) (x := 0) g_X5_10 dX5_person_140 ?_
                refine y_getref (pc := 143) (x := 8) (g_X5_129 (by decide)) dX5_person_143 ?_
                refine y_iload_n (pc := 146) dX5_person_146 rfl ?_
                refine y_iald (pc := 147) dX5_person_147 ar_8 h19 ?_
                refine y_callSi (pc := 148) s_X1_grabs l_X5_144 dX5_person_148 (c_X1_grabs n _ _ _) rfl rfl (by decide) (by decide) (Nat.le_of_ble_eq_true rfl) (fun r21 M20 _ => ?_)
                exact y_iret (pc := 151) dX5_person_151
              · refine y_br (fun h22 => ?_) (fun h22 => ?_)
                · refine y_tableIn (off := 134) (tgt := 152) (pc := 18) dX5_person_18 h22 (by decide) (by decide) (by decide) rfl (by decide) ?_
                  refine y_aload_n (pc := 152) dX5_person_152 rfl ?_
                  refine y_getref (pc := 153) (x := 0) g_X5_10 dX5_person_153 ?_
                  refine y_getref (pc := 156) (x := 7) (g_X5_126 (by decide)) dX5_person_156 ?_
                  refine y_iload_n (pc := 159) dX5_person_159 rfl ?_
                  refine y_gd (fun h23 => ?_)
                  refine y_iald (pc := 160) dX5_person_160 ar_7 h23 ?_
                  refine y_aload_n (pc := 161) dX5_person_161 rfl ?_
                  refine y_getref (pc := 162) (x := 0) g_X5_10 dX5_person_162 ?_
                  refine y_getref (pc := 165) (x := 8) (g_X5_129 (by decide)) dX5_person_165 ?_
                  refine y_iload_n (pc := 168) dX5_person_168 rfl ?_
                  refine y_iald (pc := 169) dX5_person_169 ar_8 h23 ?_
                  refine y_callSi (pc := 170) s_X1_steam l_X5_147 dX5_person_170 (c_X1_steam n _ _ _) rfl rfl (by decide) (by decide) (Nat.le_of_ble_eq_true rfl) (fun r25 M24 _ => ?_)
                  exact y_iret (pc := 173) dX5_person_173
                · refine y_br (fun h26 => ?_) (fun h26 => ?_)
                  · refine y_tableIn (off := 156) (tgt := 174) (pc := 18) dX5_person_18 h26 (by decide) (by decide) (by decide) rfl (by decide) ?_
                    refine y_aload_n (pc := 174) dX5_person_174 rfl ?_
                    refine y_getref (pc := 175) (x := 129) g_X5_50 dX5_person_175 ?_
                    refine y_aload_n (pc := 178) dX5_person_178 rfl ?_
                    refine y_getref (pc := 179) (x := 0) g_X5_10 dX5_person_179 ?_
                    refine y_callVv (pc := 182) v_X0_begin l_X5_67 dX5_person_182 (c_X0_begin n _ _) rfl rc_X0 rfl (by decide) (by decide) (Nat.le_of_ble_eq_true rfl) (fun _ M27 _ => ?_)
                    refine y_aload_n (pc := 185) dX5_person_185 rfl ?_
                    refine y_getref (pc := 186) (x := 129) g_X5_50 dX5_person_186 ?_
                    refine y_getref (pc := 189) (x := 22) g_X5_81 dX5_person_189 ?_
                    refine y_dup (pc := 192) dX5_person_192 rfl ?_
                    refine y_getint (pc := 193) (g_X5_116 (by decide)) dX5_person_193 ?_
                    refine y_iconst (pc := 196) dX5_person_196 ?_
                    refine y_iadd (pc := 197) dX5_person_197 ?_
                    refine y_putintw (pc := 198) (pf_X5_116 (by decide)) dX5_person_198 (fun M28 => ?_)
                    refine y_aload_n (pc := 201) dX5_person_201 rfl ?_
                    refine y_getref (pc := 202) (x := 129) g_X5_50 dX5_person_202 ?_
                    refine y_callVv (pc := 205) v_X0_look l_X5_150 dX5_person_205 (c_X0_look n _) rfl rc_X0 rfl (by decide) (by decide) (Nat.le_of_ble_eq_true rfl) (fun _ M29 _ => ?_)
                    refine y_aload_n (pc := 208) dX5_person_208 rfl ?_
                    refine y_getref (pc := 209) (x := 129) g_X5_50 dX5_person_209 ?_
                    refine y_iload_n (pc := 212) dX5_person_212 rfl ?_
                    refine y_callVi (pc := 213) v_X0_goal l_X5_153 dX5_person_213 (c_X0_goal n _ _) rfl rc_X0 rfl (by decide) (by decide) (Nat.le_of_ble_eq_true rfl) (fun r31 M30 _ => ?_)
                    exact y_iret (pc := 216) dX5_person_216
                  · refine y_br (fun h32 => ?_) (fun h32 => ?_)
                    · refine y_tableIn (off := 199) (tgt := 217) (pc := 18) dX5_person_18 h32 (by decide) (by decide) (by decide) rfl (by decide) ?_
                      refine y_aload_n (pc := 217) dX5_person_217 rfl ?_
                      refine y_getref (pc := 218) (x := 0) g_X5_10 dX5_person_218 ?_
                      refine y_iload_n (pc := 221) dX5_person_221 rfl ?_
                      refine y_callVi (pc := 222) v_X4_worthsOf l_X5_156 dX5_person_222 (c_X4_worthsOf n _ _ _) rfl (rc_X4 (by decide)) rfl (by decide) (by decide) (Nat.le_of_ble_eq_true rfl) (fun r34 M33 _ => ?_)
                      exact y_iret (pc := 225) dX5_person_225
                    · refine y_tableOut (tgt := 226) (pc := 18) dX5_person_18 h5 (by omega) (by decide) ?_
                      refine y_aload_n (pc := 226) dX5_person_226 rfl ?_
                      refine y_bipush (pc := 227) dX5_person_227 (by decide) ?_
                      refine y_callVi (pc := 229) v_X5_refuse l_X5_60 dX5_person_229 (c_X5_refuse n _ _) rfl rc_X5 rfl (by decide) (by decide) (Nat.le_of_ble_eq_true rfl) (fun r36 M35 _ => ?_)
                      exact y_iret (pc := 232) dX5_person_232
  · refine y_aload_n (pc := 11) dX5_person_11 rfl ?_
    refine y_iconst (pc := 12) dX5_person_12 ?_
    refine y_callVi (pc := 13) v_X5_refuse l_X5_60 dX5_person_13 (c_X5_refuse n _ _) rfl rc_X5 rfl (by decide) (by decide) (Nat.le_of_ble_eq_true rfl) (fun r38 M37 _ => ?_)
    exact y_iret (pc := 16) dX5_person_16
theorem c_X5_person (n : Nat) (M : Mem) (a1 : Int) (a2 : Int) : ∀ res : Int × Mem, m_X5_person n M a1 a2 = some res → CTi yX5_person cX5_person 3 (some .int) 5 [rv 130, iv a1, iv a2] M res := CTi_of (by decide +kernel) rfl (Nat.le_of_ble_eq_true rfl) rfl (y_X5_person n M a1 a2)
def m_X5_orNone (n : Nat) (M : Mem) (a0 : Int) : Rs := if I32 a0 then (if a0 = (-1) then (some ((-9), M)) else (some (a0, M))) else none
theorem y_X5_orNone (n : Nat) (M : Mem) (a0 : Int) : Y RX5 cX5_orNone 1 0 0 none 0 [some (iv a0)] [] M (m_X5_orNone n M a0) := by
  unfold m_X5_orNone
  refine y_iload_n (pc := 0) dX5_orNone_0 rfl ?_
  refine y_iconst (pc := 1) dX5_orNone_1 ?_
  refine y_gd (fun h1 => ?_)
  refine y_icmp_ne (off := 8) (tgt := 10) (pc := 2) dX5_orNone_2 (by decide) h1 (by decide) (fun h2 => ?_) (fun h2 => ?_)
  · refine y_iload_n (pc := 10) dX5_orNone_10 rfl ?_
    exact y_iret (pc := 11) dX5_orNone_11
  · refine y_bipush (pc := 5) dX5_orNone_5 (by decide) ?_
    refine y_goto (tgt := 11) (pc := 7) dX5_orNone_7 (by decide) ?_
    exact y_iret (pc := 11) dX5_orNone_11
theorem c_X5_orNone (n : Nat) (M : Mem) (a0 : Int) : ∀ res : Int × Mem, m_X5_orNone n M a0 = some res → CTi yX5_orNone cX5_orNone 1 (some .int) 0 [iv a0] M res := CTi_of (by decide +kernel) rfl (Nat.le_of_ble_eq_true rfl) rfl (y_X5_orNone n M a0)
def m_X5_thing (n : Nat) (M : Mem) (a1 : Int) (a2 : Int) : Rs := bd (m_X4_hasThing n M 0 a1) (fun r2 M1 => if I32 r2 then (if r2 = 0 then (bd (m_X5_refuse n M1 (-1)) (fun r17 M16 => some (r17, M16))) else (if I32 a2 then (if a2 = 0 then (if 0 ≤ a1 ∧ a1 < 8 then (some ((rd M1 4 (Int.toNat a1)), M1)) else none) else (if a2 = 1 then (if 0 ≤ a1 ∧ a1 < 8 then (some ((rd M1 5 (Int.toNat a1)), M1)) else none) else (if a2 = 2 then (if 0 ≤ a1 ∧ a1 < 8 then (bd (m_X5_orNone n M1 (rd M1 6 (Int.toNat a1))) (fun r13 M12 => some (r13, M12))) else none) else (bd (m_X5_refuse n M1 (-2)) (fun r15 M14 => some (r15, M14)))))) else none)) else none)
theorem y_X5_thing (n : Nat) (M : Mem) (a1 : Int) (a2 : Int) : Y RX5 cX5_thing 3 1 0 none 0 [some (rv 130), some (iv a1), some (iv a2)] [] M (m_X5_thing n M a1 a2) := by
  unfold m_X5_thing
  refine y_aload_n (pc := 0) dX5_thing_0 rfl ?_
  refine y_getref (pc := 1) (x := 0) g_X5_10 dX5_thing_1 ?_
  refine y_iload_n (pc := 4) dX5_thing_4 rfl ?_
  refine y_callVi (pc := 5) v_X4_hasThing l_X5_159 dX5_thing_5 (c_X4_hasThing n _ _ _) rfl (rc_X4 (by decide)) rfl (by decide) (by decide) (Nat.le_of_ble_eq_true rfl) (fun r2 M1 _ => ?_)
  refine y_gd (fun h3 => ?_)
  refine y_if_ne (off := 9) (tgt := 17) (pc := 8) dX5_thing_8 (by decide) h3 (fun h4 => ?_) (fun h4 => ?_)
  · refine y_iload_n (pc := 17) dX5_thing_17 rfl ?_
    refine y_gd (fun h5 => ?_)
    refine y_br (fun h6 => ?_) (fun h6 => ?_)
    · refine y_tableIn (off := 26) (tgt := 44) (pc := 18) dX5_thing_18 h6 (by decide) (by decide) (by decide) rfl (by decide) ?_
      refine y_aload_n (pc := 44) dX5_thing_44 rfl ?_
      refine y_getref (pc := 45) (x := 0) g_X5_10 dX5_thing_45 ?_
      refine y_getref (pc := 48) (x := 4) (g_X5_162 (by decide)) dX5_thing_48 ?_
      refine y_iload_n (pc := 51) dX5_thing_51 rfl ?_
      refine y_gd (fun h7 => ?_)
      refine y_iald (pc := 52) dX5_thing_52 ar_4 h7 ?_
      exact y_iret (pc := 53) dX5_thing_53
    · refine y_br (fun h8 => ?_) (fun h8 => ?_)
      · refine y_tableIn (off := 36) (tgt := 54) (pc := 18) dX5_thing_18 h8 (by decide) (by decide) (by decide) rfl (by decide) ?_
        refine y_aload_n (pc := 54) dX5_thing_54 rfl ?_
        refine y_getref (pc := 55) (x := 0) g_X5_10 dX5_thing_55 ?_
        refine y_getref (pc := 58) (x := 5) (g_X5_165 (by decide)) dX5_thing_58 ?_
        refine y_iload_n (pc := 61) dX5_thing_61 rfl ?_
        refine y_gd (fun h9 => ?_)
        refine y_iald (pc := 62) dX5_thing_62 ar_5 h9 ?_
        exact y_iret (pc := 63) dX5_thing_63
      · refine y_br (fun h10 => ?_) (fun h10 => ?_)
        · refine y_tableIn (off := 46) (tgt := 64) (pc := 18) dX5_thing_18 h10 (by decide) (by decide) (by decide) rfl (by decide) ?_
          refine y_aload_n (pc := 64) dX5_thing_64 rfl ?_
          refine y_getref (pc := 65) (x := 0) g_X5_10 dX5_thing_65 ?_
          refine y_getref (pc := 68) (x := 6) (g_X5_168 (by decide)) dX5_thing_68 ?_
          refine y_iload_n (pc := 71) dX5_thing_71 rfl ?_
          refine y_gd (fun h11 => ?_)
          refine y_iald (pc := 72) dX5_thing_72 ar_6 h11 ?_
          refine y_callSi (pc := 73) s_X5_orNone l_X5_171 dX5_thing_73 (c_X5_orNone n _ _) rfl rfl (by decide) (by decide) (Nat.le_of_ble_eq_true rfl) (fun r13 M12 _ => ?_)
          exact y_iret (pc := 76) dX5_thing_76
        · refine y_tableOut (tgt := 77) (pc := 18) dX5_thing_18 h5 (by omega) (by decide) ?_
          refine y_aload_n (pc := 77) dX5_thing_77 rfl ?_
          refine y_bipush (pc := 78) dX5_thing_78 (by decide) ?_
          refine y_callVi (pc := 80) v_X5_refuse l_X5_60 dX5_thing_80 (c_X5_refuse n _ _) rfl rc_X5 rfl (by decide) (by decide) (Nat.le_of_ble_eq_true rfl) (fun r15 M14 _ => ?_)
          exact y_iret (pc := 83) dX5_thing_83
  · refine y_aload_n (pc := 11) dX5_thing_11 rfl ?_
    refine y_iconst (pc := 12) dX5_thing_12 ?_
    refine y_callVi (pc := 13) v_X5_refuse l_X5_60 dX5_thing_13 (c_X5_refuse n _ _) rfl rc_X5 rfl (by decide) (by decide) (Nat.le_of_ble_eq_true rfl) (fun r17 M16 _ => ?_)
    exact y_iret (pc := 16) dX5_thing_16
theorem c_X5_thing (n : Nat) (M : Mem) (a1 : Int) (a2 : Int) : ∀ res : Int × Mem, m_X5_thing n M a1 a2 = some res → CTi yX5_thing cX5_thing 3 (some .int) 1 [rv 130, iv a1, iv a2] M res := CTi_of (by decide +kernel) rfl (Nat.le_of_ble_eq_true rfl) rfl (y_X5_thing n M a1 a2)
def m_X5_front (n : Nat) (M : Mem) (a1 : Int) (a2 : Int) : Rs := bd (m_X4_hasFront n M 0 a1) (fun r2 M1 => if I32 r2 then (if r2 = 0 then (bd (m_X5_refuse n M1 (-1)) (fun r15 M14 => some (r15, M14))) else (if I32 a2 then (if a2 = 0 then (if 0 ≤ a1 ∧ a1 < 6 then (some ((rd M1 1 (Int.toNat a1)), M1)) else none) else (if a2 = 1 then (if 0 ≤ a1 ∧ a1 < 6 then (some ((rd M1 2 (Int.toNat a1)), M1)) else none) else (if a2 = 2 then (if 0 ≤ a1 ∧ a1 < 6 then (some ((rd M1 3 (Int.toNat a1)), M1)) else none) else (bd (m_X5_refuse n M1 (-2)) (fun r13 M12 => some (r13, M12)))))) else none)) else none)
theorem y_X5_front (n : Nat) (M : Mem) (a1 : Int) (a2 : Int) : Y RX5 cX5_front 3 1 0 none 0 [some (rv 130), some (iv a1), some (iv a2)] [] M (m_X5_front n M a1 a2) := by
  unfold m_X5_front
  refine y_aload_n (pc := 0) dX5_front_0 rfl ?_
  refine y_getref (pc := 1) (x := 0) g_X5_10 dX5_front_1 ?_
  refine y_iload_n (pc := 4) dX5_front_4 rfl ?_
  refine y_callVi (pc := 5) v_X4_hasFront l_X5_174 dX5_front_5 (c_X4_hasFront n _ _ _) rfl (rc_X4 (by decide)) rfl (by decide) (by decide) (Nat.le_of_ble_eq_true rfl) (fun r2 M1 _ => ?_)
  refine y_gd (fun h3 => ?_)
  refine y_if_ne (off := 9) (tgt := 17) (pc := 8) dX5_front_8 (by decide) h3 (fun h4 => ?_) (fun h4 => ?_)
  · refine y_iload_n (pc := 17) dX5_front_17 rfl ?_
    refine y_gd (fun h5 => ?_)
    refine y_br (fun h6 => ?_) (fun h6 => ?_)
    · refine y_tableIn (off := 26) (tgt := 44) (pc := 18) dX5_front_18 h6 (by decide) (by decide) (by decide) rfl (by decide) ?_
      refine y_aload_n (pc := 44) dX5_front_44 rfl ?_
      refine y_getref (pc := 45) (x := 0) g_X5_10 dX5_front_45 ?_
      refine y_getref (pc := 48) (x := 1) (g_X5_177 (by decide)) dX5_front_48 ?_
      refine y_iload_n (pc := 51) dX5_front_51 rfl ?_
      refine y_gd (fun h7 => ?_)
      refine y_iald (pc := 52) dX5_front_52 ar_1 h7 ?_
      exact y_iret (pc := 53) dX5_front_53
    · refine y_br (fun h8 => ?_) (fun h8 => ?_)
      · refine y_tableIn (off := 36) (tgt := 54) (pc := 18) dX5_front_18 h8 (by decide) (by decide) (by decide) rfl (by decide) ?_
        refine y_aload_n (pc := 54) dX5_front_54 rfl ?_
        refine y_getref (pc := 55) (x := 0) g_X5_10 dX5_front_55 ?_
        refine y_getref (pc := 58) (x := 2) (g_X5_180 (by decide)) dX5_front_58 ?_
        refine y_iload_n (pc := 61) dX5_front_61 rfl ?_
        refine y_gd (fun h9 => ?_)
        refine y_iald (pc := 62) dX5_front_62 ar_2 h9 ?_
        exact y_iret (pc := 63) dX5_front_63
      · refine y_br (fun h10 => ?_) (fun h10 => ?_)
        · refine y_tableIn (off := 46) (tgt := 64) (pc := 18) dX5_front_18 h10 (by decide) (by decide) (by decide) rfl (by decide) ?_
          refine y_aload_n (pc := 64) dX5_front_64 rfl ?_
          refine y_getref (pc := 65) (x := 0) g_X5_10 dX5_front_65 ?_
          refine y_getref (pc := 68) (x := 3) (g_X5_183 (by decide)) dX5_front_68 ?_
          refine y_iload_n (pc := 71) dX5_front_71 rfl ?_
          refine y_gd (fun h11 => ?_)
          refine y_iald (pc := 72) dX5_front_72 ar_3 h11 ?_
          exact y_iret (pc := 73) dX5_front_73
        · refine y_tableOut (tgt := 74) (pc := 18) dX5_front_18 h5 (by omega) (by decide) ?_
          refine y_aload_n (pc := 74) dX5_front_74 rfl ?_
          refine y_bipush (pc := 75) dX5_front_75 (by decide) ?_
          refine y_callVi (pc := 77) v_X5_refuse l_X5_60 dX5_front_77 (c_X5_refuse n _ _) rfl rc_X5 rfl (by decide) (by decide) (Nat.le_of_ble_eq_true rfl) (fun r13 M12 _ => ?_)
          exact y_iret (pc := 80) dX5_front_80
  · refine y_aload_n (pc := 11) dX5_front_11 rfl ?_
    refine y_iconst (pc := 12) dX5_front_12 ?_
    refine y_callVi (pc := 13) v_X5_refuse l_X5_60 dX5_front_13 (c_X5_refuse n _ _) rfl rc_X5 rfl (by decide) (by decide) (Nat.le_of_ble_eq_true rfl) (fun r15 M14 _ => ?_)
    exact y_iret (pc := 16) dX5_front_16
theorem c_X5_front (n : Nat) (M : Mem) (a1 : Int) (a2 : Int) : ∀ res : Int × Mem, m_X5_front n M a1 a2 = some res → CTi yX5_front cX5_front 3 (some .int) 1 [rv 130, iv a1, iv a2] M res := CTi_of (by decide +kernel) rfl (Nat.le_of_ble_eq_true rfl) rfl (y_X5_front n M a1 a2)
def m_X5_cell_22 (n : Nat) (M : Mem) : Rs := bd (m_X5_refuse n M (-2)) (fun r2 M1 => some (r2, M1))
theorem t_X5_cell_22 (n : Nat) (M : Mem) : Y RX5 cX5_cell 3 5 0 none 22 [some (rv 130), none, none] [] M (m_X5_cell_22 n M) := by
  unfold m_X5_cell_22
  refine y_aload_n (pc := 22) dX5_cell_22 rfl ?_
  refine y_bipush (pc := 23) dX5_cell_23 (by decide) ?_
  refine y_callVi (pc := 25) v_X5_refuse l_X5_60 dX5_cell_25 (c_X5_refuse n _ _) rfl rc_X5 rfl (by decide) (by decide) (Nat.le_of_ble_eq_true rfl) (fun r2 M1 _ => ?_)
  exact y_iret (pc := 28) dX5_cell_28
def m_X5_cell (n : Nat) (M : Mem) (a1 : Int) (a2 : Int) : Rs := bd (m_X5_isCell n M a1) (fun r4 M3 => if I32 r4 then (if r4 = 0 then (bd (m_X5_refuse n M3 (-1)) (fun r28 M27 => some (r28, M27))) else (if I32 a2 then (if a2 < 0 then (m_X5_cell_22 n M3) else (if a2 ≤ 4 then (bd (m_X0_begin n M3 0) (fun _ M10 => if a2 = 0 then (bd (m_X0_airOn n M10 a1) (fun r13 M12 => some (r13, M12))) else (if a2 = 1 then (bd (m_X0_fogOn n M10 a1) (fun r16 M15 => some (r16, M15))) else (if a2 = 2 then (bd (m_X0_isInFog n M10 a1) (fun r19 M18 => if I32 r19 then (if r19 = 0 then (some (0, M18)) else (some (1, M18))) else none)) else (if a2 = 3 then (bd (m_X4_peopleOn n M10 0 a1) (fun r24 M23 => some (r24, M23))) else (bd (m_X4_thingsOn n M10 0 a1) (fun r26 M25 => some (r26, M25)))))))) else (m_X5_cell_22 n M3))) else none)) else none)
theorem y_X5_cell (n : Nat) (M : Mem) (a1 : Int) (a2 : Int) : Y RX5 cX5_cell 3 5 0 none 0 [some (rv 130), some (iv a1), some (iv a2)] [] M (m_X5_cell n M a1 a2) := by
  unfold m_X5_cell
  refine y_iload_n (pc := 0) dX5_cell_0 rfl ?_
  refine y_callSi (pc := 1) s_X5_isCell l_X5_186 dX5_cell_1 (c_X5_isCell n _ _) rfl rfl (by decide) (by decide) (Nat.le_of_ble_eq_true rfl) (fun r4 M3 _ => ?_)
  refine y_gd (fun h5 => ?_)
  refine y_if_ne (off := 9) (tgt := 13) (pc := 4) dX5_cell_4 (by decide) h5 (fun h6 => ?_) (fun h6 => ?_)
  · refine y_iload_n (pc := 13) dX5_cell_13 rfl ?_
    refine y_gd (fun h7 => ?_)
    refine y_if_lt (off := 8) (tgt := 22) (pc := 14) dX5_cell_14 (by decide) h7 (fun h8 => ?_) (fun h8 => ?_)
    · exact y_sub (ls_s (ls_n (ls_n ls_0))) (t_X5_cell_22 n M3)
    · refine y_iload_n (pc := 17) dX5_cell_17 rfl ?_
      refine y_iconst (pc := 18) dX5_cell_18 ?_
      refine y_icmp_le (off := 10) (tgt := 29) (pc := 19) dX5_cell_19 (by decide) h7 (by decide) (fun h9 => ?_) (fun h9 => ?_)
      · refine y_aload_n (pc := 29) dX5_cell_29 rfl ?_
        refine y_getref (pc := 30) (x := 129) g_X5_50 dX5_cell_30 ?_
        refine y_aload_n (pc := 33) dX5_cell_33 rfl ?_
        refine y_getref (pc := 34) (x := 0) g_X5_10 dX5_cell_34 ?_
        refine y_callVv (pc := 37) v_X0_begin l_X5_67 dX5_cell_37 (c_X0_begin n _ _) rfl rc_X0 rfl (by decide) (by decide) (Nat.le_of_ble_eq_true rfl) (fun _ M10 _ => ?_)
        refine y_iload_n (pc := 40) dX5_cell_40 rfl ?_
        refine y_br (fun h11 => ?_) (fun h11 => ?_)
        · refine y_tableIn (off := 31) (tgt := 72) (pc := 41) dX5_cell_41 h11 (by decide) (by decide) (by decide) rfl (by decide) ?_
          refine y_aload_n (pc := 72) dX5_cell_72 rfl ?_
          refine y_getref (pc := 73) (x := 129) g_X5_50 dX5_cell_73 ?_
          refine y_iload_n (pc := 76) dX5_cell_76 rfl ?_
          refine y_callVi (pc := 77) v_X0_airOn l_X5_189 dX5_cell_77 (c_X0_airOn n _ _) rfl rc_X0 rfl (by decide) (by decide) (Nat.le_of_ble_eq_true rfl) (fun r13 M12 _ => ?_)
          exact y_iret (pc := 80) dX5_cell_80
        · refine y_br (fun h14 => ?_) (fun h14 => ?_)
          · refine y_tableIn (off := 40) (tgt := 81) (pc := 41) dX5_cell_41 h14 (by decide) (by decide) (by decide) rfl (by decide) ?_
            refine y_aload_n (pc := 81) dX5_cell_81 rfl ?_
            refine y_getref (pc := 82) (x := 129) g_X5_50 dX5_cell_82 ?_
            refine y_iload_n (pc := 85) dX5_cell_85 rfl ?_
            refine y_callVi (pc := 86) v_X0_fogOn l_X5_192 dX5_cell_86 (c_X0_fogOn n _ _) rfl rc_X0 rfl (by decide) (by decide) (Nat.le_of_ble_eq_true rfl) (fun r16 M15 _ => ?_)
            exact y_iret (pc := 89) dX5_cell_89
          · refine y_br (fun h17 => ?_) (fun h17 => ?_)
            · refine y_tableIn (off := 49) (tgt := 90) (pc := 41) dX5_cell_41 h17 (by decide) (by decide) (by decide) rfl (by decide) ?_
              refine y_aload_n (pc := 90) dX5_cell_90 rfl ?_
              refine y_getref (pc := 91) (x := 129) g_X5_50 dX5_cell_91 ?_
              refine y_iload_n (pc := 94) dX5_cell_94 rfl ?_
              refine y_callVi (pc := 95) v_X0_isInFog l_X5_195 dX5_cell_95 (c_X0_isInFog n _ _) rfl rc_X0 rfl (by decide) (by decide) (Nat.le_of_ble_eq_true rfl) (fun r19 M18 _ => ?_)
              refine y_gd (fun h20 => ?_)
              refine y_if_eq (off := 7) (tgt := 105) (pc := 98) dX5_cell_98 (by decide) h20 (fun h21 => ?_) (fun h21 => ?_)
              · refine y_iconst (pc := 105) dX5_cell_105 ?_
                exact y_iret (pc := 106) dX5_cell_106
              · refine y_iconst (pc := 101) dX5_cell_101 ?_
                refine y_goto (tgt := 106) (pc := 102) dX5_cell_102 (by decide) ?_
                exact y_iret (pc := 106) dX5_cell_106
            · refine y_br (fun h22 => ?_) (fun h22 => ?_)
              · refine y_tableIn (off := 66) (tgt := 107) (pc := 41) dX5_cell_41 h22 (by decide) (by decide) (by decide) rfl (by decide) ?_
                refine y_aload_n (pc := 107) dX5_cell_107 rfl ?_
                refine y_getref (pc := 108) (x := 0) g_X5_10 dX5_cell_108 ?_
                refine y_iload_n (pc := 111) dX5_cell_111 rfl ?_
                refine y_callVi (pc := 112) v_X4_peopleOn l_X5_198 dX5_cell_112 (c_X4_peopleOn n _ _ _) rfl (rc_X4 (by decide)) rfl (by decide) (by decide) (Nat.le_of_ble_eq_true rfl) (fun r24 M23 _ => ?_)
                exact y_iret (pc := 115) dX5_cell_115
              · refine y_tableOut (tgt := 116) (pc := 41) dX5_cell_41 h7 (by omega) (by decide) ?_
                refine y_aload_n (pc := 116) dX5_cell_116 rfl ?_
                refine y_getref (pc := 117) (x := 0) g_X5_10 dX5_cell_117 ?_
                refine y_iload_n (pc := 120) dX5_cell_120 rfl ?_
                refine y_callVi (pc := 121) v_X4_thingsOn l_X5_201 dX5_cell_121 (c_X4_thingsOn n _ _ _) rfl (rc_X4 (by decide)) rfl (by decide) (by decide) (Nat.le_of_ble_eq_true rfl) (fun r26 M25 _ => ?_)
                exact y_iret (pc := 124) dX5_cell_124
      · exact y_sub (ls_s (ls_n (ls_n ls_0))) (t_X5_cell_22 n M3)
  · refine y_aload_n (pc := 7) dX5_cell_7 rfl ?_
    refine y_iconst (pc := 8) dX5_cell_8 ?_
    refine y_callVi (pc := 9) v_X5_refuse l_X5_60 dX5_cell_9 (c_X5_refuse n _ _) rfl rc_X5 rfl (by decide) (by decide) (Nat.le_of_ble_eq_true rfl) (fun r28 M27 _ => ?_)
    exact y_iret (pc := 12) dX5_cell_12
theorem c_X5_cell (n : Nat) (M : Mem) (a1 : Int) (a2 : Int) : ∀ res : Int × Mem, m_X5_cell n M a1 a2 = some res → CTi yX5_cell cX5_cell 3 (some .int) 5 [rv 130, iv a1, iv a2] M res := CTi_of (by decide +kernel) rfl (Nat.le_of_ble_eq_true rfl) rfl (y_X5_cell n M a1 a2)
def m_X5_count (n : Nat) (M : Mem) (a1 : Int) : Rs := if I32 a1 then (if a1 = 0 then (some ((rd M 0 12), M)) else (if a1 = 1 then (some ((rd M 0 7), M)) else (if a1 = 2 then (some ((rd M 0 3), M)) else (if a1 = 3 then (some ((rd M 0 13), M)) else (if a1 = 4 then (some ((rd M 0 14), M)) else (if a1 = 5 then (bd (m_X4_ownedThings n M 0) (fun r9 M8 => some (r9, M8))) else (if a1 = 6 then (some ((rd M 130 6), M)) else (if a1 = 7 then (some ((rd M 130 8), M)) else (if a1 = 8 then (some ((rd M 130 4), M)) else (if a1 = 9 then (bd (m_X0_begin n M 0) (fun _ M14 => bd (m_X0_foggyCells n M14) (fun r16 M15 => some (r16, M15)))) else (if a1 ≤ 10 then (some ((-9), M)) else (if 16 < a1 then (some ((-9), M)) else (if 0 ≤ (a1 - 10) ∧ (a1 - 10) < 7 then (some ((rd M 134 (Int.toNat (a1 - 10))), M)) else none))))))))))))) else none
theorem y_X5_count (n : Nat) (M : Mem) (a1 : Int) : Y RX5 cX5_count 2 5 0 none 0 [some (rv 130), some (iv a1)] [] M (m_X5_count n M a1) := by
  unfold m_X5_count
  refine y_iload_n (pc := 0) dX5_count_0 rfl ?_
  refine y_gd (fun h1 => ?_)
  refine y_br (fun h2 => ?_) (fun h2 => ?_)
  · refine y_tableIn (off := 55) (tgt := 56) (pc := 1) dX5_count_1 h2 (by decide) (by decide) (by decide) rfl (by decide) ?_
    refine y_aload_n (pc := 56) dX5_count_56 rfl ?_
    refine y_getref (pc := 57) (x := 0) g_X5_10 dX5_count_57 ?_
    refine y_getint (pc := 60) (g_X5_204 (by decide)) dX5_count_60 ?_
    exact y_iret (pc := 63) dX5_count_63
  · refine y_br (fun h3 => ?_) (fun h3 => ?_)
    · refine y_tableIn (off := 63) (tgt := 64) (pc := 1) dX5_count_1 h3 (by decide) (by decide) (by decide) rfl (by decide) ?_
      refine y_aload_n (pc := 64) dX5_count_64 rfl ?_
      refine y_getref (pc := 65) (x := 0) g_X5_10 dX5_count_65 ?_
      refine y_getint (pc := 68) (g_X5_207 (by decide)) dX5_count_68 ?_
      exact y_iret (pc := 71) dX5_count_71
    · refine y_br (fun h4 => ?_) (fun h4 => ?_)
      · refine y_tableIn (off := 71) (tgt := 72) (pc := 1) dX5_count_1 h4 (by decide) (by decide) (by decide) rfl (by decide) ?_
        refine y_aload_n (pc := 72) dX5_count_72 rfl ?_
        refine y_getref (pc := 73) (x := 0) g_X5_10 dX5_count_73 ?_
        refine y_getint (pc := 76) (g_X5_210 (by decide)) dX5_count_76 ?_
        exact y_iret (pc := 79) dX5_count_79
      · refine y_br (fun h5 => ?_) (fun h5 => ?_)
        · refine y_tableIn (off := 79) (tgt := 80) (pc := 1) dX5_count_1 h5 (by decide) (by decide) (by decide) rfl (by decide) ?_
          refine y_aload_n (pc := 80) dX5_count_80 rfl ?_
          refine y_getref (pc := 81) (x := 0) g_X5_10 dX5_count_81 ?_
          refine y_getint (pc := 84) (g_X5_116 (by decide)) dX5_count_84 ?_
          exact y_iret (pc := 87) dX5_count_87
        · refine y_br (fun h6 => ?_) (fun h6 => ?_)
          · refine y_tableIn (off := 87) (tgt := 88) (pc := 1) dX5_count_1 h6 (by decide) (by decide) (by decide) rfl (by decide) ?_
            refine y_aload_n (pc := 88) dX5_count_88 rfl ?_
            refine y_getref (pc := 89) (x := 0) g_X5_10 dX5_count_89 ?_
            refine y_getint (pc := 92) (g_X5_107 (by decide)) dX5_count_92 ?_
            exact y_iret (pc := 95) dX5_count_95
          · refine y_br (fun h7 => ?_) (fun h7 => ?_)
            · refine y_tableIn (off := 95) (tgt := 96) (pc := 1) dX5_count_1 h7 (by decide) (by decide) (by decide) rfl (by decide) ?_
              refine y_aload_n (pc := 96) dX5_count_96 rfl ?_
              refine y_getref (pc := 97) (x := 0) g_X5_10 dX5_count_97 ?_
              refine y_callVi (pc := 100) v_X4_ownedThings l_X5_213 dX5_count_100 (c_X4_ownedThings n _ _) rfl (rc_X4 (by decide)) rfl (by decide) (by decide) (Nat.le_of_ble_eq_true rfl) (fun r9 M8 _ => ?_)
              exact y_iret (pc := 103) dX5_count_103
            · refine y_br (fun h10 => ?_) (fun h10 => ?_)
              · refine y_tableIn (off := 103) (tgt := 104) (pc := 1) dX5_count_1 h10 (by decide) (by decide) (by decide) rfl (by decide) ?_
                refine y_aload_n (pc := 104) dX5_count_104 rfl ?_
                refine y_getint (pc := 105) g_X5_35 dX5_count_105 ?_
                exact y_iret (pc := 108) dX5_count_108
              · refine y_br (fun h11 => ?_) (fun h11 => ?_)
                · refine y_tableIn (off := 108) (tgt := 109) (pc := 1) dX5_count_1 h11 (by decide) (by decide) (by decide) rfl (by decide) ?_
                  refine y_aload_n (pc := 109) dX5_count_109 rfl ?_
                  refine y_getint (pc := 110) g_X5_41 dX5_count_110 ?_
                  exact y_iret (pc := 113) dX5_count_113
                · refine y_br (fun h12 => ?_) (fun h12 => ?_)
                  · refine y_tableIn (off := 113) (tgt := 114) (pc := 1) dX5_count_1 h12 (by decide) (by decide) (by decide) rfl (by decide) ?_
                    refine y_aload_n (pc := 114) dX5_count_114 rfl ?_
                    refine y_getint (pc := 115) g_X5_27 dX5_count_115 ?_
                    exact y_iret (pc := 118) dX5_count_118
                  · refine y_br (fun h13 => ?_) (fun h13 => ?_)
                    · refine y_tableIn (off := 118) (tgt := 119) (pc := 1) dX5_count_1 h13 (by decide) (by decide) (by decide) rfl (by decide) ?_
                      refine y_aload_n (pc := 119) dX5_count_119 rfl ?_
                      refine y_getref (pc := 120) (x := 129) g_X5_50 dX5_count_120 ?_
                      refine y_aload_n (pc := 123) dX5_count_123 rfl ?_
                      refine y_getref (pc := 124) (x := 0) g_X5_10 dX5_count_124 ?_
                      refine y_callVv (pc := 127) v_X0_begin l_X5_67 dX5_count_127 (c_X0_begin n _ _) rfl rc_X0 rfl (by decide) (by decide) (Nat.le_of_ble_eq_true rfl) (fun _ M14 _ => ?_)
                      refine y_aload_n (pc := 130) dX5_count_130 rfl ?_
                      refine y_getref (pc := 131) (x := 129) g_X5_50 dX5_count_131 ?_
                      refine y_callVi (pc := 134) v_X0_foggyCells l_X5_217 dX5_count_134 (c_X0_foggyCells n _) rfl rc_X0 rfl (by decide) (by decide) (Nat.le_of_ble_eq_true rfl) (fun r16 M15 _ => ?_)
                      exact y_iret (pc := 137) dX5_count_137
                    · refine y_tableOut (tgt := 138) (pc := 1) dX5_count_1 h1 (by omega) (by decide) ?_
                      refine y_iload_n (pc := 138) dX5_count_138 rfl ?_
                      refine y_bipush (pc := 139) dX5_count_139 (by decide) ?_
                      refine y_icmp_le (off := 21) (tgt := 162) (pc := 141) dX5_count_141 (by decide) h1 (by decide) (fun h17 => ?_) (fun h17 => ?_)
                      · refine y_bipush (pc := 162) dX5_count_162 (by decide) ?_
                        exact y_iret (pc := 164) dX5_count_164
                      · refine y_iload_n (pc := 144) dX5_count_144 rfl ?_
                        refine y_bipush (pc := 145) dX5_count_145 (by decide) ?_
                        refine y_icmp_gt (off := 15) (tgt := 162) (pc := 147) dX5_count_147 (by decide) h1 (by decide) (fun h18 => ?_) (fun h18 => ?_)
                        · refine y_bipush (pc := 162) dX5_count_162 (by decide) ?_
                          exact y_iret (pc := 164) dX5_count_164
                        · refine y_aload_n (pc := 150) dX5_count_150 rfl ?_
                          refine y_getref (pc := 151) (x := 134) g_X5_44 dX5_count_151 ?_
                          refine y_iload_n (pc := 154) dX5_count_154 rfl ?_
                          refine y_bipush (pc := 155) dX5_count_155 (by decide) ?_
                          refine y_isub (pc := 157) dX5_count_157 ?_
                          refine y_gd (fun h19 => ?_)
                          refine y_iald (pc := 158) dX5_count_158 ar_134 h19 ?_
                          refine y_goto (tgt := 164) (pc := 159) dX5_count_159 (by decide) ?_
                          exact y_iret (pc := 164) dX5_count_164
theorem c_X5_count (n : Nat) (M : Mem) (a1 : Int) : ∀ res : Int × Mem, m_X5_count n M a1 = some res → CTi yX5_count cX5_count 2 (some .int) 5 [rv 130, iv a1] M res := CTi_of (by decide +kernel) rfl (Nat.le_of_ble_eq_true rfl) rfl (y_X5_count n M a1)
def m_X5_blows_25 (n : Nat) (M : Mem) : Rs := bd (m_X5_refuse n M (-4)) (fun r2 M1 => some (r2, M1))
theorem t_X5_blows_25 (n : Nat) (M : Mem) : Y RX5 cX5_blows 4 1 0 none 25 [some (rv 130), none, none, none] [] M (m_X5_blows_25 n M) := by
  unfold m_X5_blows_25
  refine y_aload_n (pc := 25) dX5_blows_25 rfl ?_
  refine y_bipush (pc := 26) dX5_blows_26 (by decide) ?_
  refine y_callVi (pc := 28) v_X5_refuse l_X5_60 dX5_blows_28 (c_X5_refuse n _ _) rfl rc_X5 rfl (by decide) (by decide) (Nat.le_of_ble_eq_true rfl) (fun r2 M1 _ => ?_)
  exact y_iret (pc := 31) dX5_blows_31
def m_X5_blows_10 (n : Nat) (M : Mem) : Rs := bd (m_X5_refuse n M (-2)) (fun r4 M3 => some (r4, M3))
theorem t_X5_blows_10 (n : Nat) (M : Mem) : Y RX5 cX5_blows 4 1 0 none 10 [some (rv 130), none, none, none] [] M (m_X5_blows_10 n M) := by
  unfold m_X5_blows_10
  refine y_aload_n (pc := 10) dX5_blows_10 rfl ?_
  refine y_bipush (pc := 11) dX5_blows_11 (by decide) ?_
  refine y_callVi (pc := 13) v_X5_refuse l_X5_60 dX5_blows_13 (c_X5_refuse n _ _) rfl rc_X5 rfl (by decide) (by decide) (Nat.le_of_ble_eq_true rfl) (fun r4 M3 _ => ?_)
  exact y_iret (pc := 16) dX5_blows_16
def m_X5_blows (n : Nat) (M : Mem) (a1 : Int) (a2 : Int) (a3 : Int) : Rs := if I32 a1 then (if a1 < 0 then (m_X5_blows_10 n M) else (if a1 < 7 then (if I32 a2 then (if a2 < 0 then (m_X5_blows_25 n M) else (if I32 a3 then (if 0 ≤ a3 then (bd (m_X4_addFront n M 0 a1 a2 a3) (fun r13 M12 => if I32 r13 then (if r13 = 0 then (bd (m_X5_refuse n M12 (-6)) (fun r18 M17 => some (r18, M17))) else (wr M12 130 4 0 (fun M16 => some (((rd M16 0 3) - 1), M16)))) else none)) else (m_X5_blows_25 n M)) else none)) else none) else (m_X5_blows_10 n M))) else none
theorem y_X5_blows (n : Nat) (M : Mem) (a1 : Int) (a2 : Int) (a3 : Int) : Y RX5 cX5_blows 4 1 0 none 0 [some (rv 130), some (iv a1), some (iv a2), some (iv a3)] [] M (m_X5_blows n M a1 a2 a3) := by
  unfold m_X5_blows
  refine y_iload_n (pc := 0) dX5_blows_0 rfl ?_
  refine y_gd (fun h5 => ?_)
  refine y_if_lt (off := 9) (tgt := 10) (pc := 1) dX5_blows_1 (by decide) h5 (fun h6 => ?_) (fun h6 => ?_)
  · exact y_sub (ls_s (ls_n (ls_n (ls_n ls_0)))) (t_X5_blows_10 n M)
  · refine y_iload_n (pc := 4) dX5_blows_4 rfl ?_
    refine y_bipush (pc := 5) dX5_blows_5 (by decide) ?_
    refine y_icmp_lt (off := 10) (tgt := 17) (pc := 7) dX5_blows_7 (by decide) h5 (by decide) (fun h7 => ?_) (fun h7 => ?_)
    · refine y_iload_n (pc := 17) dX5_blows_17 rfl ?_
      refine y_gd (fun h8 => ?_)
      refine y_if_lt (off := 7) (tgt := 25) (pc := 18) dX5_blows_18 (by decide) h8 (fun h9 => ?_) (fun h9 => ?_)
      · exact y_sub (ls_s (ls_n (ls_n (ls_n ls_0)))) (t_X5_blows_25 n M)
      · refine y_iload_n (pc := 21) dX5_blows_21 rfl ?_
        refine y_gd (fun h10 => ?_)
        refine y_if_ge (off := 10) (tgt := 32) (pc := 22) dX5_blows_22 (by decide) h10 (fun h11 => ?_) (fun h11 => ?_)
        · refine y_aload_n (pc := 32) dX5_blows_32 rfl ?_
          refine y_getref (pc := 33) (x := 0) g_X5_10 dX5_blows_33 ?_
          refine y_iload_n (pc := 36) dX5_blows_36 rfl ?_
          refine y_iload_n (pc := 37) dX5_blows_37 rfl ?_
          refine y_iload_n (pc := 38) dX5_blows_38 rfl ?_
          refine y_callVi (pc := 39) v_X4_addFront l_X5_93 dX5_blows_39 (c_X4_addFront n _ _ _ _ _) rfl (rc_X4 (by decide)) rfl (by decide) (by decide) (Nat.le_of_ble_eq_true rfl) (fun r13 M12 _ => ?_)
          refine y_gd (fun h14 => ?_)
          refine y_if_ne (off := 10) (tgt := 52) (pc := 42) dX5_blows_42 (by decide) h14 (fun h15 => ?_) (fun h15 => ?_)
          · refine y_aload_n (pc := 52) dX5_blows_52 rfl ?_
            refine y_iconst (pc := 53) dX5_blows_53 ?_
            refine y_putintw (pc := 54) pf_X5_27 dX5_blows_54 (fun M16 => ?_)
            refine y_aload_n (pc := 57) dX5_blows_57 rfl ?_
            refine y_getref (pc := 58) (x := 0) g_X5_10 dX5_blows_58 ?_
            refine y_getint (pc := 61) (g_X5_210 (by decide)) dX5_blows_61 ?_
            refine y_iconst (pc := 64) dX5_blows_64 ?_
            refine y_isub (pc := 65) dX5_blows_65 ?_
            exact y_iret (pc := 66) dX5_blows_66
          · refine y_aload_n (pc := 45) dX5_blows_45 rfl ?_
            refine y_bipush (pc := 46) dX5_blows_46 (by decide) ?_
            refine y_callVi (pc := 48) v_X5_refuse l_X5_60 dX5_blows_48 (c_X5_refuse n _ _) rfl rc_X5 rfl (by decide) (by decide) (Nat.le_of_ble_eq_true rfl) (fun r18 M17 _ => ?_)
            exact y_iret (pc := 51) dX5_blows_51
        · exact y_sub (ls_s (ls_n (ls_n (ls_n ls_0)))) (t_X5_blows_25 n M)
    · exact y_sub (ls_s (ls_n (ls_n (ls_n ls_0)))) (t_X5_blows_10 n M)
theorem c_X5_blows (n : Nat) (M : Mem) (a1 : Int) (a2 : Int) (a3 : Int) : ∀ res : Int × Mem, m_X5_blows n M a1 a2 a3 = some res → CTi yX5_blows cX5_blows 4 (some .int) 1 [rv 130, iv a1, iv a2, iv a3] M res := CTi_of (by decide +kernel) rfl (Nat.le_of_ble_eq_true rfl) rfl (y_X5_blows n M a1 a2 a3)
def m_X5_comes_45 (n : Nat) (M : Mem) : Rs := bd (m_X5_refuse n M (-6)) (fun r2 M1 => some (r2, M1))
theorem t_X5_comes_45 (n : Nat) (M : Mem) : Y RX5 cX5_comes 4 2 0 none 45 [some (rv 130), none, none, none] [] M (m_X5_comes_45 n M) := by
  unfold m_X5_comes_45
  refine y_aload_n (pc := 45) dX5_comes_45 rfl ?_
  refine y_bipush (pc := 46) dX5_comes_46 (by decide) ?_
  refine y_callVi (pc := 48) v_X5_refuse l_X5_60 dX5_comes_48 (c_X5_refuse n _ _) rfl rc_X5 rfl (by decide) (by decide) (Nat.le_of_ble_eq_true rfl) (fun r2 M1 _ => ?_)
  exact y_iret (pc := 51) dX5_comes_51
def m_X5_comes_10 (n : Nat) (M : Mem) : Rs := bd (m_X5_refuse n M (-2)) (fun r4 M3 => some (r4, M3))
theorem t_X5_comes_10 (n : Nat) (M : Mem) : Y RX5 cX5_comes 4 2 0 none 10 [some (rv 130), none, none, none] [] M (m_X5_comes_10 n M) := by
  unfold m_X5_comes_10
  refine y_aload_n (pc := 10) dX5_comes_10 rfl ?_
  refine y_bipush (pc := 11) dX5_comes_11 (by decide) ?_
  refine y_callVi (pc := 13) v_X5_refuse l_X5_60 dX5_comes_13 (c_X5_refuse n _ _) rfl rc_X5 rfl (by decide) (by decide) (Nat.le_of_ble_eq_true rfl) (fun r4 M3 _ => ?_)
  exact y_iret (pc := 16) dX5_comes_16
def m_X5_comes (n : Nat) (M : Mem) (a1 : Int) (a2 : Int) (a3 : Int) : Rs := if I32 a1 then (if a1 < 0 then (m_X5_comes_10 n M) else (if a1 < 8 then (if I32 a2 then (if 0 ≤ a2 then (if 9 < a2 then (m_X5_comes_45 n M) else (if (rd M 0 12) < 5 then (bd (m_X4_addPerson n M 0 a1 a2 a3) (fun r13 M12 => if I32 r13 then (if r13 = 0 then (bd (m_X5_refuse n M12 (-1)) (fun r18 M17 => some (r18, M17))) else (wr M12 130 4 0 (fun M16 => some (((rd M16 0 12) - 1), M16)))) else none)) else (m_X5_comes_45 n M))) else (bd (m_X5_refuse n M (-4)) (fun r20 M19 => some (r20, M19)))) else none) else (m_X5_comes_10 n M))) else none
theorem y_X5_comes (n : Nat) (M : Mem) (a1 : Int) (a2 : Int) (a3 : Int) : Y RX5 cX5_comes 4 2 0 none 0 [some (rv 130), some (iv a1), some (iv a2), some (iv a3)] [] M (m_X5_comes n M a1 a2 a3) := by
  unfold m_X5_comes
  refine y_iload_n (pc := 0) dX5_comes_0 rfl ?_
  refine y_gd (fun h5 => ?_)
  refine y_if_lt (off := 9) (tgt := 10) (pc := 1) dX5_comes_1 (by decide) h5 (fun h6 => ?_) (fun h6 => ?_)
  · exact y_sub (ls_s (ls_n (ls_n (ls_n ls_0)))) (t_X5_comes_10 n M)
  · refine y_iload_n (pc := 4) dX5_comes_4 rfl ?_
    refine y_bipush (pc := 5) dX5_comes_5 (by decide) ?_
    refine y_icmp_lt (off := 10) (tgt := 17) (pc := 7) dX5_comes_7 (by decide) h5 (by decide) (fun h7 => ?_) (fun h7 => ?_)
    · refine y_iload_n (pc := 17) dX5_comes_17 rfl ?_
      refine y_gd (fun h8 => ?_)
      refine y_if_ge (off := 10) (tgt := 28) (pc := 18) dX5_comes_18 (by decide) h8 (fun h9 => ?_) (fun h9 => ?_)
      · refine y_iload_n (pc := 28) dX5_comes_28 rfl ?_
        refine y_bipush (pc := 29) dX5_comes_29 (by decide) ?_
        refine y_icmp_gt (off := 14) (tgt := 45) (pc := 31) dX5_comes_31 (by decide) h8 (by decide) (fun h10 => ?_) (fun h10 => ?_)
        · exact y_sub (ls_s (ls_n (ls_n (ls_n ls_0)))) (t_X5_comes_45 n M)
        · refine y_aload_n (pc := 34) dX5_comes_34 rfl ?_
          refine y_getref (pc := 35) (x := 0) g_X5_10 dX5_comes_35 ?_
          refine y_getint (pc := 38) (g_X5_204 (by decide)) dX5_comes_38 ?_
          refine y_iconst (pc := 41) dX5_comes_41 ?_
          refine y_icmp_lt (off := 10) (tgt := 52) (pc := 42) dX5_comes_42 (by decide) (rd_rng _ _ _) (by decide) (fun h11 => ?_) (fun h11 => ?_)
          · refine y_aload_n (pc := 52) dX5_comes_52 rfl ?_
            refine y_getref (pc := 53) (x := 0) g_X5_10 dX5_comes_53 ?_
            refine y_iload_n (pc := 56) dX5_comes_56 rfl ?_
            refine y_iload_n (pc := 57) dX5_comes_57 rfl ?_
            refine y_iload_n (pc := 58) dX5_comes_58 rfl ?_
            refine y_callVi (pc := 59) v_X4_addPerson l_X5_100 dX5_comes_59 (c_X4_addPerson n _ _ _ _ _) rfl (rc_X4 (by decide)) rfl (by decide) (by decide) (Nat.le_of_ble_eq_true rfl) (fun r13 M12 _ => ?_)
            refine y_gd (fun h14 => ?_)
            refine y_if_ne (off := 9) (tgt := 71) (pc := 62) dX5_comes_62 (by decide) h14 (fun h15 => ?_) (fun h15 => ?_)
            · refine y_aload_n (pc := 71) dX5_comes_71 rfl ?_
              refine y_iconst (pc := 72) dX5_comes_72 ?_
              refine y_putintw (pc := 73) pf_X5_27 dX5_comes_73 (fun M16 => ?_)
              refine y_aload_n (pc := 76) dX5_comes_76 rfl ?_
              refine y_getref (pc := 77) (x := 0) g_X5_10 dX5_comes_77 ?_
              refine y_getint (pc := 80) (g_X5_204 (by decide)) dX5_comes_80 ?_
              refine y_iconst (pc := 83) dX5_comes_83 ?_
              refine y_isub (pc := 84) dX5_comes_84 ?_
              exact y_iret (pc := 85) dX5_comes_85
            · refine y_aload_n (pc := 65) dX5_comes_65 rfl ?_
              refine y_iconst (pc := 66) dX5_comes_66 ?_
              refine y_callVi (pc := 67) v_X5_refuse l_X5_60 dX5_comes_67 (c_X5_refuse n _ _) rfl rc_X5 rfl (by decide) (by decide) (Nat.le_of_ble_eq_true rfl) (fun r18 M17 _ => ?_)
              exact y_iret (pc := 70) dX5_comes_70
          · exact y_sub (ls_s (ls_n (ls_n (ls_n ls_0)))) (t_X5_comes_45 n M)
      · refine y_aload_n (pc := 21) dX5_comes_21 rfl ?_
        refine y_bipush (pc := 22) dX5_comes_22 (by decide) ?_
        refine y_callVi (pc := 24) v_X5_refuse l_X5_60 dX5_comes_24 (c_X5_refuse n _ _) rfl rc_X5 rfl (by decide) (by decide) (Nat.le_of_ble_eq_true rfl) (fun r20 M19 _ => ?_)
        exact y_iret (pc := 27) dX5_comes_27
    · exact y_sub (ls_s (ls_n (ls_n (ls_n ls_0)))) (t_X5_comes_10 n M)
theorem c_X5_comes (n : Nat) (M : Mem) (a1 : Int) (a2 : Int) (a3 : Int) : ∀ res : Int × Mem, m_X5_comes n M a1 a2 a3 = some res → CTi yX5_comes cX5_comes 4 (some .int) 2 [rv 130, iv a1, iv a2, iv a3] M res := CTi_of (by decide +kernel) rfl (Nat.le_of_ble_eq_true rfl) rfl (y_X5_comes n M a1 a2 a3)
def m_X5_lies_29 (n : Nat) (M : Mem) : Rs := bd (m_X5_refuse n M (-6)) (fun r2 M1 => some (r2, M1))
theorem t_X5_lies_29 (n : Nat) (M : Mem) : Y RX5 cX5_lies 3 2 0 none 29 [some (rv 130), none, none] [] M (m_X5_lies_29 n M) := by
  unfold m_X5_lies_29
  refine y_aload_n (pc := 29) dX5_lies_29 rfl ?_
  refine y_bipush (pc := 30) dX5_lies_30 (by decide) ?_
  refine y_callVi (pc := 32) v_X5_refuse l_X5_60 dX5_lies_32 (c_X5_refuse n _ _) rfl rc_X5 rfl (by decide) (by decide) (Nat.le_of_ble_eq_true rfl) (fun r2 M1 _ => ?_)
  exact y_iret (pc := 35) dX5_lies_35
def m_X5_lies (n : Nat) (M : Mem) (a1 : Int) (a2 : Int) : Rs := if I32 a1 then (if 0 ≤ a1 then (if 9 < a1 then (m_X5_lies_29 n M) else (if (rd M 0 7) < 8 then (bd (m_X4_addThing n M 0 a1 a2) (fun r8 M7 => if I32 r8 then (if r8 = 0 then (bd (m_X5_refuse n M7 (-1)) (fun r13 M12 => some (r13, M12))) else (wr M7 130 4 0 (fun M11 => some (((rd M11 0 7) - 1), M11)))) else none)) else (m_X5_lies_29 n M))) else (bd (m_X5_refuse n M (-4)) (fun r15 M14 => some (r15, M14)))) else none
theorem y_X5_lies (n : Nat) (M : Mem) (a1 : Int) (a2 : Int) : Y RX5 cX5_lies 3 2 0 none 0 [some (rv 130), some (iv a1), some (iv a2)] [] M (m_X5_lies n M a1 a2) := by
  unfold m_X5_lies
  refine y_iload_n (pc := 0) dX5_lies_0 rfl ?_
  refine y_gd (fun h3 => ?_)
  refine y_if_ge (off := 10) (tgt := 11) (pc := 1) dX5_lies_1 (by decide) h3 (fun h4 => ?_) (fun h4 => ?_)
  · refine y_iload_n (pc := 11) dX5_lies_11 rfl ?_
    refine y_bipush (pc := 12) dX5_lies_12 (by decide) ?_
    refine y_icmp_gt (off := 15) (tgt := 29) (pc := 14) dX5_lies_14 (by decide) h3 (by decide) (fun h5 => ?_) (fun h5 => ?_)
    · exact y_sub (ls_s (ls_n (ls_n ls_0))) (t_X5_lies_29 n M)
    · refine y_aload_n (pc := 17) dX5_lies_17 rfl ?_
      refine y_getref (pc := 18) (x := 0) g_X5_10 dX5_lies_18 ?_
      refine y_getint (pc := 21) (g_X5_207 (by decide)) dX5_lies_21 ?_
      refine y_bipush (pc := 24) dX5_lies_24 (by decide) ?_
      refine y_icmp_lt (off := 10) (tgt := 36) (pc := 26) dX5_lies_26 (by decide) (rd_rng _ _ _) (by decide) (fun h6 => ?_) (fun h6 => ?_)
      · refine y_aload_n (pc := 36) dX5_lies_36 rfl ?_
        refine y_getref (pc := 37) (x := 0) g_X5_10 dX5_lies_37 ?_
        refine y_iload_n (pc := 40) dX5_lies_40 rfl ?_
        refine y_iload_n (pc := 41) dX5_lies_41 rfl ?_
        refine y_callVi (pc := 42) v_X4_addThing l_X5_103 dX5_lies_42 (c_X4_addThing n _ _ _ _) rfl (rc_X4 (by decide)) rfl (by decide) (by decide) (Nat.le_of_ble_eq_true rfl) (fun r8 M7 _ => ?_)
        refine y_gd (fun h9 => ?_)
        refine y_if_ne (off := 9) (tgt := 54) (pc := 45) dX5_lies_45 (by decide) h9 (fun h10 => ?_) (fun h10 => ?_)
        · refine y_aload_n (pc := 54) dX5_lies_54 rfl ?_
          refine y_iconst (pc := 55) dX5_lies_55 ?_
          refine y_putintw (pc := 56) pf_X5_27 dX5_lies_56 (fun M11 => ?_)
          refine y_aload_n (pc := 59) dX5_lies_59 rfl ?_
          refine y_getref (pc := 60) (x := 0) g_X5_10 dX5_lies_60 ?_
          refine y_getint (pc := 63) (g_X5_207 (by decide)) dX5_lies_63 ?_
          refine y_iconst (pc := 66) dX5_lies_66 ?_
          refine y_isub (pc := 67) dX5_lies_67 ?_
          exact y_iret (pc := 68) dX5_lies_68
        · refine y_aload_n (pc := 48) dX5_lies_48 rfl ?_
          refine y_iconst (pc := 49) dX5_lies_49 ?_
          refine y_callVi (pc := 50) v_X5_refuse l_X5_60 dX5_lies_50 (c_X5_refuse n _ _) rfl rc_X5 rfl (by decide) (by decide) (Nat.le_of_ble_eq_true rfl) (fun r13 M12 _ => ?_)
          exact y_iret (pc := 53) dX5_lies_53
      · exact y_sub (ls_s (ls_n (ls_n ls_0))) (t_X5_lies_29 n M)
  · refine y_aload_n (pc := 4) dX5_lies_4 rfl ?_
    refine y_bipush (pc := 5) dX5_lies_5 (by decide) ?_
    refine y_callVi (pc := 7) v_X5_refuse l_X5_60 dX5_lies_7 (c_X5_refuse n _ _) rfl rc_X5 rfl (by decide) (by decide) (Nat.le_of_ble_eq_true rfl) (fun r15 M14 _ => ?_)
    exact y_iret (pc := 10) dX5_lies_10
theorem c_X5_lies (n : Nat) (M : Mem) (a1 : Int) (a2 : Int) : ∀ res : Int × Mem, m_X5_lies n M a1 a2 = some res → CTi yX5_lies cX5_lies 3 (some .int) 2 [rv 130, iv a1, iv a2] M res := CTi_of (by decide +kernel) rfl (Nat.le_of_ble_eq_true rfl) rfl (y_X5_lies n M a1 a2)
def m_X5_keepForBack_58 (n : Nat) (M : Mem) : Rs := if 0 ≤ (rd M 130 4) ∧ (rd M 130 4) < 8 then (if isW (Int.toNat (rd M 131 (Int.toNat (rd M 130 4)))) then (bd (m_X4_become n M (Int.toNat (rd M 131 (Int.toNat (rd M 130 4)))) 0) (fun _ M3 => wr M3 130 4 ((rd M3 130 4) + 1) (fun M4 => some (0, M4)))) else none) else none
theorem t_X5_keepForBack_58 (n : Nat) (M : Mem) : Y RX5 cX5_keepForBack 3 2 3 none 58 [some (rv 130), none, none] [] M (m_X5_keepForBack_58 n M) := by
  unfold m_X5_keepForBack_58
  refine y_aload_n (pc := 58) dX5_keepForBack_58 rfl ?_
  refine y_getref (pc := 59) (x := 131) g_X5_23 dX5_keepForBack_59 ?_
  refine y_aload_n (pc := 62) dX5_keepForBack_62 rfl ?_
  refine y_getint (pc := 63) g_X5_27 dX5_keepForBack_63 ?_
  refine y_gd (fun h1 => ?_)
  refine y_aald (pc := 66) dX5_keepForBack_66 h1 ?_
  refine y_aload_n (pc := 67) dX5_keepForBack_67 rfl ?_
  refine y_getref (pc := 68) (x := 0) g_X5_10 dX5_keepForBack_68 ?_
  refine y_gd (fun h2 => ?_)
  refine y_callVv (pc := 71) v_X4_become l_X5_84 dX5_keepForBack_71 (c_X4_become n _ _ _) rfl (rc_X4 h2) rfl (by decide) (by decide) (Nat.le_of_ble_eq_true rfl) (fun _ M3 _ => ?_)
  refine y_aload_n (pc := 74) dX5_keepForBack_74 rfl ?_
  refine y_dup (pc := 75) dX5_keepForBack_75 rfl ?_
  refine y_getint (pc := 76) g_X5_27 dX5_keepForBack_76 ?_
  refine y_iconst (pc := 79) dX5_keepForBack_79 ?_
  refine y_iadd (pc := 80) dX5_keepForBack_80 ?_
  refine y_putintw (pc := 81) pf_X5_27 dX5_keepForBack_81 (fun M4 => ?_)
  exact y_vret (pc := 84) dX5_keepForBack_84
def m_X5_keepForBack_18 (n : Nat) : Nat → Mem → Nat → Int → Rs
  | 0, _, _, _ => none
  | t + 1, M, a1, a2 => if I32 a2 then (if 8 ≤ a2 then (wr M 131 (Int.toNat 7) ((a1 : Nat) : Int) (fun M7 => wr M7 130 4 7 (fun M8 => m_X5_keepForBack_58 n M8))) else (if 0 ≤ a2 ∧ a2 < 8 then (if 0 ≤ (a2 - 1) ∧ (a2 - 1) < 8 then (if isW (Int.toNat (rd M 131 (Int.toNat a2))) then (wr M 131 (Int.toNat (a2 - 1)) (((Int.toNat (rd M 131 (Int.toNat a2))) : Nat) : Int) (fun M12 => (m_X5_keepForBack_18 n t) M12 a1 (a2 + 1))) else none) else none) else none)) else none
theorem t_X5_keepForBack_18 (n : Nat) : ∀ (t : Nat) (M : Mem) (a1 : Nat) (a2 : Int), isW a1 → Y RX5 cX5_keepForBack 3 2 3 none 18 [some (rv 130), some (rv a1), some (iv a2)] [] M (m_X5_keepForBack_18 n t M a1 a2) := by
  intro t
  induction t with
  | zero => intro M a1 a2 ha1; exact y_none
  | succ t ih =>
    intro M a1 a2 ha1
    rewrite [m_X5_keepForBack_18]
    refine y_iload_n (pc := 18) dX5_keepForBack_18 rfl ?_
    refine y_bipush (pc := 19) dX5_keepForBack_19 (by decide) ?_
    refine y_gd (fun h5 => ?_)
    refine y_icmp_ge (off := 23) (tgt := 44) (pc := 21) dX5_keepForBack_21 (by decide) h5 (by decide) (fun h6 => ?_) (fun h6 => ?_)
    · refine y_aload_n (pc := 44) dX5_keepForBack_44 rfl ?_
      refine y_getref (pc := 45) (x := 131) g_X5_23 dX5_keepForBack_45 ?_
      refine y_bipush (pc := 48) dX5_keepForBack_48 (by decide) ?_
      refine y_aload_n (pc := 50) dX5_keepForBack_50 rfl ?_
      refine y_aastw (pc := 51) dX5_keepForBack_51 (by decide) ha1 (fun M7 => ?_)
      refine y_aload_n (pc := 52) dX5_keepForBack_52 rfl ?_
      refine y_bipush (pc := 53) dX5_keepForBack_53 (by decide) ?_
      refine y_putintw (pc := 55) pf_X5_27 dX5_keepForBack_55 (fun M8 => ?_)
      exact y_sub (ls_s (ls_n (ls_n ls_0))) (t_X5_keepForBack_58 n M8)
    · refine y_aload_n (pc := 24) dX5_keepForBack_24 rfl ?_
      refine y_getref (pc := 25) (x := 131) g_X5_23 dX5_keepForBack_25 ?_
      refine y_iload_n (pc := 28) dX5_keepForBack_28 rfl ?_
      refine y_iconst (pc := 29) dX5_keepForBack_29 ?_
      refine y_isub (pc := 30) dX5_keepForBack_30 ?_
      refine y_aload_n (pc := 31) dX5_keepForBack_31 rfl ?_
      refine y_getref (pc := 32) (x := 131) g_X5_23 dX5_keepForBack_32 ?_
      refine y_iload_n (pc := 35) dX5_keepForBack_35 rfl ?_
      refine y_gd (fun h9 => ?_)
      refine y_aald (pc := 36) dX5_keepForBack_36 h9 ?_
      refine y_gd (fun h10 => ?_)
      refine y_gd (fun h11 => ?_)
      refine y_aastw (pc := 37) dX5_keepForBack_37 h10 h11 (fun M12 => ?_)
      refine y_iinc (L' := [some (rv 130), some (rv a1), some (iv (a2 + 1))]) (pc := 38) dX5_keepForBack_38 rfl (by decide) rfl rfl ?_
      refine y_goto (tgt := 18) (pc := 41) dX5_keepForBack_41 (by decide) ?_
      exact y_sub (ls_s (ls_s (ls_s ls_0))) (ih M12 a1 (a2 + 1) ha1)
def m_X5_keepForBack (n : Nat) (M : Mem) : Rs := if (rd M 130 4) < 8 then (m_X5_keepForBack_58 n M) else (if isW (Int.toNat (rd M 131 (Int.toNat 0))) then (m_X5_keepForBack_18 n n M (Int.toNat (rd M 131 (Int.toNat 0))) 1) else none)
theorem y_X5_keepForBack (n : Nat) (M : Mem) : Y RX5 cX5_keepForBack 3 2 3 none 0 [some (rv 130), none, none] [] M (m_X5_keepForBack n M) := by
  unfold m_X5_keepForBack
  refine y_aload_n (pc := 0) dX5_keepForBack_0 rfl ?_
  refine y_getint (pc := 1) g_X5_27 dX5_keepForBack_1 ?_
  refine y_bipush (pc := 4) dX5_keepForBack_4 (by decide) ?_
  refine y_icmp_lt (off := 52) (tgt := 58) (pc := 6) dX5_keepForBack_6 (by decide) (rd_rng _ _ _) (by decide) (fun h13 => ?_) (fun h13 => ?_)
  · exact y_sub (ls_s (ls_n (ls_n ls_0))) (t_X5_keepForBack_58 n M)
  · refine y_aload_n (pc := 9) dX5_keepForBack_9 rfl ?_
    refine y_getref (pc := 10) (x := 131) g_X5_23 dX5_keepForBack_10 ?_
    refine y_iconst (pc := 13) dX5_keepForBack_13 ?_
    refine y_aald (pc := 14) dX5_keepForBack_14 (by decide) ?_
    refine y_astore_n (L' := [some (rv 130), some (rv (Int.toNat (rd M 131 (Int.toNat 0)))), none]) (pc := 15) dX5_keepForBack_15 (by decide) rfl rfl ?_
    refine y_iconst (pc := 16) dX5_keepForBack_16 ?_
    refine y_istore_n (L' := [some (rv 130), some (rv (Int.toNat (rd M 131 (Int.toNat 0)))), some (iv 1)]) (pc := 17) dX5_keepForBack_17 (by decide) rfl rfl ?_
    refine y_gd (fun h14 => ?_)
    exact y_sub (ls_s (ls_s (ls_s ls_0))) (t_X5_keepForBack_18 n n M (Int.toNat (rd M 131 (Int.toNat 0))) 1 h14)
theorem c_X5_keepForBack (n : Nat) (M : Mem) : ∀ res : Int × Mem, m_X5_keepForBack n M = some res → CTv yX5_keepForBack cX5_keepForBack 3 2 [rv 130] M res := CTv_of (by decide +kernel) rfl (Nat.le_of_ble_eq_true rfl) rfl (y_X5_keepForBack n M)
def m_X5_outOfRange (n : Nat) (M : Mem) (a0 : Int) (a1 : Int) (a2 : Int) : Rs := if I32 a0 then (if I32 a1 then (if a1 ≤ a0 then (if I32 a2 then (if a0 ≤ a2 then (some (0, M)) else (some ((-6), M))) else none) else (some ((-4), M))) else none) else none
theorem y_X5_outOfRange (n : Nat) (M : Mem) (a0 : Int) (a1 : Int) (a2 : Int) : Y RX5 cX5_outOfRange 3 0 0 none 0 [some (iv a0), some (iv a1), some (iv a2)] [] M (m_X5_outOfRange n M a0 a1 a2) := by
  unfold m_X5_outOfRange
  refine y_iload_n (pc := 0) dX5_outOfRange_0 rfl ?_
  refine y_iload_n (pc := 1) dX5_outOfRange_1 rfl ?_
  refine y_gd (fun h1 => ?_)
  refine y_gd (fun h2 => ?_)
  refine y_icmp_ge (off := 6) (tgt := 8) (pc := 2) dX5_outOfRange_2 (by decide) h1 h2 (fun h3 => ?_) (fun h3 => ?_)
  · refine y_iload_n (pc := 8) dX5_outOfRange_8 rfl ?_
    refine y_iload_n (pc := 9) dX5_outOfRange_9 rfl ?_
    refine y_gd (fun h4 => ?_)
    refine y_icmp_le (off := 8) (tgt := 18) (pc := 10) dX5_outOfRange_10 (by decide) h1 h4 (fun h5 => ?_) (fun h5 => ?_)
    · refine y_iconst (pc := 18) dX5_outOfRange_18 ?_
      exact y_iret (pc := 19) dX5_outOfRange_19
    · refine y_bipush (pc := 13) dX5_outOfRange_13 (by decide) ?_
      refine y_goto (tgt := 19) (pc := 15) dX5_outOfRange_15 (by decide) ?_
      exact y_iret (pc := 19) dX5_outOfRange_19
  · refine y_bipush (pc := 5) dX5_outOfRange_5 (by decide) ?_
    exact y_iret (pc := 7) dX5_outOfRange_7
theorem c_X5_outOfRange (n : Nat) (M : Mem) (a0 : Int) (a1 : Int) (a2 : Int) : ∀ res : Int × Mem, m_X5_outOfRange n M a0 a1 a2 = some res → CTi yX5_outOfRange cX5_outOfRange 3 (some .int) 0 [iv a0, iv a1, iv a2] M res := CTi_of (by decide +kernel) rfl (Nat.le_of_ble_eq_true rfl) rfl (y_X5_outOfRange n M a0 a1 a2)
