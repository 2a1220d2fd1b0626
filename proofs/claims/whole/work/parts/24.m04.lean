def m_X5_letterAt (n : Nat) (M : Mem) (a1 : Int) : Rs := if I32 a1 then (if a1 < 0 then (some (0, M)) else (if 96 ≤ a1 then (some (0, M)) else (if 0 ≤ a1 ∧ a1 < 96 then (some ((rd M 132 (Int.toNat a1)), M)) else none))) else none
theorem y_X5_letterAt (n : Nat) (M : Mem) (a1 : Int) : Y RX5 cX5_letterAt 2 0 0 none 0 [some (rv 130), some (iv a1)] [] M (m_X5_letterAt n M a1) := by
  unfold m_X5_letterAt
  refine y_iload_n (pc := 0) dX5_letterAt_0 rfl ?_
  refine y_gd (fun h1 => ?_)
  refine y_if_lt (off := 18) (tgt := 19) (pc := 1) dX5_letterAt_1 (by decide) h1 (fun h2 => ?_) (fun h2 => ?_)
  · refine y_iconst (pc := 19) dX5_letterAt_19 ?_
    exact y_iret (pc := 20) dX5_letterAt_20
  · refine y_iload_n (pc := 4) dX5_letterAt_4 rfl ?_
    refine y_bipush (pc := 5) dX5_letterAt_5 (by decide) ?_
    refine y_icmp_ge (off := 12) (tgt := 19) (pc := 7) dX5_letterAt_7 (by decide) h1 (by decide) (fun h3 => ?_) (fun h3 => ?_)
    · refine y_iconst (pc := 19) dX5_letterAt_19 ?_
      exact y_iret (pc := 20) dX5_letterAt_20
    · refine y_aload_n (pc := 10) dX5_letterAt_10 rfl ?_
      refine y_getref (pc := 11) (x := 132) g_X5_31 dX5_letterAt_11 ?_
      refine y_iload_n (pc := 14) dX5_letterAt_14 rfl ?_
      refine y_gd (fun h4 => ?_)
      refine y_iald (pc := 15) dX5_letterAt_15 ar_132 h4 ?_
      refine y_goto (tgt := 20) (pc := 16) dX5_letterAt_16 (by decide) ?_
      exact y_iret (pc := 20) dX5_letterAt_20
theorem c_X5_letterAt (n : Nat) (M : Mem) (a1 : Int) : ∀ res : Int × Mem, m_X5_letterAt n M a1 = some res → CTi yX5_letterAt cX5_letterAt 2 (some .int) 0 [rv 130, iv a1] M res := CTi_of (by decide +kernel) rfl (Nat.le_of_ble_eq_true rfl) rfl (y_X5_letterAt n M a1)
def m_X5_digitAt (n : Nat) (M : Mem) (a1 : Int) : Rs := bd (m_X5_letterAt n M a1) (fun r2 M1 => some ((r2 - 48), M1))
theorem y_X5_digitAt (n : Nat) (M : Mem) (a1 : Int) : Y RX5 cX5_digitAt 2 1 0 none 0 [some (rv 130), some (iv a1)] [] M (m_X5_digitAt n M a1) := by
  unfold m_X5_digitAt
  refine y_aload_n (pc := 0) dX5_digitAt_0 rfl ?_
  refine y_iload_n (pc := 1) dX5_digitAt_1 rfl ?_
  refine y_callVi (pc := 2) v_X5_letterAt l_X5_75 dX5_digitAt_2 (c_X5_letterAt n _ _) rfl rc_X5 rfl (by decide) (by decide) (Nat.le_of_ble_eq_true rfl) (fun r2 M1 _ => ?_)
  refine y_bipush (pc := 5) dX5_digitAt_5 (by decide) ?_
  refine y_isub (pc := 7) dX5_digitAt_7 ?_
  exact y_iret (pc := 8) dX5_digitAt_8
theorem c_X5_digitAt (n : Nat) (M : Mem) (a1 : Int) : ∀ res : Int × Mem, m_X5_digitAt n M a1 = some res → CTi yX5_digitAt cX5_digitAt 2 (some .int) 1 [rv 130, iv a1] M res := CTi_of (by decide +kernel) rfl (Nat.le_of_ble_eq_true rfl) rfl (y_X5_digitAt n M a1)
def m_X5_twoDigitsAt (n : Nat) (M : Mem) (a1 : Int) : Rs := bd (m_X5_digitAt n M a1) (fun r2 M1 => bd (m_X5_digitAt n M1 (a1 + 1)) (fun r4 M3 => some (((10 * r2) + r4), M3)))
theorem y_X5_twoDigitsAt (n : Nat) (M : Mem) (a1 : Int) : Y RX5 cX5_twoDigitsAt 2 2 0 none 0 [some (rv 130), some (iv a1)] [] M (m_X5_twoDigitsAt n M a1) := by
  unfold m_X5_twoDigitsAt
  refine y_bipush (pc := 0) dX5_twoDigitsAt_0 (by decide) ?_
  refine y_aload_n (pc := 2) dX5_twoDigitsAt_2 rfl ?_
  refine y_iload_n (pc := 3) dX5_twoDigitsAt_3 rfl ?_
  refine y_callVi (pc := 4) v_X5_digitAt l_X5_90 dX5_twoDigitsAt_4 (c_X5_digitAt n _ _) rfl rc_X5 rfl (by decide) (by decide) (Nat.le_of_ble_eq_true rfl) (fun r2 M1 _ => ?_)
  refine y_imul (pc := 7) dX5_twoDigitsAt_7 ?_
  refine y_aload_n (pc := 8) dX5_twoDigitsAt_8 rfl ?_
  refine y_iload_n (pc := 9) dX5_twoDigitsAt_9 rfl ?_
  refine y_iconst (pc := 10) dX5_twoDigitsAt_10 ?_
  refine y_iadd (pc := 11) dX5_twoDigitsAt_11 ?_
  refine y_callVi (pc := 12) v_X5_digitAt l_X5_90 dX5_twoDigitsAt_12 (c_X5_digitAt n _ _) rfl rc_X5 rfl (by decide) (by decide) (Nat.le_of_ble_eq_true rfl) (fun r4 M3 _ => ?_)
  refine y_iadd (pc := 15) dX5_twoDigitsAt_15 ?_
  exact y_iret (pc := 16) dX5_twoDigitsAt_16
theorem c_X5_twoDigitsAt (n : Nat) (M : Mem) (a1 : Int) : ∀ res : Int × Mem, m_X5_twoDigitsAt n M a1 = some res → CTi yX5_twoDigitsAt cX5_twoDigitsAt 2 (some .int) 2 [rv 130, iv a1] M res := CTi_of (by decide +kernel) rfl (Nat.le_of_ble_eq_true rfl) rfl (y_X5_twoDigitsAt n M a1)
def m_X5_carriedOut_217 (n : Nat) (M : Mem) (s0 : Int) (s1 : Int) : Rs := bd (m_X4_setOwner n M 22 s1 s0) (fun r2 M1 => if r2 = 0 ∨ r2 = 1 then (some (r2, M1)) else none)
theorem t_X5_carriedOut_217 (n : Nat) (M : Mem) (s0 : Int) (s1 : Int) : Y RX5 cX5_carriedOut 6 5 1 none 217 [none, none, none, none, none, none] [iv s0, iv s1, rv 22] M (m_X5_carriedOut_217 n M s0 s1) := by
  unfold m_X5_carriedOut_217
  refine y_callVi (pc := 217) v_X4_setOwner l_X5_110 dX5_carriedOut_217 (c_X4_setOwner n _ _ _ _) rfl (rc_X4 (by decide)) rfl (by decide) (by decide) (Nat.le_of_ble_eq_true rfl) (fun r2 M1 _ => ?_)
  refine y_gd (fun h3 => ?_)
  exact y_zret (pc := 220) dX5_carriedOut_220 h3
def m_X5_carriedOut (n : Nat) (M : Mem) (a1 : Int) : Rs := bd (m_X5_digitAt n M (a1 + 1)) (fun r5 M4 => bd (m_X5_letterAt n M4 a1) (fun r7 M6 => if I32 r7 then (if r7 = 102 then (if I32 r5 then (if 7 ≤ r5 then (some (0, M6)) else (bd (m_X5_digitAt n M6 (a1 + 2)) (fun r13 M12 => bd (m_X5_digitAt n M12 (a1 + 3)) (fun r15 M14 => bd (m_X4_addFront n M14 22 r5 r13 r15) (fun r17 M16 => if I32 r17 then (if r17 = 0 then (some (0, M16)) else (some (1, M16))) else none))))) else none) else (if r7 = 103 then (some (0, M6)) else (if r7 = 104 then (bd (m_X5_twoDigitsAt n M6 (a1 + 1)) (fun r23 M22 => if I32 r23 then (if r23 < 1 then (some (0, M22)) else (if 60 < r23 then (some (0, M22)) else (if I32 ((rd M22 22 13) + r23) then (if ((rd M22 22 13) + r23) ≤ 999 then (bd (m_X0_goOn n M22 r23) (fun _ M29 => some (1, M29))) else (some (0, M22))) else none))) else none)) else (if r7 = 105 then (some (0, M6)) else (if r7 = 106 then (some (0, M6)) else (if r7 = 107 then (wr M6 22 14 r5 (fun M33 => if I32 r5 then (if r5 < 1 then (some (0, M33)) else (some (1, M33))) else none)) else (if r7 = 108 then (some (0, M6)) else (if r7 = 109 then (bd (m_X5_twoDigitsAt n M6 (a1 + 2)) (fun r39 M38 => bd (m_X4_setPlace n M38 22 r5 r39) (fun r41 M40 => if r41 = 0 ∨ r41 = 1 then (some (r41, M40)) else none))) else (if r7 = 110 then (some (0, M6)) else (if r7 = 111 then (bd (m_X5_digitAt n M6 (a1 + 2)) (fun r46 M45 => if I32 r46 then (if r46 = 9 then (m_X5_carriedOut_217 n M45 (-1) r5) else (m_X5_carriedOut_217 n M45 r46 r5)) else none)) else (if r7 = 112 then (if I32 r5 then (if 8 ≤ r5 then (some (0, M6)) else (bd (m_X5_digitAt n M6 (a1 + 2)) (fun r53 M52 => bd (m_X5_twoDigitsAt n M52 (a1 + 3)) (fun r55 M54 => bd (m_X4_addPerson n M54 22 r5 r53 r55) (fun r57 M56 => if I32 r57 then (if r57 = 0 then (some (0, M56)) else (some (1, M56))) else none))))) else none) else (if r7 = 113 then (some (0, M6)) else (if r7 = 114 then (some (0, M6)) else (if r7 = 115 then (some (0, M6)) else (if r7 = 116 then (bd (m_X5_twoDigitsAt n M6 (a1 + 2)) (fun r65 M64 => bd (m_X4_addThing n M64 22 r5 r65) (fun r67 M66 => if r67 = 0 ∨ r67 = 1 then (some (r67, M66)) else none))) else (some (0, M6))))))))))))))))) else none))
theorem y_X5_carriedOut (n : Nat) (M : Mem) (a1 : Int) : Y RX5 cX5_carriedOut 6 5 1 none 0 [some (rv 130), some (iv a1), none, none, none, none] [] M (m_X5_carriedOut n M a1) := by
  unfold m_X5_carriedOut
  refine y_aload_n (pc := 0) dX5_carriedOut_0 rfl ?_
  refine y_getref (pc := 1) (x := 129) g_X5_50 dX5_carriedOut_1 ?_
  refine y_getref (pc := 4) (x := 22) g_X5_81 dX5_carriedOut_4 ?_
  refine y_astore_n (L' := [some (rv 130), some (iv a1), some (rv 22), none, none, none]) (pc := 7) dX5_carriedOut_7 (by decide) rfl rfl ?_
  refine y_aload_n (pc := 8) dX5_carriedOut_8 rfl ?_
  refine y_iload_n (pc := 9) dX5_carriedOut_9 rfl ?_
  refine y_iconst (pc := 10) dX5_carriedOut_10 ?_
  refine y_iadd (pc := 11) dX5_carriedOut_11 ?_
  refine y_callVi (pc := 12) v_X5_digitAt l_X5_90 dX5_carriedOut_12 (c_X5_digitAt n _ _) rfl rc_X5 rfl (by decide) (by decide) (Nat.le_of_ble_eq_true rfl) (fun r5 M4 _ => ?_)
  refine y_istore_n (L' := [some (rv 130), some (iv a1), some (rv 22), some (iv r5), none, none]) (pc := 15) dX5_carriedOut_15 (by decide) rfl rfl ?_
  refine y_aload_n (pc := 16) dX5_carriedOut_16 rfl ?_
  refine y_iload_n (pc := 17) dX5_carriedOut_17 rfl ?_
  refine y_callVi (pc := 18) v_X5_letterAt l_X5_75 dX5_carriedOut_18 (c_X5_letterAt n _ _) rfl rc_X5 rfl (by decide) (by decide) (Nat.le_of_ble_eq_true rfl) (fun r7 M6 _ => ?_)
  refine y_gd (fun h8 => ?_)
  refine y_br (fun h9 => ?_) (fun h9 => ?_)
  · refine y_tableIn (off := 75) (tgt := 96) (pc := 21) dX5_carriedOut_21 h9 (by decide) (by decide) (by decide) rfl (by decide) ?_
    refine y_iload_n (pc := 96) dX5_carriedOut_96 rfl ?_
    refine y_bipush (pc := 97) dX5_carriedOut_97 (by decide) ?_
    refine y_gd (fun h10 => ?_)
    refine y_icmp_ge (off := 29) (tgt := 128) (pc := 99) dX5_carriedOut_99 (by decide) h10 (by decide) (fun h11 => ?_) (fun h11 => ?_)
    · refine y_iconst (pc := 128) dX5_carriedOut_128 ?_
      exact y_zret (pc := 129) dX5_carriedOut_129 (by decide)
    · refine y_aload_n (pc := 102) dX5_carriedOut_102 rfl ?_
      refine y_iload_n (pc := 103) dX5_carriedOut_103 rfl ?_
      refine y_aload_n (pc := 104) dX5_carriedOut_104 rfl ?_
      refine y_iload_n (pc := 105) dX5_carriedOut_105 rfl ?_
      refine y_iconst (pc := 106) dX5_carriedOut_106 ?_
      refine y_iadd (pc := 107) dX5_carriedOut_107 ?_
      refine y_callVi (pc := 108) v_X5_digitAt l_X5_90 dX5_carriedOut_108 (c_X5_digitAt n _ _) rfl rc_X5 rfl (by decide) (by decide) (Nat.le_of_ble_eq_true rfl) (fun r13 M12 _ => ?_)
      refine y_aload_n (pc := 111) dX5_carriedOut_111 rfl ?_
      refine y_iload_n (pc := 112) dX5_carriedOut_112 rfl ?_
      refine y_iconst (pc := 113) dX5_carriedOut_113 ?_
      refine y_iadd (pc := 114) dX5_carriedOut_114 ?_
      refine y_callVi (pc := 115) v_X5_digitAt l_X5_90 dX5_carriedOut_115 (c_X5_digitAt n _ _) rfl rc_X5 rfl (by decide) (by decide) (Nat.le_of_ble_eq_true rfl) (fun r15 M14 _ => ?_)
      refine y_callVi (pc := 118) v_X4_addFront l_X5_93 dX5_carriedOut_118 (c_X4_addFront n _ _ _ _ _) rfl (rc_X4 (by decide)) rfl (by decide) (by decide) (Nat.le_of_ble_eq_true rfl) (fun r17 M16 _ => ?_)
      refine y_gd (fun h18 => ?_)
      refine y_if_eq (off := 7) (tgt := 128) (pc := 121) dX5_carriedOut_121 (by decide) h18 (fun h19 => ?_) (fun h19 => ?_)
      · refine y_iconst (pc := 128) dX5_carriedOut_128 ?_
        exact y_zret (pc := 129) dX5_carriedOut_129 (by decide)
      · refine y_iconst (pc := 124) dX5_carriedOut_124 ?_
        refine y_goto (tgt := 129) (pc := 125) dX5_carriedOut_125 (by decide) ?_
        exact y_zret (pc := 129) dX5_carriedOut_129 (by decide)
  · refine y_br (fun h20 => ?_) (fun h20 => ?_)
    · refine y_tableIn (off := 261) (tgt := 282) (pc := 21) dX5_carriedOut_21 h20 (by decide) (by decide) (by decide) rfl (by decide) ?_
      refine y_iconst (pc := 282) dX5_carriedOut_282 ?_
      exact y_zret (pc := 283) dX5_carriedOut_283 (by decide)
    · refine y_br (fun h21 => ?_) (fun h21 => ?_)
      · refine y_tableIn (off := 213) (tgt := 234) (pc := 21) dX5_carriedOut_21 h21 (by decide) (by decide) (by decide) rfl (by decide) ?_
        refine y_aload_n (pc := 234) dX5_carriedOut_234 rfl ?_
        refine y_iload_n (pc := 235) dX5_carriedOut_235 rfl ?_
        refine y_iconst (pc := 236) dX5_carriedOut_236 ?_
        refine y_iadd (pc := 237) dX5_carriedOut_237 ?_
        refine y_callVi (pc := 238) v_X5_twoDigitsAt l_X5_97 dX5_carriedOut_238 (c_X5_twoDigitsAt n _ _) rfl rc_X5 rfl (by decide) (by decide) (Nat.le_of_ble_eq_true rfl) (fun r23 M22 _ => ?_)
        refine y_istore (L' := [some (rv 130), some (iv a1), some (rv 22), some (iv r5), none, some (iv r23)]) (pc := 241) dX5_carriedOut_241 (by decide) rfl rfl ?_
        refine y_iload (pc := 243) dX5_carriedOut_243 rfl ?_
        refine y_iconst (pc := 245) dX5_carriedOut_245 ?_
        refine y_gd (fun h24 => ?_)
        refine y_icmp_lt (off := 23) (tgt := 269) (pc := 246) dX5_carriedOut_246 (by decide) h24 (by decide) (fun h25 => ?_) (fun h25 => ?_)
        · refine y_iconst (pc := 269) dX5_carriedOut_269 ?_
          exact y_zret (pc := 270) dX5_carriedOut_270 (by decide)
        · refine y_iload (pc := 249) dX5_carriedOut_249 rfl ?_
          refine y_bipush (pc := 251) dX5_carriedOut_251 (by decide) ?_
          refine y_icmp_gt (off := 16) (tgt := 269) (pc := 253) dX5_carriedOut_253 (by decide) h24 (by decide) (fun h26 => ?_) (fun h26 => ?_)
          · refine y_iconst (pc := 269) dX5_carriedOut_269 ?_
            exact y_zret (pc := 270) dX5_carriedOut_270 (by decide)
          · refine y_aload_n (pc := 256) dX5_carriedOut_256 rfl ?_
            refine y_getint (pc := 257) (g_X5_116 (by decide)) dX5_carriedOut_257 ?_
            refine y_iload (pc := 260) dX5_carriedOut_260 rfl ?_
            refine y_iadd (pc := 262) dX5_carriedOut_262 ?_
            refine y_sipush (pc := 263) dX5_carriedOut_263 (by decide) ?_
            refine y_gd (fun h27 => ?_)
            refine y_icmp_le (off := 5) (tgt := 271) (pc := 266) dX5_carriedOut_266 (by decide) h27 (by decide) (fun h28 => ?_) (fun h28 => ?_)
            · refine y_aload_n (pc := 271) dX5_carriedOut_271 rfl ?_
              refine y_getref (pc := 272) (x := 129) g_X5_50 dX5_carriedOut_272 ?_
              refine y_iload (pc := 275) dX5_carriedOut_275 rfl ?_
              refine y_callVv (pc := 277) v_X0_goOn l_X5_119 dX5_carriedOut_277 (c_X0_goOn n _ _) rfl rc_X0 rfl (by decide) (by decide) (Nat.le_of_ble_eq_true rfl) (fun _ M29 _ => ?_)
              refine y_iconst (pc := 280) dX5_carriedOut_280 ?_
              exact y_zret (pc := 281) dX5_carriedOut_281 (by decide)
            · refine y_iconst (pc := 269) dX5_carriedOut_269 ?_
              exact y_zret (pc := 270) dX5_carriedOut_270 (by decide)
      · refine y_br (fun h30 => ?_) (fun h30 => ?_)
        · refine y_tableIn (off := 261) (tgt := 282) (pc := 21) dX5_carriedOut_21 h30 (by decide) (by decide) (by decide) rfl (by decide) ?_
          refine y_iconst (pc := 282) dX5_carriedOut_282 ?_
          exact y_zret (pc := 283) dX5_carriedOut_283 (by decide)
        · refine y_br (fun h31 => ?_) (fun h31 => ?_)
          · refine y_tableIn (off := 261) (tgt := 282) (pc := 21) dX5_carriedOut_21 h31 (by decide) (by decide) (by decide) rfl (by decide) ?_
            refine y_iconst (pc := 282) dX5_carriedOut_282 ?_
            exact y_zret (pc := 283) dX5_carriedOut_283 (by decide)
          · refine y_br (fun h32 => ?_) (fun h32 => ?_)
            · refine y_tableIn (off := 156) (tgt := 177) (pc := 21) dX5_carriedOut_21 h32 (by decide) (by decide) (by decide) rfl (by decide) ?_
              refine y_aload_n (pc := 177) dX5_carriedOut_177 rfl ?_
              refine y_iload_n (pc := 178) dX5_carriedOut_178 rfl ?_
              refine y_putintw (pc := 179) (pf_X5_107 (by decide)) dX5_carriedOut_179 (fun M33 => ?_)
              refine y_iload_n (pc := 182) dX5_carriedOut_182 rfl ?_
              refine y_iconst (pc := 183) dX5_carriedOut_183 ?_
              refine y_gd (fun h34 => ?_)
              refine y_icmp_lt (off := 7) (tgt := 191) (pc := 184) dX5_carriedOut_184 (by decide) h34 (by decide) (fun h35 => ?_) (fun h35 => ?_)
              · refine y_iconst (pc := 191) dX5_carriedOut_191 ?_
                exact y_zret (pc := 192) dX5_carriedOut_192 (by decide)
              · refine y_iconst (pc := 187) dX5_carriedOut_187 ?_
                refine y_goto (tgt := 192) (pc := 188) dX5_carriedOut_188 (by decide) ?_
                exact y_zret (pc := 192) dX5_carriedOut_192 (by decide)
            · refine y_br (fun h36 => ?_) (fun h36 => ?_)
              · refine y_tableIn (off := 261) (tgt := 282) (pc := 21) dX5_carriedOut_21 h36 (by decide) (by decide) (by decide) rfl (by decide) ?_
                refine y_iconst (pc := 282) dX5_carriedOut_282 ?_
                exact y_zret (pc := 283) dX5_carriedOut_283 (by decide)
              · refine y_br (fun h37 => ?_) (fun h37 => ?_)
                · refine y_tableIn (off := 200) (tgt := 221) (pc := 21) dX5_carriedOut_21 h37 (by decide) (by decide) (by decide) rfl (by decide) ?_
                  refine y_aload_n (pc := 221) dX5_carriedOut_221 rfl ?_
                  refine y_iload_n (pc := 222) dX5_carriedOut_222 rfl ?_
                  refine y_aload_n (pc := 223) dX5_carriedOut_223 rfl ?_
                  refine y_iload_n (pc := 224) dX5_carriedOut_224 rfl ?_
                  refine y_iconst (pc := 225) dX5_carriedOut_225 ?_
                  refine y_iadd (pc := 226) dX5_carriedOut_226 ?_
                  refine y_callVi (pc := 227) v_X5_twoDigitsAt l_X5_97 dX5_carriedOut_227 (c_X5_twoDigitsAt n _ _) rfl rc_X5 rfl (by decide) (by decide) (Nat.le_of_ble_eq_true rfl) (fun r39 M38 _ => ?_)
                  refine y_callVi (pc := 230) v_X4_setPlace l_X5_113 dX5_carriedOut_230 (c_X4_setPlace n _ _ _ _) rfl (rc_X4 (by decide)) rfl (by decide) (by decide) (Nat.le_of_ble_eq_true rfl) (fun r41 M40 _ => ?_)
                  refine y_gd (fun h42 => ?_)
                  exact y_zret (pc := 233) dX5_carriedOut_233 h42
                · refine y_br (fun h43 => ?_) (fun h43 => ?_)
                  · refine y_tableIn (off := 261) (tgt := 282) (pc := 21) dX5_carriedOut_21 h43 (by decide) (by decide) (by decide) rfl (by decide) ?_
                    refine y_iconst (pc := 282) dX5_carriedOut_282 ?_
                    exact y_zret (pc := 283) dX5_carriedOut_283 (by decide)
                  · refine y_br (fun h44 => ?_) (fun h44 => ?_)
                    · refine y_tableIn (off := 172) (tgt := 193) (pc := 21) dX5_carriedOut_21 h44 (by decide) (by decide) (by decide) rfl (by decide) ?_
                      refine y_aload_n (pc := 193) dX5_carriedOut_193 rfl ?_
                      refine y_iload_n (pc := 194) dX5_carriedOut_194 rfl ?_
                      refine y_iconst (pc := 195) dX5_carriedOut_195 ?_
                      refine y_iadd (pc := 196) dX5_carriedOut_196 ?_
                      refine y_callVi (pc := 197) v_X5_digitAt l_X5_90 dX5_carriedOut_197 (c_X5_digitAt n _ _) rfl rc_X5 rfl (by decide) (by decide) (Nat.le_of_ble_eq_true rfl) (fun r46 M45 _ => ?_)
                      refine y_istore (L' := [some (rv 130), some (iv a1), some (rv 22), some (iv r5), some (iv r46), none]) (pc := 200) dX5_carriedOut_200 (by decide) rfl rfl ?_
                      refine y_aload_n (pc := 202) dX5_carriedOut_202 rfl ?_
                      refine y_iload_n (pc := 203) dX5_carriedOut_203 rfl ?_
                      refine y_iload (pc := 204) dX5_carriedOut_204 rfl ?_
                      refine y_bipush (pc := 206) dX5_carriedOut_206 (by decide) ?_
                      refine y_gd (fun h47 => ?_)
                      refine y_icmp_ne (off := 7) (tgt := 215) (pc := 208) dX5_carriedOut_208 (by decide) h47 (by decide) (fun h48 => ?_) (fun h48 => ?_)
                      · refine y_iload (pc := 215) dX5_carriedOut_215 rfl ?_
                        exact y_sub (ls_n (ls_n (ls_n (ls_n (ls_n (ls_n ls_0)))))) (t_X5_carriedOut_217 n M45 r46 r5)
                      · refine y_iconst (pc := 211) dX5_carriedOut_211 ?_
                        refine y_goto (tgt := 217) (pc := 212) dX5_carriedOut_212 (by decide) ?_
                        exact y_sub (ls_n (ls_n (ls_n (ls_n (ls_n (ls_n ls_0)))))) (t_X5_carriedOut_217 n M45 (-1) r5)
                    · refine y_br (fun h49 => ?_) (fun h49 => ?_)
                      · refine y_tableIn (off := 109) (tgt := 130) (pc := 21) dX5_carriedOut_21 h49 (by decide) (by decide) (by decide) rfl (by decide) ?_
                        refine y_iload_n (pc := 130) dX5_carriedOut_130 rfl ?_
                        refine y_bipush (pc := 131) dX5_carriedOut_131 (by decide) ?_
                        refine y_gd (fun h50 => ?_)
                        refine y_icmp_ge (off := 29) (tgt := 162) (pc := 133) dX5_carriedOut_133 (by decide) h50 (by decide) (fun h51 => ?_) (fun h51 => ?_)
                        · refine y_iconst (pc := 162) dX5_carriedOut_162 ?_
                          exact y_zret (pc := 163) dX5_carriedOut_163 (by decide)
                        · refine y_aload_n (pc := 136) dX5_carriedOut_136 rfl ?_
                          refine y_iload_n (pc := 137) dX5_carriedOut_137 rfl ?_
                          refine y_aload_n (pc := 138) dX5_carriedOut_138 rfl ?_
                          refine y_iload_n (pc := 139) dX5_carriedOut_139 rfl ?_
                          refine y_iconst (pc := 140) dX5_carriedOut_140 ?_
                          refine y_iadd (pc := 141) dX5_carriedOut_141 ?_
                          refine y_callVi (pc := 142) v_X5_digitAt l_X5_90 dX5_carriedOut_142 (c_X5_digitAt n _ _) rfl rc_X5 rfl (by decide) (by decide) (Nat.le_of_ble_eq_true rfl) (fun r53 M52 _ => ?_)
                          refine y_aload_n (pc := 145) dX5_carriedOut_145 rfl ?_
                          refine y_iload_n (pc := 146) dX5_carriedOut_146 rfl ?_
                          refine y_iconst (pc := 147) dX5_carriedOut_147 ?_
                          refine y_iadd (pc := 148) dX5_carriedOut_148 ?_
                          refine y_callVi (pc := 149) v_X5_twoDigitsAt l_X5_97 dX5_carriedOut_149 (c_X5_twoDigitsAt n _ _) rfl rc_X5 rfl (by decide) (by decide) (Nat.le_of_ble_eq_true rfl) (fun r55 M54 _ => ?_)
                          refine y_callVi (pc := 152) v_X4_addPerson l_X5_100 dX5_carriedOut_152 (c_X4_addPerson n _ _ _ _ _) rfl (rc_X4 (by decide)) rfl (by decide) (by decide) (Nat.le_of_ble_eq_true rfl) (fun r57 M56 _ => ?_)
                          refine y_gd (fun h58 => ?_)
                          refine y_if_eq (off := 7) (tgt := 162) (pc := 155) dX5_carriedOut_155 (by decide) h58 (fun h59 => ?_) (fun h59 => ?_)
                          · refine y_iconst (pc := 162) dX5_carriedOut_162 ?_
                            exact y_zret (pc := 163) dX5_carriedOut_163 (by decide)
                          · refine y_iconst (pc := 158) dX5_carriedOut_158 ?_
                            refine y_goto (tgt := 163) (pc := 159) dX5_carriedOut_159 (by decide) ?_
                            exact y_zret (pc := 163) dX5_carriedOut_163 (by decide)
                      · refine y_br (fun h60 => ?_) (fun h60 => ?_)
                        · refine y_tableIn (off := 261) (tgt := 282) (pc := 21) dX5_carriedOut_21 h60 (by decide) (by decide) (by decide) rfl (by decide) ?_
                          refine y_iconst (pc := 282) dX5_carriedOut_282 ?_
                          exact y_zret (pc := 283) dX5_carriedOut_283 (by decide)
                        · refine y_br (fun h61 => ?_) (fun h61 => ?_)
                          · refine y_tableIn (off := 261) (tgt := 282) (pc := 21) dX5_carriedOut_21 h61 (by decide) (by decide) (by decide) rfl (by decide) ?_
                            refine y_iconst (pc := 282) dX5_carriedOut_282 ?_
                            exact y_zret (pc := 283) dX5_carriedOut_283 (by decide)
                          · refine y_br (fun h62 => ?_) (fun h62 => ?_)
                            · refine y_tableIn (off := 261) (tgt := 282) (pc := 21) dX5_carriedOut_21 h62 (by decide) (by decide) (by decide) rfl (by decide) ?_
                              refine y_iconst (pc := 282) dX5_carriedOut_282 ?_
                              exact y_zret (pc := 283) dX5_carriedOut_283 (by decide)
                            · refine y_br (fun h63 => ?_) (fun h63 => ?_)
                              · refine y_tableIn (off := 143) (tgt := 164) (pc := 21) dX5_carriedOut_21 h63 (by decide) (by decide) (by decide) rfl (by decide) ?_
                                refine y_aload_n (pc := 164) dX5_carriedOut_164 rfl ?_
                                refine y_iload_n (pc := 165) dX5_carriedOut_165 rfl ?_
                                refine y_aload_n (pc := 166) dX5_carriedOut_166 rfl ?_
                                refine y_iload_n (pc := 167) dX5_carriedOut_167 rfl ?_
                                refine y_iconst (pc := 168) dX5_carriedOut_168 ?_
                                refine y_iadd (pc := 169) dX5_carriedOut_169 ?_
                                refine y_callVi (pc := 170) v_X5_twoDigitsAt l_X5_97 dX5_carriedOut_170 (c_X5_twoDigitsAt n _ _) rfl rc_X5 rfl (by decide) (by decide) (Nat.le_of_ble_eq_true rfl) (fun r65 M64 _ => ?_)
                                refine y_callVi (pc := 173) v_X4_addThing l_X5_103 dX5_carriedOut_173 (c_X4_addThing n _ _ _ _) rfl (rc_X4 (by decide)) rfl (by decide) (by decide) (Nat.le_of_ble_eq_true rfl) (fun r67 M66 _ => ?_)
                                refine y_gd (fun h68 => ?_)
                                exact y_zret (pc := 176) dX5_carriedOut_176 h68
                              · refine y_tableOut (tgt := 282) (pc := 21) dX5_carriedOut_21 h8 (by omega) (by decide) ?_
                                refine y_iconst (pc := 282) dX5_carriedOut_282 ?_
                                exact y_zret (pc := 283) dX5_carriedOut_283 (by decide)
theorem c_X5_carriedOut (n : Nat) (M : Mem) (a1 : Int) : ∀ res : Int × Mem, m_X5_carriedOut n M a1 = some res → CTi yX5_carriedOut cX5_carriedOut 6 (some .boolean) 5 [rv 130, iv a1] M res := CTz_of (by decide +kernel) rfl (Nat.le_of_ble_eq_true rfl) rfl (y_X5_carriedOut n M a1)
def m_X5_digitsBehind (n : Nat) (M : Mem) (a0 : Int) : Rs := if I32 a0 then (if a0 = 102 then (some (3, M)) else (if a0 = 103 then (some ((-1), M)) else (if a0 = 104 then (some (2, M)) else (if a0 = 105 then (some ((-1), M)) else (if a0 = 106 then (some ((-1), M)) else (if a0 = 107 then (some (1, M)) else (if a0 = 108 then (some ((-1), M)) else (if a0 = 109 then (some (3, M)) else (if a0 = 110 then (some ((-1), M)) else (if a0 = 111 then (some (2, M)) else (if a0 = 112 then (some (4, M)) else (if a0 = 113 then (some ((-1), M)) else (if a0 = 114 then (some ((-1), M)) else (if a0 = 115 then (some ((-1), M)) else (if a0 = 116 then (some (3, M)) else (some ((-1), M))))))))))))))))) else none
theorem y_X5_digitsBehind (n : Nat) (M : Mem) (a0 : Int) : Y RX5 cX5_digitsBehind 1 0 0 none 0 [some (iv a0)] [] M (m_X5_digitsBehind n M a0) := by
  unfold m_X5_digitsBehind
  refine y_iload_n (pc := 0) dX5_digitsBehind_0 rfl ?_
  refine y_gd (fun h1 => ?_)
  refine y_br (fun h2 => ?_) (fun h2 => ?_)
  · refine y_tableIn (off := 75) (tgt := 76) (pc := 1) dX5_digitsBehind_1 h2 (by decide) (by decide) (by decide) rfl (by decide) ?_
    refine y_iconst (pc := 76) dX5_digitsBehind_76 ?_
    exact y_iret (pc := 77) dX5_digitsBehind_77
  · refine y_br (fun h3 => ?_) (fun h3 => ?_)
    · refine y_tableIn (off := 89) (tgt := 90) (pc := 1) dX5_digitsBehind_1 h3 (by decide) (by decide) (by decide) rfl (by decide) ?_
      refine y_iconst (pc := 90) dX5_digitsBehind_90 ?_
      exact y_iret (pc := 91) dX5_digitsBehind_91
    · refine y_br (fun h4 => ?_) (fun h4 => ?_)
      · refine y_tableIn (off := 87) (tgt := 88) (pc := 1) dX5_digitsBehind_1 h4 (by decide) (by decide) (by decide) rfl (by decide) ?_
        refine y_iconst (pc := 88) dX5_digitsBehind_88 ?_
        exact y_iret (pc := 89) dX5_digitsBehind_89
      · refine y_br (fun h5 => ?_) (fun h5 => ?_)
        · refine y_tableIn (off := 89) (tgt := 90) (pc := 1) dX5_digitsBehind_1 h5 (by decide) (by decide) (by decide) rfl (by decide) ?_
          refine y_iconst (pc := 90) dX5_digitsBehind_90 ?_
          exact y_iret (pc := 91) dX5_digitsBehind_91
        · refine y_br (fun h6 => ?_) (fun h6 => ?_)
          · refine y_tableIn (off := 89) (tgt := 90) (pc := 1) dX5_digitsBehind_1 h6 (by decide) (by decide) (by decide) rfl (by decide) ?_
            refine y_iconst (pc := 90) dX5_digitsBehind_90 ?_
            exact y_iret (pc := 91) dX5_digitsBehind_91
          · refine y_br (fun h7 => ?_) (fun h7 => ?_)
            · refine y_tableIn (off := 81) (tgt := 82) (pc := 1) dX5_digitsBehind_1 h7 (by decide) (by decide) (by decide) rfl (by decide) ?_
              refine y_iconst (pc := 82) dX5_digitsBehind_82 ?_
              exact y_iret (pc := 83) dX5_digitsBehind_83
            · refine y_br (fun h8 => ?_) (fun h8 => ?_)
              · refine y_tableIn (off := 89) (tgt := 90) (pc := 1) dX5_digitsBehind_1 h8 (by decide) (by decide) (by decide) rfl (by decide) ?_
                refine y_iconst (pc := 90) dX5_digitsBehind_90 ?_
                exact y_iret (pc := 91) dX5_digitsBehind_91
              · refine y_br (fun h9 => ?_) (fun h9 => ?_)
                · refine y_tableIn (off := 85) (tgt := 86) (pc := 1) dX5_digitsBehind_1 h9 (by decide) (by decide) (by decide) rfl (by decide) ?_
                  refine y_iconst (pc := 86) dX5_digitsBehind_86 ?_
                  exact y_iret (pc := 87) dX5_digitsBehind_87
                · refine y_br (fun h10 => ?_) (fun h10 => ?_)
                  · refine y_tableIn (off := 89) (tgt := 90) (pc := 1) dX5_digitsBehind_1 h10 (by decide) (by decide) (by decide) rfl (by decide) ?_
                    refine y_iconst (pc := 90) dX5_digitsBehind_90 ?_
                    exact y_iret (pc := 91) dX5_digitsBehind_91
                  · refine y_br (fun h11 => ?_) (fun h11 => ?_)
                    · refine y_tableIn (off := 83) (tgt := 84) (pc := 1) dX5_digitsBehind_1 h11 (by decide) (by decide) (by decide) rfl (by decide) ?_
                      refine y_iconst (pc := 84) dX5_digitsBehind_84 ?_
                      exact y_iret (pc := 85) dX5_digitsBehind_85
                    · refine y_br (fun h12 => ?_) (fun h12 => ?_)
                      · refine y_tableIn (off := 77) (tgt := 78) (pc := 1) dX5_digitsBehind_1 h12 (by decide) (by decide) (by decide) rfl (by decide) ?_
                        refine y_iconst (pc := 78) dX5_digitsBehind_78 ?_
                        exact y_iret (pc := 79) dX5_digitsBehind_79
                      · refine y_br (fun h13 => ?_) (fun h13 => ?_)
                        · refine y_tableIn (off := 89) (tgt := 90) (pc := 1) dX5_digitsBehind_1 h13 (by decide) (by decide) (by decide) rfl (by decide) ?_
                          refine y_iconst (pc := 90) dX5_digitsBehind_90 ?_
                          exact y_iret (pc := 91) dX5_digitsBehind_91
                        · refine y_br (fun h14 => ?_) (fun h14 => ?_)
                          · refine y_tableIn (off := 89) (tgt := 90) (pc := 1) dX5_digitsBehind_1 h14 (by decide) (by decide) (by decide) rfl (by decide) ?_
                            refine y_iconst (pc := 90) dX5_digitsBehind_90 ?_
                            exact y_iret (pc := 91) dX5_digitsBehind_91
                          · refine y_br (fun h15 => ?_) (fun h15 => ?_)
                            · refine y_tableIn (off := 89) (tgt := 90) (pc := 1) dX5_digitsBehind_1 h15 (by decide) (by decide) (by decide) rfl (by decide) ?_
                              refine y_iconst (pc := 90) dX5_digitsBehind_90 ?_
                              exact y_iret (pc := 91) dX5_digitsBehind_91
                            · refine y_br (fun h16 => ?_) (fun h16 => ?_)
                              · refine y_tableIn (off := 79) (tgt := 80) (pc := 1) dX5_digitsBehind_1 h16 (by decide) (by decide) (by decide) rfl (by decide) ?_
                                refine y_iconst (pc := 80) dX5_digitsBehind_80 ?_
                                exact y_iret (pc := 81) dX5_digitsBehind_81
                              · refine y_tableOut (tgt := 90) (pc := 1) dX5_digitsBehind_1 h1 (by omega) (by decide) ?_
                                refine y_iconst (pc := 90) dX5_digitsBehind_90 ?_
                                exact y_iret (pc := 91) dX5_digitsBehind_91
theorem c_X5_digitsBehind (n : Nat) (M : Mem) (a0 : Int) : ∀ res : Int × Mem, m_X5_digitsBehind n M a0 = some res → CTi yX5_digitsBehind cX5_digitsBehind 1 (some .int) 0 [iv a0] M res := CTi_of (by decide +kernel) rfl (Nat.le_of_ble_eq_true rfl) rfl (y_X5_digitsBehind n M a0)
def m_X5_isDigit (n : Nat) (M : Mem) (a0 : Int) : Rs := if I32 a0 then (if a0 < 48 then (some (0, M)) else (if 57 < a0 then (some (0, M)) else (some (1, M)))) else none
theorem y_X5_isDigit (n : Nat) (M : Mem) (a0 : Int) : Y RX5 cX5_isDigit 1 0 1 none 0 [some (iv a0)] [] M (m_X5_isDigit n M a0) := by
  unfold m_X5_isDigit
  refine y_iload_n (pc := 0) dX5_isDigit_0 rfl ?_
  refine y_bipush (pc := 1) dX5_isDigit_1 (by decide) ?_
  refine y_gd (fun h1 => ?_)
  refine y_icmp_lt (off := 13) (tgt := 16) (pc := 3) dX5_isDigit_3 (by decide) h1 (by decide) (fun h2 => ?_) (fun h2 => ?_)
  · refine y_iconst (pc := 16) dX5_isDigit_16 ?_
    exact y_zret (pc := 17) dX5_isDigit_17 (by decide)
  · refine y_iload_n (pc := 6) dX5_isDigit_6 rfl ?_
    refine y_bipush (pc := 7) dX5_isDigit_7 (by decide) ?_
    refine y_icmp_gt (off := 7) (tgt := 16) (pc := 9) dX5_isDigit_9 (by decide) h1 (by decide) (fun h3 => ?_) (fun h3 => ?_)
    · refine y_iconst (pc := 16) dX5_isDigit_16 ?_
      exact y_zret (pc := 17) dX5_isDigit_17 (by decide)
    · refine y_iconst (pc := 12) dX5_isDigit_12 ?_
      refine y_goto (tgt := 17) (pc := 13) dX5_isDigit_13 (by decide) ?_
      exact y_zret (pc := 17) dX5_isDigit_17 (by decide)
theorem c_X5_isDigit (n : Nat) (M : Mem) (a0 : Int) : ∀ res : Int × Mem, m_X5_isDigit n M a0 = some res → CTi yX5_isDigit cX5_isDigit 1 (some .boolean) 0 [iv a0] M res := CTz_of (by decide +kernel) rfl (Nat.le_of_ble_eq_true rfl) rfl (y_X5_isDigit n M a0)
def m_X5_wrongLetter_31 (n : Nat) (k8 : Mem → Int → Int → Rs) : Nat → Mem → Int → Int → Int → Int → Rs
  | 0, _, _, _, _, _ => none
  | t + 1, M, a1, a2, a3, a4 => if I32 a4 then (if I32 a3 then (if a3 < a4 then (if I32 ((a2 + a3) + 1) then (if I32 a1 then (if ((a2 + a3) + 1) < a1 then (bd (m_X5_letterAt n M ((a2 + a3) + 1)) (fun r8 M7 => if I32 r8 then (if r8 = 59 then (k8 M7 a1 (((a2 + a3) + 1) + 1)) else (some (((a2 + a3) + 1), M7))) else none)) else (some (a1, M))) else none) else none) else (if I32 (a2 + a4) then (if I32 a1 then (if (a2 + a4) < a1 then (bd (m_X5_letterAt n M (a2 + a4)) (fun r15 M14 => bd (m_X5_isDigit n M14 r15) (fun r17 M16 => if I32 r17 then (if r17 = 0 then (some ((a2 + a4), M16)) else ((m_X5_wrongLetter_31 n k8 t) M16 a1 a2 a3 (a4 + 1))) else none))) else (some (a1, M))) else none) else none)) else none) else none
theorem t_X5_wrongLetter_31 (n : Nat) (k8 : Mem → Int → Int → Rs) (hk8 : ∀ (M : Mem) (a1 : Int) (a2 : Int), Y RX5 cX5_wrongLetter 5 1 0 none 8 [some (rv 130), some (iv a1), some (iv a2), none, none] [] M (k8 M a1 a2)) : ∀ (t : Nat) (M : Mem) (a1 : Int) (a2 : Int) (a3 : Int) (a4 : Int), Y RX5 cX5_wrongLetter 5 1 0 none 31 [some (rv 130), some (iv a1), some (iv a2), some (iv a3), some (iv a4)] [] M (m_X5_wrongLetter_31 n k8 t M a1 a2 a3 a4) := by
  intro t
  induction t with
  | zero => intro M a1 a2 a3 a4; exact y_none
  | succ t ih =>
    intro M a1 a2 a3 a4
    rewrite [m_X5_wrongLetter_31]
    refine y_iload (pc := 31) dX5_wrongLetter_31 rfl ?_
    refine y_iload_n (pc := 33) dX5_wrongLetter_33 rfl ?_
    refine y_gd (fun h1 => ?_)
    refine y_gd (fun h2 => ?_)
    refine y_icmp_gt (off := 38) (tgt := 72) (pc := 34) dX5_wrongLetter_34 (by decide) h1 h2 (fun h3 => ?_) (fun h3 => ?_)
    · refine y_iload_n (pc := 72) dX5_wrongLetter_72 rfl ?_
      refine y_iload_n (pc := 73) dX5_wrongLetter_73 rfl ?_
      refine y_iadd (pc := 74) dX5_wrongLetter_74 ?_
      refine y_iconst (pc := 75) dX5_wrongLetter_75 ?_
      refine y_iadd (pc := 76) dX5_wrongLetter_76 ?_
      refine y_istore (L' := [some (rv 130), some (iv a1), some (iv a2), some (iv a3), some (iv ((a2 + a3) + 1))]) (pc := 77) dX5_wrongLetter_77 (by decide) rfl rfl ?_
      refine y_iload (pc := 79) dX5_wrongLetter_79 rfl ?_
      refine y_iload_n (pc := 81) dX5_wrongLetter_81 rfl ?_
      refine y_gd (fun h4 => ?_)
      refine y_gd (fun h5 => ?_)
      refine y_icmp_lt (off := 5) (tgt := 87) (pc := 82) dX5_wrongLetter_82 (by decide) h4 h5 (fun h6 => ?_) (fun h6 => ?_)
      · refine y_aload_n (pc := 87) dX5_wrongLetter_87 rfl ?_
        refine y_iload (pc := 88) dX5_wrongLetter_88 rfl ?_
        refine y_callVi (pc := 90) v_X5_letterAt l_X5_75 dX5_wrongLetter_90 (c_X5_letterAt n _ _) rfl rc_X5 rfl (by decide) (by decide) (Nat.le_of_ble_eq_true rfl) (fun r8 M7 _ => ?_)
        refine y_bipush (pc := 93) dX5_wrongLetter_93 (by decide) ?_
        refine y_gd (fun h9 => ?_)
        refine y_icmp_eq (off := 6) (tgt := 101) (pc := 95) dX5_wrongLetter_95 (by decide) h9 (by decide) (fun h10 => ?_) (fun h10 => ?_)
        · refine y_iload (pc := 101) dX5_wrongLetter_101 rfl ?_
          refine y_iconst (pc := 103) dX5_wrongLetter_103 ?_
          refine y_iadd (pc := 104) dX5_wrongLetter_104 ?_
          refine y_istore_n (L' := [some (rv 130), some (iv a1), some (iv (((a2 + a3) + 1) + 1)), some (iv a3), some (iv ((a2 + a3) + 1))]) (pc := 105) dX5_wrongLetter_105 (by decide) rfl rfl ?_
          refine y_goto (tgt := 8) (pc := 106) dX5_wrongLetter_106 (by decide) ?_
          exact y_sub (ls_s (ls_s (ls_s (ls_n (ls_n ls_0))))) (hk8 M7 a1 (((a2 + a3) + 1) + 1))
        · refine y_iload (pc := 98) dX5_wrongLetter_98 rfl ?_
          exact y_iret (pc := 100) dX5_wrongLetter_100
      · refine y_iload_n (pc := 85) dX5_wrongLetter_85 rfl ?_
        exact y_iret (pc := 86) dX5_wrongLetter_86
    · refine y_iload_n (pc := 37) dX5_wrongLetter_37 rfl ?_
      refine y_iload (pc := 38) dX5_wrongLetter_38 rfl ?_
      refine y_iadd (pc := 40) dX5_wrongLetter_40 ?_
      refine y_iload_n (pc := 41) dX5_wrongLetter_41 rfl ?_
      refine y_gd (fun h11 => ?_)
      refine y_gd (fun h12 => ?_)
      refine y_icmp_lt (off := 5) (tgt := 47) (pc := 42) dX5_wrongLetter_42 (by decide) h11 h12 (fun h13 => ?_) (fun h13 => ?_)
      · refine y_aload_n (pc := 47) dX5_wrongLetter_47 rfl ?_
        refine y_iload_n (pc := 48) dX5_wrongLetter_48 rfl ?_
        refine y_iload (pc := 49) dX5_wrongLetter_49 rfl ?_
        refine y_iadd (pc := 51) dX5_wrongLetter_51 ?_
        refine y_callVi (pc := 52) v_X5_letterAt l_X5_75 dX5_wrongLetter_52 (c_X5_letterAt n _ _) rfl rc_X5 rfl (by decide) (by decide) (Nat.le_of_ble_eq_true rfl) (fun r15 M14 _ => ?_)
        refine y_callSi (pc := 55) s_X5_isDigit l_X5_87 dX5_wrongLetter_55 (c_X5_isDigit n _ _) rfl rfl (by decide) (by decide) (Nat.le_of_ble_eq_true rfl) (fun r17 M16 _ => ?_)
        refine y_gd (fun h18 => ?_)
        refine y_if_ne (off := 8) (tgt := 66) (pc := 58) dX5_wrongLetter_58 (by decide) h18 (fun h19 => ?_) (fun h19 => ?_)
        · refine y_iinc (L' := [some (rv 130), some (iv a1), some (iv a2), some (iv a3), some (iv (a4 + 1))]) (pc := 66) dX5_wrongLetter_66 rfl (by decide) rfl rfl ?_
          refine y_goto (tgt := 31) (pc := 69) dX5_wrongLetter_69 (by decide) ?_
          exact y_sub (ls_s (ls_s (ls_s (ls_s (ls_s ls_0))))) (ih M16 a1 a2 a3 (a4 + 1))
        · refine y_iload_n (pc := 61) dX5_wrongLetter_61 rfl ?_
          refine y_iload (pc := 62) dX5_wrongLetter_62 rfl ?_
          refine y_iadd (pc := 64) dX5_wrongLetter_64 ?_
          exact y_iret (pc := 65) dX5_wrongLetter_65
      · refine y_iload_n (pc := 45) dX5_wrongLetter_45 rfl ?_
        exact y_iret (pc := 46) dX5_wrongLetter_46
def m_X5_wrongLetter_8 (n : Nat) : Nat → Mem → Int → Int → Rs
  | 0, _, _, _ => none
  | t + 1, M, a1, a2 => if I32 a2 then (if I32 a1 then (if a1 ≤ a2 then (some ((-1), M)) else (bd (m_X5_letterAt n M a2) (fun r24 M23 => bd (m_X5_digitsBehind n M23 r24) (fun r26 M25 => if I32 r26 then (if 0 < r26 then (m_X5_wrongLetter_31 n (m_X5_wrongLetter_8 n t) n M25 a1 a2 r26 1) else (some (a2, M25))) else none)))) else none) else none
theorem t_X5_wrongLetter_8 (n : Nat) : ∀ (t : Nat) (M : Mem) (a1 : Int) (a2 : Int), Y RX5 cX5_wrongLetter 5 1 0 none 8 [some (rv 130), some (iv a1), some (iv a2), none, none] [] M (m_X5_wrongLetter_8 n t M a1 a2) := by
  intro t
  induction t with
  | zero => intro M a1 a2; exact y_none
  | succ t ih =>
    intro M a1 a2
    rewrite [m_X5_wrongLetter_8]
    refine y_iload_n (pc := 8) dX5_wrongLetter_8 rfl ?_
    refine y_iload_n (pc := 9) dX5_wrongLetter_9 rfl ?_
    refine y_gd (fun h20 => ?_)
    refine y_gd (fun h21 => ?_)
    refine y_icmp_ge (off := 99) (tgt := 109) (pc := 10) dX5_wrongLetter_10 (by decide) h20 h21 (fun h22 => ?_) (fun h22 => ?_)
    · refine y_iconst (pc := 109) dX5_wrongLetter_109 ?_
      exact y_iret (pc := 110) dX5_wrongLetter_110
    · refine y_aload_n (pc := 13) dX5_wrongLetter_13 rfl ?_
      refine y_iload_n (pc := 14) dX5_wrongLetter_14 rfl ?_
      refine y_callVi (pc := 15) v_X5_letterAt l_X5_75 dX5_wrongLetter_15 (c_X5_letterAt n _ _) rfl rc_X5 rfl (by decide) (by decide) (Nat.le_of_ble_eq_true rfl) (fun r24 M23 _ => ?_)
      refine y_callSi (pc := 18) s_X5_digitsBehind l_X5_78 dX5_wrongLetter_18 (c_X5_digitsBehind n _ _) rfl rfl (by decide) (by decide) (Nat.le_of_ble_eq_true rfl) (fun r26 M25 _ => ?_)
      refine y_istore_n (L' := [some (rv 130), some (iv a1), some (iv a2), some (iv r26), none]) (pc := 21) dX5_wrongLetter_21 (by decide) rfl rfl ?_
      refine y_iload_n (pc := 22) dX5_wrongLetter_22 rfl ?_
      refine y_gd (fun h27 => ?_)
      refine y_if_gt (off := 5) (tgt := 28) (pc := 23) dX5_wrongLetter_23 (by decide) h27 (fun h28 => ?_) (fun h28 => ?_)
      · refine y_iconst (pc := 28) dX5_wrongLetter_28 ?_
        refine y_istore (L' := [some (rv 130), some (iv a1), some (iv a2), some (iv r26), some (iv 1)]) (pc := 29) dX5_wrongLetter_29 (by decide) rfl rfl ?_
        exact y_sub (ls_s (ls_s (ls_s (ls_s (ls_s ls_0))))) (t_X5_wrongLetter_31 n (m_X5_wrongLetter_8 n t) ih n M25 a1 a2 r26 1)
      · refine y_iload_n (pc := 26) dX5_wrongLetter_26 rfl ?_
        exact y_iret (pc := 27) dX5_wrongLetter_27
def m_X5_wrongLetter (n : Nat) (M : Mem) (a1 : Int) : Rs := if I32 a1 then (if a1 = 0 then (some (0, M)) else (m_X5_wrongLetter_8 n n M a1 0)) else none
theorem y_X5_wrongLetter (n : Nat) (M : Mem) (a1 : Int) : Y RX5 cX5_wrongLetter 5 1 0 none 0 [some (rv 130), some (iv a1), none, none, none] [] M (m_X5_wrongLetter n M a1) := by
  unfold m_X5_wrongLetter
  refine y_iload_n (pc := 0) dX5_wrongLetter_0 rfl ?_
  refine y_gd (fun h29 => ?_)
  refine y_if_ne (off := 5) (tgt := 6) (pc := 1) dX5_wrongLetter_1 (by decide) h29 (fun h30 => ?_) (fun h30 => ?_)
  · refine y_iconst (pc := 6) dX5_wrongLetter_6 ?_
    refine y_istore_n (L' := [some (rv 130), some (iv a1), some (iv 0), none, none]) (pc := 7) dX5_wrongLetter_7 (by decide) rfl rfl ?_
    exact y_sub (ls_s (ls_s (ls_s (ls_n (ls_n ls_0))))) (t_X5_wrongLetter_8 n n M a1 0)
  · refine y_iconst (pc := 4) dX5_wrongLetter_4 ?_
    exact y_iret (pc := 5) dX5_wrongLetter_5
theorem c_X5_wrongLetter (n : Nat) (M : Mem) (a1 : Int) : ∀ res : Int × Mem, m_X5_wrongLetter n M a1 = some res → CTi yX5_wrongLetter cX5_wrongLetter 5 (some .int) 1 [rv 130, iv a1] M res := CTi_of (by decide +kernel) rfl (Nat.le_of_ble_eq_true rfl) rfl (y_X5_wrongLetter n M a1)
def m_X5_coast_43 (n : Nat) : Nat → Mem → Int → Int → Int → Rs
  | 0, _, _, _, _ => none
  | t + 1, M, a1, a3, a4 => if I32 a4 then (if I32 a1 then (if a1 ≤ a4 then (bd (m_X4_become n M 0 22) (fun _ M4 => wr M4 130 4 0 (fun M5 => some (a3, M5)))) else (bd (m_X5_carriedOut n M a4) (fun r7 M6 => if I32 r7 then (if r7 = 0 then (some (((-2000) - a4), M6)) else (bd (m_X5_letterAt n M6 a4) (fun r11 M10 => bd (m_X5_digitsBehind n M10 r11) (fun r13 M12 => (m_X5_coast_43 n t) M12 a1 (a3 + 1) (a4 + (r13 + 2)))))) else none))) else none) else none
theorem t_X5_coast_43 (n : Nat) : ∀ (t : Nat) (M : Mem) (a1 : Int) (a3 : Int) (a4 : Int), Y RX5 cX5_coast 5 6 0 none 43 [some (rv 130), some (iv a1), none, some (iv a3), some (iv a4)] [] M (m_X5_coast_43 n t M a1 a3 a4) := by
  intro t
  induction t with
  | zero => intro M a1 a3 a4; exact y_none
  | succ t ih =>
    intro M a1 a3 a4
    rewrite [m_X5_coast_43]
    refine y_iload (pc := 43) dX5_coast_43 rfl ?_
    refine y_iload_n (pc := 45) dX5_coast_45 rfl ?_
    refine y_gd (fun h1 => ?_)
    refine y_gd (fun h2 => ?_)
    refine y_icmp_ge (off := 41) (tgt := 87) (pc := 46) dX5_coast_46 (by decide) h1 h2 (fun h3 => ?_) (fun h3 => ?_)
    · refine y_aload_n (pc := 87) dX5_coast_87 rfl ?_
      refine y_getref (pc := 88) (x := 0) g_X5_10 dX5_coast_88 ?_
      refine y_aload_n (pc := 91) dX5_coast_91 rfl ?_
      refine y_getref (pc := 92) (x := 129) g_X5_50 dX5_coast_92 ?_
      refine y_getref (pc := 95) (x := 22) g_X5_81 dX5_coast_95 ?_
      refine y_callVv (pc := 98) v_X4_become l_X5_84 dX5_coast_98 (c_X4_become n _ _ _) rfl (rc_X4 (by decide)) rfl (by decide) (by decide) (Nat.le_of_ble_eq_true rfl) (fun _ M4 _ => ?_)
      refine y_aload_n (pc := 101) dX5_coast_101 rfl ?_
      refine y_iconst (pc := 102) dX5_coast_102 ?_
      refine y_putintw (pc := 103) pf_X5_27 dX5_coast_103 (fun M5 => ?_)
      refine y_iload_n (pc := 106) dX5_coast_106 rfl ?_
      exact y_iret (pc := 107) dX5_coast_107
    · refine y_aload_n (pc := 49) dX5_coast_49 rfl ?_
      refine y_iload (pc := 50) dX5_coast_50 rfl ?_
      refine y_callVi (pc := 52) v_X5_carriedOut l_X5_71 dX5_coast_52 (c_X5_carriedOut n _ _) rfl rc_X5 rfl (by decide) (by decide) (Nat.le_of_ble_eq_true rfl) (fun r7 M6 _ => ?_)
      refine y_gd (fun h8 => ?_)
      refine y_if_ne (off := 10) (tgt := 65) (pc := 55) dX5_coast_55 (by decide) h8 (fun h9 => ?_) (fun h9 => ?_)
      · refine y_iinc (L' := [some (rv 130), some (iv a1), none, some (iv (a3 + 1)), some (iv a4)]) (pc := 65) dX5_coast_65 rfl (by decide) rfl rfl ?_
        refine y_iload (pc := 68) dX5_coast_68 rfl ?_
        refine y_aload_n (pc := 70) dX5_coast_70 rfl ?_
        refine y_iload (pc := 71) dX5_coast_71 rfl ?_
        refine y_callVi (pc := 73) v_X5_letterAt l_X5_75 dX5_coast_73 (c_X5_letterAt n _ _) rfl rc_X5 rfl (by decide) (by decide) (Nat.le_of_ble_eq_true rfl) (fun r11 M10 _ => ?_)
        refine y_callSi (pc := 76) s_X5_digitsBehind l_X5_78 dX5_coast_76 (c_X5_digitsBehind n _ _) rfl rfl (by decide) (by decide) (Nat.le_of_ble_eq_true rfl) (fun r13 M12 _ => ?_)
        refine y_iconst (pc := 79) dX5_coast_79 ?_
        refine y_iadd (pc := 80) dX5_coast_80 ?_
        refine y_iadd (pc := 81) dX5_coast_81 ?_
        refine y_istore (L' := [some (rv 130), some (iv a1), none, some (iv (a3 + 1)), some (iv (a4 + (r13 + 2)))]) (pc := 82) dX5_coast_82 (by decide) rfl rfl ?_
        refine y_goto (tgt := 43) (pc := 84) dX5_coast_84 (by decide) ?_
        exact y_sub (ls_s (ls_s (ls_n (ls_s (ls_s ls_0))))) (ih M12 a1 (a3 + 1) (a4 + (r13 + 2)))
      · refine y_sipush (pc := 58) dX5_coast_58 (by decide) ?_
        refine y_iload (pc := 61) dX5_coast_61 rfl ?_
        refine y_isub (pc := 63) dX5_coast_63 ?_
        exact y_iret (pc := 64) dX5_coast_64
def m_X5_coast (n : Nat) (M : Mem) : Rs := wr M 130 6 0 (fun M14 => bd (m_X5_wrongLetter n M14 (rd M 130 6)) (fun r16 M15 => if I32 r16 then (if r16 = (-1) then (bd (m_X0_begin n M15 0) (fun _ M19 => m_X5_coast_43 n n M19 (rd M 130 6) 0 0)) else (some (((-1000) - r16), M15))) else none))
theorem y_X5_coast (n : Nat) (M : Mem) : Y RX5 cX5_coast 5 6 0 none 0 [some (rv 130), none, none, none, none] [] M (m_X5_coast n M) := by
  unfold m_X5_coast
  refine y_aload_n (pc := 0) dX5_coast_0 rfl ?_
  refine y_getint (pc := 1) g_X5_35 dX5_coast_1 ?_
  refine y_istore_n (L' := [some (rv 130), some (iv (rd M 130 6)), none, none, none]) (pc := 4) dX5_coast_4 (by decide) rfl rfl ?_
  refine y_aload_n (pc := 5) dX5_coast_5 rfl ?_
  refine y_iconst (pc := 6) dX5_coast_6 ?_
  refine y_putintw (pc := 7) pf_X5_35 dX5_coast_7 (fun M14 => ?_)
  refine y_aload_n (pc := 10) dX5_coast_10 rfl ?_
  refine y_iload_n (pc := 11) dX5_coast_11 rfl ?_
  refine y_callVi (pc := 12) v_X5_wrongLetter l_X5_64 dX5_coast_12 (c_X5_wrongLetter n _ _) rfl rc_X5 rfl (by decide) (by decide) (Nat.le_of_ble_eq_true rfl) (fun r16 M15 _ => ?_)
  refine y_istore_n (L' := [some (rv 130), some (iv (rd M 130 6)), some (iv r16), none, none]) (pc := 15) dX5_coast_15 (by decide) rfl rfl ?_
  refine y_iload_n (pc := 16) dX5_coast_16 rfl ?_
  refine y_iconst (pc := 17) dX5_coast_17 ?_
  refine y_gd (fun h17 => ?_)
  refine y_icmp_eq (off := 9) (tgt := 27) (pc := 18) dX5_coast_18 (by decide) h17 (by decide) (fun h18 => ?_) (fun h18 => ?_)
  · refine y_aload_n (pc := 27) dX5_coast_27 rfl ?_
    refine y_getref (pc := 28) (x := 129) g_X5_50 dX5_coast_28 ?_
    refine y_aload_n (pc := 31) dX5_coast_31 rfl ?_
    refine y_getref (pc := 32) (x := 0) g_X5_10 dX5_coast_32 ?_
    refine y_callVv (pc := 35) v_X0_begin l_X5_67 dX5_coast_35 (c_X0_begin n _ _) rfl rc_X0 rfl (by decide) (by decide) (Nat.le_of_ble_eq_true rfl) (fun _ M19 _ => ?_)
    refine y_iconst (pc := 38) dX5_coast_38 ?_
    refine y_istore_n (L' := [some (rv 130), some (iv (rd M 130 6)), some (iv r16), some (iv 0), none]) (pc := 39) dX5_coast_39 (by decide) rfl rfl ?_
    refine y_iconst (pc := 40) dX5_coast_40 ?_
    refine y_istore (L' := [some (rv 130), some (iv (rd M 130 6)), some (iv r16), some (iv 0), some (iv 0)]) (pc := 41) dX5_coast_41 (by decide) rfl rfl ?_
    exact y_sub (ls_s (ls_s (ls_n (ls_s (ls_s ls_0))))) (t_X5_coast_43 n n M19 (rd M 130 6) 0 0)
  · refine y_sipush (pc := 21) dX5_coast_21 (by decide) ?_
    refine y_iload_n (pc := 24) dX5_coast_24 rfl ?_
    refine y_isub (pc := 25) dX5_coast_25 ?_
    exact y_iret (pc := 26) dX5_coast_26
theorem c_X5_coast (n : Nat) (M : Mem) : ∀ res : Int × Mem, m_X5_coast n M = some res → CTi yX5_coast cX5_coast 5 (some .int) 6 [rv 130] M res := CTi_of (by decide +kernel) rfl (Nat.le_of_ble_eq_true rfl) rfl (y_X5_coast n M)
