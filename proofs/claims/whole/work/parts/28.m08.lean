def m_X5_whichFront_29 (n : Nat) : Nat → Mem → Int → Int → Int → Int → Rs
  | 0, _, _, _, _, _ => none
  | t + 1, M, a1, a2, a3, a4 => if I32 a4 then (if 7 ≤ a4 then (some (a3, M)) else (bd (m_X0_begin n M 0) (fun _ M3 => if 0 ≤ a1 ∧ a1 < 6 then (wr M3 23 (Int.toNat a1) a4 (fun M5 => bd (m_X5_airIsAsTheRow n M5 a2) (fun r7 M6 => if I32 r7 then (if r7 = 0 then ((m_X5_whichFront_29 n t) M6 a1 a2 a3 (a4 + 1)) else ((m_X5_whichFront_29 n t) M6 a1 a2 (bOr a3 (bShl 1 a4)) (a4 + 1))) else none))) else none))) else none
theorem t_X5_whichFront_29 (n : Nat) : ∀ (t : Nat) (M : Mem) (a1 : Int) (a2 : Int) (a3 : Int) (a4 : Int), Y RX5 cX5_whichFront 5 5 0 none 29 [some (rv 130), some (iv a1), some (iv a2), some (iv a3), some (iv a4)] [] M (m_X5_whichFront_29 n t M a1 a2 a3 a4) := by
  intro t
  induction t with
  | zero => intro M a1 a2 a3 a4; exact y_none
  | succ t ih =>
    intro M a1 a2 a3 a4
    rewrite [m_X5_whichFront_29]
    refine y_iload (pc := 29) dX5_whichFront_29 rfl ?_
    refine y_bipush (pc := 31) dX5_whichFront_31 (by decide) ?_
    refine y_gd (fun h1 => ?_)
    refine y_icmp_ge (off := 49) (tgt := 82) (pc := 33) dX5_whichFront_33 (by decide) h1 (by decide) (fun h2 => ?_) (fun h2 => ?_)
    · refine y_iload_n (pc := 82) dX5_whichFront_82 rfl ?_
      exact y_iret (pc := 83) dX5_whichFront_83
    · refine y_aload_n (pc := 36) dX5_whichFront_36 rfl ?_
      refine y_getref (pc := 37) (x := 129) g_X5_50 dX5_whichFront_37 ?_
      refine y_aload_n (pc := 40) dX5_whichFront_40 rfl ?_
      refine y_getref (pc := 41) (x := 0) g_X5_10 dX5_whichFront_41 ?_
      refine y_callVv (pc := 44) v_X0_begin l_X5_67 dX5_whichFront_44 (c_X0_begin n _ _) rfl rc_X0 rfl (by decide) (by decide) (Nat.le_of_ble_eq_true rfl) (fun _ M3 _ => ?_)
      refine y_aload_n (pc := 47) dX5_whichFront_47 rfl ?_
      refine y_getref (pc := 48) (x := 129) g_X5_50 dX5_whichFront_48 ?_
      refine y_getref (pc := 51) (x := 22) g_X5_81 dX5_whichFront_51 ?_
      refine y_getref (pc := 54) (x := 23) (g_X5_177 (by decide)) dX5_whichFront_54 ?_
      refine y_iload_n (pc := 57) dX5_whichFront_57 rfl ?_
      refine y_iload (pc := 58) dX5_whichFront_58 rfl ?_
      refine y_gd (fun h4 => ?_)
      refine y_iastw (pc := 60) dX5_whichFront_60 ar_23 h4 (fun M5 => ?_)
      refine y_aload_n (pc := 61) dX5_whichFront_61 rfl ?_
      refine y_iload_n (pc := 62) dX5_whichFront_62 rfl ?_
      refine y_callVi (pc := 63) v_X5_airIsAsTheRow l_X5_254 dX5_whichFront_63 (c_X5_airIsAsTheRow n _ _) rfl rc_X5 rfl (by decide) (by decide) (Nat.le_of_ble_eq_true rfl) (fun r7 M6 _ => ?_)
      refine y_gd (fun h8 => ?_)
      refine y_if_eq (off := 10) (tgt := 76) (pc := 66) dX5_whichFront_66 (by decide) h8 (fun h9 => ?_) (fun h9 => ?_)
      · refine y_iinc (L' := [some (rv 130), some (iv a1), some (iv a2), some (iv a3), some (iv (a4 + 1))]) (pc := 76) dX5_whichFront_76 rfl (by decide) rfl rfl ?_
        refine y_goto (tgt := 29) (pc := 79) dX5_whichFront_79 (by decide) ?_
        exact y_sub (ls_s (ls_s (ls_s (ls_s (ls_s ls_0))))) (ih M6 a1 a2 a3 (a4 + 1))
      · refine y_iload_n (pc := 69) dX5_whichFront_69 rfl ?_
        refine y_iconst (pc := 70) dX5_whichFront_70 ?_
        refine y_iload (pc := 71) dX5_whichFront_71 rfl ?_
        refine y_ishl (pc := 73) dX5_whichFront_73 ?_
        refine y_ior (pc := 74) dX5_whichFront_74 ?_
        refine y_istore_n (L' := [some (rv 130), some (iv a1), some (iv a2), some (iv (bOr a3 (bShl 1 a4))), some (iv a4)]) (pc := 75) dX5_whichFront_75 (by decide) rfl rfl ?_
        refine y_iinc (L' := [some (rv 130), some (iv a1), some (iv a2), some (iv (bOr a3 (bShl 1 a4))), some (iv (a4 + 1))]) (pc := 76) dX5_whichFront_76 rfl (by decide) rfl rfl ?_
        refine y_goto (tgt := 29) (pc := 79) dX5_whichFront_79 (by decide) ?_
        exact y_sub (ls_s (ls_s (ls_s (ls_s (ls_s ls_0))))) (ih M6 a1 a2 (bOr a3 (bShl 1 a4)) (a4 + 1))
def m_X5_whichFront_18 (n : Nat) (M : Mem) : Rs := bd (m_X5_refuse n M (-1)) (fun r11 M10 => some (r11, M10))
theorem t_X5_whichFront_18 (n : Nat) (M : Mem) : Y RX5 cX5_whichFront 5 5 0 none 18 [some (rv 130), none, none, none, none] [] M (m_X5_whichFront_18 n M) := by
  unfold m_X5_whichFront_18
  refine y_aload_n (pc := 18) dX5_whichFront_18 rfl ?_
  refine y_iconst (pc := 19) dX5_whichFront_19 ?_
  refine y_callVi (pc := 20) v_X5_refuse l_X5_60 dX5_whichFront_20 (c_X5_refuse n _ _) rfl rc_X5 rfl (by decide) (by decide) (Nat.le_of_ble_eq_true rfl) (fun r11 M10 _ => ?_)
  exact y_iret (pc := 23) dX5_whichFront_23
def m_X5_whichFront (n : Nat) (M : Mem) (a1 : Int) (a2 : Int) : Rs := bd (m_X4_hasFront n M 0 a1) (fun r13 M12 => if I32 r13 then (if r13 = 0 then (m_X5_whichFront_18 n M12) else (bd (m_X5_isCell n M12 a2) (fun r17 M16 => if I32 r17 then (if r17 = 0 then (m_X5_whichFront_18 n M16) else (m_X5_whichFront_29 n n M16 a1 a2 0 0)) else none))) else none)
theorem y_X5_whichFront (n : Nat) (M : Mem) (a1 : Int) (a2 : Int) : Y RX5 cX5_whichFront 5 5 0 none 0 [some (rv 130), some (iv a1), some (iv a2), none, none] [] M (m_X5_whichFront n M a1 a2) := by
  unfold m_X5_whichFront
  refine y_aload_n (pc := 0) dX5_whichFront_0 rfl ?_
  refine y_getref (pc := 1) (x := 0) g_X5_10 dX5_whichFront_1 ?_
  refine y_iload_n (pc := 4) dX5_whichFront_4 rfl ?_
  refine y_callVi (pc := 5) v_X4_hasFront l_X5_174 dX5_whichFront_5 (c_X4_hasFront n _ _ _) rfl (rc_X4 (by decide)) rfl (by decide) (by decide) (Nat.le_of_ble_eq_true rfl) (fun r13 M12 _ => ?_)
  refine y_gd (fun h14 => ?_)
  refine y_if_eq (off := 10) (tgt := 18) (pc := 8) dX5_whichFront_8 (by decide) h14 (fun h15 => ?_) (fun h15 => ?_)
  · exact y_sub (ls_s (ls_n (ls_n (ls_n (ls_n ls_0))))) (t_X5_whichFront_18 n M12)
  · refine y_iload_n (pc := 11) dX5_whichFront_11 rfl ?_
    refine y_callSi (pc := 12) s_X5_isCell l_X5_186 dX5_whichFront_12 (c_X5_isCell n _ _) rfl rfl (by decide) (by decide) (Nat.le_of_ble_eq_true rfl) (fun r17 M16 _ => ?_)
    refine y_gd (fun h18 => ?_)
    refine y_if_ne (off := 9) (tgt := 24) (pc := 15) dX5_whichFront_15 (by decide) h18 (fun h19 => ?_) (fun h19 => ?_)
    · refine y_iconst (pc := 24) dX5_whichFront_24 ?_
      refine y_istore_n (L' := [some (rv 130), some (iv a1), some (iv a2), some (iv 0), none]) (pc := 25) dX5_whichFront_25 (by decide) rfl rfl ?_
      refine y_iconst (pc := 26) dX5_whichFront_26 ?_
      refine y_istore (L' := [some (rv 130), some (iv a1), some (iv a2), some (iv 0), some (iv 0)]) (pc := 27) dX5_whichFront_27 (by decide) rfl rfl ?_
      exact y_sub (ls_s (ls_s (ls_s (ls_s (ls_s ls_0))))) (t_X5_whichFront_29 n n M16 a1 a2 0 0)
    · exact y_sub (ls_s (ls_n (ls_n (ls_n (ls_n ls_0))))) (t_X5_whichFront_18 n M16)
theorem c_X5_whichFront (n : Nat) (M : Mem) (a1 : Int) (a2 : Int) : ∀ res : Int × Mem, m_X5_whichFront n M a1 a2 = some res → CTi yX5_whichFront cX5_whichFront 5 (some .int) 5 [rv 130, iv a1, iv a2] M res := CTi_of (by decide +kernel) rfl (Nat.le_of_ble_eq_true rfl) rfl (y_X5_whichFront n M a1 a2)
def m_X5_two_237 (n : Nat) (k181 : Mem → Int → Rs) (M : Mem) (a5 : Int) (a6 : Int) (s0 : Int) : Rs := if I32 a6 then (if a6 = 0 then (k181 M (a5 + 1)) else (if I32 s0 then (if s0 = 0 then (k181 M (a5 + 1)) else (some (((10 * (bShr a5 1)) + (bAnd a5 1)), M))) else none)) else none
theorem t_X5_two_237 (n : Nat) (k181 : Mem → Int → Rs) (hk181 : ∀ (M : Mem) (a5 : Int), Y RX5 cX5_two 8 5 0 none 181 [some (rv 130), none, none, none, none, some (iv a5), none, none] [] M (k181 M a5)) (M : Mem) (a5 : Int) (a6 : Int) (s0 : Int) : Y RX5 cX5_two 8 5 0 none 237 [some (rv 130), none, none, none, none, some (iv a5), some (iv a6), none] [iv s0] M (m_X5_two_237 n k181 M a5 a6 s0) := by
  unfold m_X5_two_237
  refine y_istore (L' := [some (rv 130), none, none, none, none, some (iv a5), some (iv a6), some (iv s0)]) (pc := 237) dX5_two_237 (by decide) rfl rfl ?_
  refine y_iload (pc := 239) dX5_two_239 rfl ?_
  refine y_gd (fun h1 => ?_)
  refine y_if_eq (off := 21) (tgt := 262) (pc := 241) dX5_two_241 (by decide) h1 (fun h2 => ?_) (fun h2 => ?_)
  · refine y_iinc (L' := [some (rv 130), none, none, none, none, some (iv (a5 + 1)), some (iv a6), some (iv s0)]) (pc := 262) dX5_two_262 rfl (by decide) rfl rfl ?_
    refine y_goto (tgt := 181) (pc := 265) dX5_two_265 (by decide) ?_
    exact y_sub (ls_s (ls_n (ls_n (ls_n (ls_n (ls_s (ls_n (ls_n ls_0)))))))) (hk181 M (a5 + 1))
  · refine y_iload (pc := 244) dX5_two_244 rfl ?_
    refine y_gd (fun h3 => ?_)
    refine y_if_eq (off := 16) (tgt := 262) (pc := 246) dX5_two_246 (by decide) h3 (fun h4 => ?_) (fun h4 => ?_)
    · refine y_iinc (L' := [some (rv 130), none, none, none, none, some (iv (a5 + 1)), some (iv a6), some (iv s0)]) (pc := 262) dX5_two_262 rfl (by decide) rfl rfl ?_
      refine y_goto (tgt := 181) (pc := 265) dX5_two_265 (by decide) ?_
      exact y_sub (ls_s (ls_n (ls_n (ls_n (ls_n (ls_s (ls_n (ls_n ls_0)))))))) (hk181 M (a5 + 1))
    · refine y_bipush (pc := 249) dX5_two_249 (by decide) ?_
      refine y_iload (pc := 251) dX5_two_251 rfl ?_
      refine y_iconst (pc := 253) dX5_two_253 ?_
      refine y_ishr (pc := 254) dX5_two_254 ?_
      refine y_imul (pc := 255) dX5_two_255 ?_
      refine y_iload (pc := 256) dX5_two_256 rfl ?_
      refine y_iconst (pc := 258) dX5_two_258 ?_
      refine y_iand (pc := 259) dX5_two_259 ?_
      refine y_iadd (pc := 260) dX5_two_260 ?_
      exact y_iret (pc := 261) dX5_two_261
def m_X5_two_211 (n : Nat) (k181 : Mem → Int → Rs) (M : Mem) (a5 : Int) (s0 : Int) : Rs := if 0 ≤ a5 ∧ a5 < 4 then (if 0 ≤ (bXor a5 1) ∧ (bXor a5 1) < 4 then (if (rd M 136 (Int.toNat a5)) < (rd M 136 (Int.toNat (bXor a5 1))) then (m_X5_two_237 n k181 M a5 s0 0) else (m_X5_two_237 n k181 M a5 s0 1)) else none) else none
theorem t_X5_two_211 (n : Nat) (k181 : Mem → Int → Rs) (hk181 : ∀ (M : Mem) (a5 : Int), Y RX5 cX5_two 8 5 0 none 181 [some (rv 130), none, none, none, none, some (iv a5), none, none] [] M (k181 M a5)) (M : Mem) (a5 : Int) (s0 : Int) : Y RX5 cX5_two 8 5 0 none 211 [some (rv 130), none, none, none, none, some (iv a5), none, none] [iv s0] M (m_X5_two_211 n k181 M a5 s0) := by
  unfold m_X5_two_211
  refine y_istore (L' := [some (rv 130), none, none, none, none, some (iv a5), some (iv s0), none]) (pc := 211) dX5_two_211 (by decide) rfl rfl ?_
  refine y_aload_n (pc := 213) dX5_two_213 rfl ?_
  refine y_getref (pc := 214) (x := 136) g_X5_57 dX5_two_214 ?_
  refine y_iload (pc := 217) dX5_two_217 rfl ?_
  refine y_gd (fun h5 => ?_)
  refine y_iald (pc := 219) dX5_two_219 ar_136 h5 ?_
  refine y_aload_n (pc := 220) dX5_two_220 rfl ?_
  refine y_getref (pc := 221) (x := 136) g_X5_57 dX5_two_221 ?_
  refine y_iload (pc := 224) dX5_two_224 rfl ?_
  refine y_iconst (pc := 226) dX5_two_226 ?_
  refine y_ixor (pc := 227) dX5_two_227 ?_
  refine y_gd (fun h6 => ?_)
  refine y_iald (pc := 228) dX5_two_228 ar_136 h6 ?_
  refine y_icmp_lt (off := 7) (tgt := 236) (pc := 229) dX5_two_229 (by decide) (rd_rng _ _ _) (rd_rng _ _ _) (fun h7 => ?_) (fun h7 => ?_)
  · refine y_iconst (pc := 236) dX5_two_236 ?_
    exact y_sub (ls_s (ls_n (ls_n (ls_n (ls_n (ls_s (ls_s (ls_n ls_0)))))))) (t_X5_two_237 n k181 hk181 M a5 s0 0)
  · refine y_iconst (pc := 232) dX5_two_232 ?_
    refine y_goto (tgt := 237) (pc := 233) dX5_two_233 (by decide) ?_
    exact y_sub (ls_s (ls_n (ls_n (ls_n (ls_n (ls_s (ls_s (ls_n ls_0)))))))) (t_X5_two_237 n k181 hk181 M a5 s0 1)
def m_X5_two_181 (n : Nat) : Nat → Mem → Int → Rs
  | 0, _, _ => none
  | t + 1, M, a5 => if I32 a5 then (if 4 ≤ a5 then (some ((-9), M)) else (if 0 ≤ a5 ∧ a5 < 4 then (if 0 ≤ (bXor a5 2) ∧ (bXor a5 2) < 4 then (if (rd M 135 (Int.toNat a5)) < (rd M 135 (Int.toNat (bXor a5 2))) then (m_X5_two_211 n (m_X5_two_181 n t) M a5 0) else (m_X5_two_211 n (m_X5_two_181 n t) M a5 1)) else none) else none)) else none
theorem t_X5_two_181 (n : Nat) : ∀ (t : Nat) (M : Mem) (a5 : Int), Y RX5 cX5_two 8 5 0 none 181 [some (rv 130), none, none, none, none, some (iv a5), none, none] [] M (m_X5_two_181 n t M a5) := by
  intro t
  induction t with
  | zero => intro M a5; exact y_none
  | succ t ih =>
    intro M a5
    rewrite [m_X5_two_181]
    refine y_iload (pc := 181) dX5_two_181 rfl ?_
    refine y_iconst (pc := 183) dX5_two_183 ?_
    refine y_gd (fun h8 => ?_)
    refine y_icmp_ge (off := 84) (tgt := 268) (pc := 184) dX5_two_184 (by decide) h8 (by decide) (fun h9 => ?_) (fun h9 => ?_)
    · refine y_bipush (pc := 268) dX5_two_268 (by decide) ?_
      exact y_iret (pc := 270) dX5_two_270
    · refine y_aload_n (pc := 187) dX5_two_187 rfl ?_
      refine y_getref (pc := 188) (x := 135) g_X5_54 dX5_two_188 ?_
      refine y_iload (pc := 191) dX5_two_191 rfl ?_
      refine y_gd (fun h10 => ?_)
      refine y_iald (pc := 193) dX5_two_193 ar_135 h10 ?_
      refine y_aload_n (pc := 194) dX5_two_194 rfl ?_
      refine y_getref (pc := 195) (x := 135) g_X5_54 dX5_two_195 ?_
      refine y_iload (pc := 198) dX5_two_198 rfl ?_
      refine y_iconst (pc := 200) dX5_two_200 ?_
      refine y_ixor (pc := 201) dX5_two_201 ?_
      refine y_gd (fun h11 => ?_)
      refine y_iald (pc := 202) dX5_two_202 ar_135 h11 ?_
      refine y_icmp_lt (off := 7) (tgt := 210) (pc := 203) dX5_two_203 (by decide) (rd_rng _ _ _) (rd_rng _ _ _) (fun h12 => ?_) (fun h12 => ?_)
      · refine y_iconst (pc := 210) dX5_two_210 ?_
        exact y_sub (ls_s (ls_n (ls_n (ls_n (ls_n (ls_s (ls_n (ls_n ls_0)))))))) (t_X5_two_211 n (m_X5_two_181 n t) ih M a5 0)
      · refine y_iconst (pc := 206) dX5_two_206 ?_
        refine y_goto (tgt := 211) (pc := 207) dX5_two_207 (by decide) ?_
        exact y_sub (ls_s (ls_n (ls_n (ls_n (ls_n (ls_s (ls_n (ls_n ls_0)))))))) (t_X5_two_211 n (m_X5_two_181 n t) ih M a5 1)
def m_X5_two_110 (n : Nat) (k57 : Mem → Int → Int → Int → Int → Rs) (M : Mem) (a1 : Int) (a2 : Int) (a3 : Int) (a5 : Int) : Rs := bd (m_X0_goOn n M a3) (fun _ M13 => bd (m_X4_worthsOf n M13 22 a1) (fun r15 M14 => bd (m_X4_worthsOf n M14 22 a2) (fun r17 M16 => if I32 r17 then (if 0 ≤ a5 ∧ a5 < 4 then (wr M16 135 (Int.toNat a5) (r15 - (Int.tdiv r17 2)) (fun M20 => if I32 r15 then (wr M20 136 (Int.toNat a5) (r17 - (Int.tdiv r15 2)) (fun M22 => k57 M22 a1 a2 a3 (a5 + 1))) else none)) else none) else none)))
theorem t_X5_two_110 (n : Nat) (k57 : Mem → Int → Int → Int → Int → Rs) (hk57 : ∀ (M : Mem) (a1 : Int) (a2 : Int) (a3 : Int) (a5 : Int), Y RX5 cX5_two 8 5 0 none 57 [some (rv 130), some (iv a1), some (iv a2), some (iv a3), none, some (iv a5), none, none] [] M (k57 M a1 a2 a3 a5)) (M : Mem) (a1 : Int) (a2 : Int) (a3 : Int) (a5 : Int) : Y RX5 cX5_two 8 5 0 none 110 [some (rv 130), some (iv a1), some (iv a2), some (iv a3), none, some (iv a5), none, none] [] M (m_X5_two_110 n k57 M a1 a2 a3 a5) := by
  unfold m_X5_two_110
  refine y_aload_n (pc := 110) dX5_two_110 rfl ?_
  refine y_getref (pc := 111) (x := 129) g_X5_50 dX5_two_111 ?_
  refine y_iload_n (pc := 114) dX5_two_114 rfl ?_
  refine y_callVv (pc := 115) v_X0_goOn l_X5_119 dX5_two_115 (c_X0_goOn n _ _) rfl rc_X0 rfl (by decide) (by decide) (Nat.le_of_ble_eq_true rfl) (fun _ M13 _ => ?_)
  refine y_aload_n (pc := 118) dX5_two_118 rfl ?_
  refine y_getref (pc := 119) (x := 129) g_X5_50 dX5_two_119 ?_
  refine y_getref (pc := 122) (x := 22) g_X5_81 dX5_two_122 ?_
  refine y_iload_n (pc := 125) dX5_two_125 rfl ?_
  refine y_callVi (pc := 126) v_X4_worthsOf l_X5_156 dX5_two_126 (c_X4_worthsOf n _ _ _) rfl (rc_X4 (by decide)) rfl (by decide) (by decide) (Nat.le_of_ble_eq_true rfl) (fun r15 M14 _ => ?_)
  refine y_istore (L' := [some (rv 130), some (iv a1), some (iv a2), some (iv a3), none, some (iv a5), some (iv r15), none]) (pc := 129) dX5_two_129 (by decide) rfl rfl ?_
  refine y_aload_n (pc := 131) dX5_two_131 rfl ?_
  refine y_getref (pc := 132) (x := 129) g_X5_50 dX5_two_132 ?_
  refine y_getref (pc := 135) (x := 22) g_X5_81 dX5_two_135 ?_
  refine y_iload_n (pc := 138) dX5_two_138 rfl ?_
  refine y_callVi (pc := 139) v_X4_worthsOf l_X5_156 dX5_two_139 (c_X4_worthsOf n _ _ _) rfl (rc_X4 (by decide)) rfl (by decide) (by decide) (Nat.le_of_ble_eq_true rfl) (fun r17 M16 _ => ?_)
  refine y_istore (L' := [some (rv 130), some (iv a1), some (iv a2), some (iv a3), none, some (iv a5), some (iv r15), some (iv r17)]) (pc := 142) dX5_two_142 (by decide) rfl rfl ?_
  refine y_aload_n (pc := 144) dX5_two_144 rfl ?_
  refine y_getref (pc := 145) (x := 135) g_X5_54 dX5_two_145 ?_
  refine y_iload (pc := 148) dX5_two_148 rfl ?_
  refine y_iload (pc := 150) dX5_two_150 rfl ?_
  refine y_iload (pc := 152) dX5_two_152 rfl ?_
  refine y_iconst (pc := 154) dX5_two_154 ?_
  refine y_gd (fun h18 => ?_)
  refine y_idiv (pc := 155) dX5_two_155 h18 (by decide) (by decide) ?_
  refine y_isub (pc := 156) dX5_two_156 ?_
  refine y_gd (fun h19 => ?_)
  refine y_iastw (pc := 157) dX5_two_157 ar_135 h19 (fun M20 => ?_)
  refine y_aload_n (pc := 158) dX5_two_158 rfl ?_
  refine y_getref (pc := 159) (x := 136) g_X5_57 dX5_two_159 ?_
  refine y_iload (pc := 162) dX5_two_162 rfl ?_
  refine y_iload (pc := 164) dX5_two_164 rfl ?_
  refine y_iload (pc := 166) dX5_two_166 rfl ?_
  refine y_iconst (pc := 168) dX5_two_168 ?_
  refine y_gd (fun h21 => ?_)
  refine y_idiv (pc := 169) dX5_two_169 h21 (by decide) (by decide) ?_
  refine y_isub (pc := 170) dX5_two_170 ?_
  refine y_iastw (pc := 171) dX5_two_171 ar_136 h19 (fun M22 => ?_)
  refine y_iinc (L' := [some (rv 130), some (iv a1), some (iv a2), some (iv a3), none, some (iv (a5 + 1)), some (iv r15), some (iv r17)]) (pc := 172) dX5_two_172 rfl (by decide) rfl rfl ?_
  refine y_goto (tgt := 57) (pc := 175) dX5_two_175 (by decide) ?_
  exact y_sub (ls_s (ls_s (ls_s (ls_s (ls_n (ls_s (ls_n (ls_n ls_0)))))))) (hk57 M22 a1 a2 a3 (a5 + 1))
def m_X5_two_92 (n : Nat) (k57 : Mem → Int → Int → Int → Int → Rs) (M : Mem) (a1 : Int) (a2 : Int) (a3 : Int) (a5 : Int) : Rs := if I32 (bAnd a5 1) then (if (bAnd a5 1) = 0 then (m_X5_two_110 n k57 M a1 a2 a3 a5) else (bd (m_X4_goHome n M 22 a2) (fun _ M25 => m_X5_two_110 n k57 M25 a1 a2 a3 a5))) else none
theorem t_X5_two_92 (n : Nat) (k57 : Mem → Int → Int → Int → Int → Rs) (hk57 : ∀ (M : Mem) (a1 : Int) (a2 : Int) (a3 : Int) (a5 : Int), Y RX5 cX5_two 8 5 0 none 57 [some (rv 130), some (iv a1), some (iv a2), some (iv a3), none, some (iv a5), none, none] [] M (k57 M a1 a2 a3 a5)) (M : Mem) (a1 : Int) (a2 : Int) (a3 : Int) (a5 : Int) : Y RX5 cX5_two 8 5 0 none 92 [some (rv 130), some (iv a1), some (iv a2), some (iv a3), none, some (iv a5), none, none] [] M (m_X5_two_92 n k57 M a1 a2 a3 a5) := by
  unfold m_X5_two_92
  refine y_iload (pc := 92) dX5_two_92 rfl ?_
  refine y_iconst (pc := 94) dX5_two_94 ?_
  refine y_iand (pc := 95) dX5_two_95 ?_
  refine y_gd (fun h23 => ?_)
  refine y_if_eq (off := 14) (tgt := 110) (pc := 96) dX5_two_96 (by decide) h23 (fun h24 => ?_) (fun h24 => ?_)
  · exact y_sub (ls_s (ls_s (ls_s (ls_s (ls_n (ls_s (ls_n (ls_n ls_0)))))))) (t_X5_two_110 n k57 hk57 M a1 a2 a3 a5)
  · refine y_aload_n (pc := 99) dX5_two_99 rfl ?_
    refine y_getref (pc := 100) (x := 129) g_X5_50 dX5_two_100 ?_
    refine y_getref (pc := 103) (x := 22) g_X5_81 dX5_two_103 ?_
    refine y_iload_n (pc := 106) dX5_two_106 rfl ?_
    refine y_callVv (pc := 107) v_X4_goHome l_X5_257 dX5_two_107 (c_X4_goHome n _ _ _) rfl (rc_X4 (by decide)) rfl (by decide) (by decide) (Nat.le_of_ble_eq_true rfl) (fun _ M25 _ => ?_)
    exact y_sub (ls_s (ls_s (ls_s (ls_s (ls_n (ls_s (ls_n (ls_n ls_0)))))))) (t_X5_two_110 n k57 hk57 M25 a1 a2 a3 a5)
def m_X5_two_57 (n : Nat) : Nat → Mem → Int → Int → Int → Int → Rs
  | 0, _, _, _, _, _ => none
  | t + 1, M, a1, a2, a3, a5 => if I32 a5 then (if 4 ≤ a5 then (m_X5_two_181 n n M 0) else (bd (m_X0_begin n M 0) (fun _ M28 => if I32 (bAnd a5 2) then (if (bAnd a5 2) = 0 then (m_X5_two_92 n (m_X5_two_57 n t) M28 a1 a2 a3 a5) else (bd (m_X4_goHome n M28 22 a1) (fun _ M31 => m_X5_two_92 n (m_X5_two_57 n t) M31 a1 a2 a3 a5))) else none))) else none
theorem t_X5_two_57 (n : Nat) : ∀ (t : Nat) (M : Mem) (a1 : Int) (a2 : Int) (a3 : Int) (a5 : Int), Y RX5 cX5_two 8 5 0 none 57 [some (rv 130), some (iv a1), some (iv a2), some (iv a3), none, some (iv a5), none, none] [] M (m_X5_two_57 n t M a1 a2 a3 a5) := by
  intro t
  induction t with
  | zero => intro M a1 a2 a3 a5; exact y_none
  | succ t ih =>
    intro M a1 a2 a3 a5
    rewrite [m_X5_two_57]
    refine y_iload (pc := 57) dX5_two_57 rfl ?_
    refine y_iconst (pc := 59) dX5_two_59 ?_
    refine y_gd (fun h26 => ?_)
    refine y_icmp_ge (off := 118) (tgt := 178) (pc := 60) dX5_two_60 (by decide) h26 (by decide) (fun h27 => ?_) (fun h27 => ?_)
    · refine y_iconst (pc := 178) dX5_two_178 ?_
      refine y_istore (L' := [some (rv 130), some (iv a1), some (iv a2), some (iv a3), none, some (iv 0), none, none]) (pc := 179) dX5_two_179 (by decide) rfl rfl ?_
      exact y_sub (ls_s (ls_n (ls_n (ls_n (ls_n (ls_s (ls_n (ls_n ls_0)))))))) (t_X5_two_181 n n M 0)
    · refine y_aload_n (pc := 63) dX5_two_63 rfl ?_
      refine y_getref (pc := 64) (x := 129) g_X5_50 dX5_two_64 ?_
      refine y_aload_n (pc := 67) dX5_two_67 rfl ?_
      refine y_getref (pc := 68) (x := 0) g_X5_10 dX5_two_68 ?_
      refine y_callVv (pc := 71) v_X0_begin l_X5_67 dX5_two_71 (c_X0_begin n _ _) rfl rc_X0 rfl (by decide) (by decide) (Nat.le_of_ble_eq_true rfl) (fun _ M28 _ => ?_)
      refine y_iload (pc := 74) dX5_two_74 rfl ?_
      refine y_iconst (pc := 76) dX5_two_76 ?_
      refine y_iand (pc := 77) dX5_two_77 ?_
      refine y_gd (fun h29 => ?_)
      refine y_if_eq (off := 14) (tgt := 92) (pc := 78) dX5_two_78 (by decide) h29 (fun h30 => ?_) (fun h30 => ?_)
      · exact y_sub (ls_s (ls_s (ls_s (ls_s (ls_n (ls_s (ls_n (ls_n ls_0)))))))) (t_X5_two_92 n (m_X5_two_57 n t) ih M28 a1 a2 a3 a5)
      · refine y_aload_n (pc := 81) dX5_two_81 rfl ?_
        refine y_getref (pc := 82) (x := 129) g_X5_50 dX5_two_82 ?_
        refine y_getref (pc := 85) (x := 22) g_X5_81 dX5_two_85 ?_
        refine y_iload_n (pc := 88) dX5_two_88 rfl ?_
        refine y_callVv (pc := 89) v_X4_goHome l_X5_257 dX5_two_89 (c_X4_goHome n _ _ _) rfl (rc_X4 (by decide)) rfl (by decide) (by decide) (Nat.le_of_ble_eq_true rfl) (fun _ M31 _ => ?_)
        exact y_sub (ls_s (ls_s (ls_s (ls_s (ls_n (ls_s (ls_n (ls_n ls_0)))))))) (t_X5_two_92 n (m_X5_two_57 n t) ih M31 a1 a2 a3 a5)
def m_X5_two_27 (n : Nat) (M : Mem) : Rs := bd (m_X5_refuse n M (-1)) (fun r33 M32 => some (r33, M32))
theorem t_X5_two_27 (n : Nat) (M : Mem) : Y RX5 cX5_two 8 5 0 none 27 [some (rv 130), none, none, none, none, none, none, none] [] M (m_X5_two_27 n M) := by
  unfold m_X5_two_27
  refine y_aload_n (pc := 27) dX5_two_27 rfl ?_
  refine y_iconst (pc := 28) dX5_two_28 ?_
  refine y_callVi (pc := 29) v_X5_refuse l_X5_60 dX5_two_29 (c_X5_refuse n _ _) rfl rc_X5 rfl (by decide) (by decide) (Nat.le_of_ble_eq_true rfl) (fun r33 M32 _ => ?_)
  exact y_iret (pc := 32) dX5_two_32
def m_X5_two (n : Nat) (M : Mem) (a1 : Int) (a2 : Int) (a3 : Int) : Rs := bd (m_X4_hasPerson n M 0 a1) (fun r35 M34 => if I32 r35 then (if r35 = 0 then (m_X5_two_27 n M34) else (bd (m_X4_hasPerson n M34 0 a2) (fun r39 M38 => if I32 r39 then (if r39 = 0 then (m_X5_two_27 n M38) else (if I32 a1 then (if I32 a2 then (if a1 = a2 then (m_X5_two_27 n M38) else (bd (m_X5_outOfRange n M38 a3 1 30) (fun r46 M45 => if I32 r46 then (if r46 = 0 then (m_X5_two_57 n n M45 a1 a2 a3 0) else (bd (m_X5_refuse n M45 r46) (fun r50 M49 => some (r50, M49)))) else none))) else none) else none)) else none))) else none)
theorem y_X5_two (n : Nat) (M : Mem) (a1 : Int) (a2 : Int) (a3 : Int) : Y RX5 cX5_two 8 5 0 none 0 [some (rv 130), some (iv a1), some (iv a2), some (iv a3), none, none, none, none] [] M (m_X5_two n M a1 a2 a3) := by
  unfold m_X5_two
  refine y_aload_n (pc := 0) dX5_two_0 rfl ?_
  refine y_getref (pc := 1) (x := 0) g_X5_10 dX5_two_1 ?_
  refine y_iload_n (pc := 4) dX5_two_4 rfl ?_
  refine y_callVi (pc := 5) v_X4_hasPerson l_X5_123 dX5_two_5 (c_X4_hasPerson n _ _ _) rfl (rc_X4 (by decide)) rfl (by decide) (by decide) (Nat.le_of_ble_eq_true rfl) (fun r35 M34 _ => ?_)
  refine y_gd (fun h36 => ?_)
  refine y_if_eq (off := 19) (tgt := 27) (pc := 8) dX5_two_8 (by decide) h36 (fun h37 => ?_) (fun h37 => ?_)
  · exact y_sub (ls_s (ls_n (ls_n (ls_n (ls_n (ls_n (ls_n (ls_n ls_0)))))))) (t_X5_two_27 n M34)
  · refine y_aload_n (pc := 11) dX5_two_11 rfl ?_
    refine y_getref (pc := 12) (x := 0) g_X5_10 dX5_two_12 ?_
    refine y_iload_n (pc := 15) dX5_two_15 rfl ?_
    refine y_callVi (pc := 16) v_X4_hasPerson l_X5_123 dX5_two_16 (c_X4_hasPerson n _ _ _) rfl (rc_X4 (by decide)) rfl (by decide) (by decide) (Nat.le_of_ble_eq_true rfl) (fun r39 M38 _ => ?_)
    refine y_gd (fun h40 => ?_)
    refine y_if_eq (off := 8) (tgt := 27) (pc := 19) dX5_two_19 (by decide) h40 (fun h41 => ?_) (fun h41 => ?_)
    · exact y_sub (ls_s (ls_n (ls_n (ls_n (ls_n (ls_n (ls_n (ls_n ls_0)))))))) (t_X5_two_27 n M38)
    · refine y_iload_n (pc := 22) dX5_two_22 rfl ?_
      refine y_iload_n (pc := 23) dX5_two_23 rfl ?_
      refine y_gd (fun h42 => ?_)
      refine y_gd (fun h43 => ?_)
      refine y_icmp_ne (off := 9) (tgt := 33) (pc := 24) dX5_two_24 (by decide) h42 h43 (fun h44 => ?_) (fun h44 => ?_)
      · refine y_iload_n (pc := 33) dX5_two_33 rfl ?_
        refine y_iconst (pc := 34) dX5_two_34 ?_
        refine y_bipush (pc := 35) dX5_two_35 (by decide) ?_
        refine y_callSi (pc := 37) s_X5_outOfRange l_X5_220 dX5_two_37 (c_X5_outOfRange n _ _ _ _) rfl rfl (by decide) (by decide) (Nat.le_of_ble_eq_true rfl) (fun r46 M45 _ => ?_)
        refine y_istore (L' := [some (rv 130), some (iv a1), some (iv a2), some (iv a3), some (iv r46), none, none, none]) (pc := 40) dX5_two_40 (by decide) rfl rfl ?_
        refine y_iload (pc := 42) dX5_two_42 rfl ?_
        refine y_gd (fun h47 => ?_)
        refine y_if_eq (off := 10) (tgt := 54) (pc := 44) dX5_two_44 (by decide) h47 (fun h48 => ?_) (fun h48 => ?_)
        · refine y_iconst (pc := 54) dX5_two_54 ?_
          refine y_istore (L' := [some (rv 130), some (iv a1), some (iv a2), some (iv a3), some (iv r46), some (iv 0), none, none]) (pc := 55) dX5_two_55 (by decide) rfl rfl ?_
          exact y_sub (ls_s (ls_s (ls_s (ls_s (ls_n (ls_s (ls_n (ls_n ls_0)))))))) (t_X5_two_57 n n M45 a1 a2 a3 0)
        · refine y_aload_n (pc := 47) dX5_two_47 rfl ?_
          refine y_iload (pc := 48) dX5_two_48 rfl ?_
          refine y_callVi (pc := 50) v_X5_refuse l_X5_60 dX5_two_50 (c_X5_refuse n _ _) rfl rc_X5 rfl (by decide) (by decide) (Nat.le_of_ble_eq_true rfl) (fun r50 M49 _ => ?_)
          exact y_iret (pc := 53) dX5_two_53
      · exact y_sub (ls_s (ls_n (ls_n (ls_n (ls_n (ls_n (ls_n (ls_n ls_0)))))))) (t_X5_two_27 n M38)
theorem c_X5_two (n : Nat) (M : Mem) (a1 : Int) (a2 : Int) (a3 : Int) : ∀ res : Int × Mem, m_X5_two n M a1 a2 a3 = some res → CTi yX5_two cX5_two 8 (some .int) 5 [rv 130, iv a1, iv a2, iv a3] M res := CTi_of (by decide +kernel) rfl (Nat.le_of_ble_eq_true rfl) rfl (y_X5_two n M a1 a2 a3)
def m_X5_isOwnedBehind_39 (n : Nat) (k14 : Mem → Int → Int → Int → Int → Int → Rs) (M : Mem) (a1 : Int) (a2 : Int) (a3 : Int) (a4 : Int) (a5 : Int) (s0 : Int) : Rs := if s0 = 0 ∨ s0 = 1 then (wr M 129 4 s0 (fun M2 => bd (m_X0_goOn n M2 1) (fun _ M3 => k14 M3 a1 a2 a3 a4 (a5 + 1)))) else none
theorem t_X5_isOwnedBehind_39 (n : Nat) (k14 : Mem → Int → Int → Int → Int → Int → Rs) (hk14 : ∀ (M : Mem) (a1 : Int) (a2 : Int) (a3 : Int) (a4 : Int) (a5 : Int), Y RX5 cX5_isOwnedBehind 6 5 1 none 14 [some (rv 130), some (iv a1), some (iv a2), some (iv a3), some (iv a4), some (iv a5)] [] M (k14 M a1 a2 a3 a4 a5)) (M : Mem) (a1 : Int) (a2 : Int) (a3 : Int) (a4 : Int) (a5 : Int) (s0 : Int) : Y RX5 cX5_isOwnedBehind 6 5 1 none 39 [some (rv 130), some (iv a1), some (iv a2), some (iv a3), some (iv a4), some (iv a5)] [iv s0, rv 129] M (m_X5_isOwnedBehind_39 n k14 M a1 a2 a3 a4 a5 s0) := by
  unfold m_X5_isOwnedBehind_39
  refine y_gd (fun h1 => ?_)
  refine y_putboolw (pc := 39) pf_X5_276 h1 dX5_isOwnedBehind_39 (fun M2 => ?_)
  refine y_aload_n (pc := 42) dX5_isOwnedBehind_42 rfl ?_
  refine y_getref (pc := 43) (x := 129) g_X5_50 dX5_isOwnedBehind_43 ?_
  refine y_iconst (pc := 46) dX5_isOwnedBehind_46 ?_
  refine y_callVv (pc := 47) v_X0_goOn l_X5_119 dX5_isOwnedBehind_47 (c_X0_goOn n _ _) rfl rc_X0 rfl (by decide) (by decide) (Nat.le_of_ble_eq_true rfl) (fun _ M3 _ => ?_)
  refine y_iinc (L' := [some (rv 130), some (iv a1), some (iv a2), some (iv a3), some (iv a4), some (iv (a5 + 1))]) (pc := 50) dX5_isOwnedBehind_50 rfl (by decide) rfl rfl ?_
  refine y_goto (tgt := 14) (pc := 53) dX5_isOwnedBehind_53 (by decide) ?_
  exact y_sub (ls_s (ls_s (ls_s (ls_s (ls_s (ls_s ls_0)))))) (hk14 M3 a1 a2 a3 a4 (a5 + 1))
def m_X5_isOwnedBehind_14 (n : Nat) : Nat → Mem → Int → Int → Int → Int → Int → Rs
  | 0, _, _, _, _, _, _ => none
  | t + 1, M, a1, a2, a3, a4, a5 => if I32 a5 then (if I32 a3 then (if a3 ≤ a5 then (if 0 ≤ a2 ∧ a2 < 8 then (if I32 a1 then (if (rd M 28 (Int.toNat a2)) = a1 then (some (1, M)) else (some (0, M))) else none) else none) else (if I32 (bAnd (bShr a4 a5) 1) then (if (bAnd (bShr a4 a5) 1) = 0 then (m_X5_isOwnedBehind_39 n (m_X5_isOwnedBehind_14 n t) M a1 a2 a3 a4 a5 0) else (m_X5_isOwnedBehind_39 n (m_X5_isOwnedBehind_14 n t) M a1 a2 a3 a4 a5 1)) else none)) else none) else none
theorem t_X5_isOwnedBehind_14 (n : Nat) : ∀ (t : Nat) (M : Mem) (a1 : Int) (a2 : Int) (a3 : Int) (a4 : Int) (a5 : Int), Y RX5 cX5_isOwnedBehind 6 5 1 none 14 [some (rv 130), some (iv a1), some (iv a2), some (iv a3), some (iv a4), some (iv a5)] [] M (m_X5_isOwnedBehind_14 n t M a1 a2 a3 a4 a5) := by
  intro t
  induction t with
  | zero => intro M a1 a2 a3 a4 a5; exact y_none
  | succ t ih =>
    intro M a1 a2 a3 a4 a5
    rewrite [m_X5_isOwnedBehind_14]
    refine y_iload (pc := 14) dX5_isOwnedBehind_14 rfl ?_
    refine y_iload_n (pc := 16) dX5_isOwnedBehind_16 rfl ?_
    refine y_gd (fun h4 => ?_)
    refine y_gd (fun h5 => ?_)
    refine y_icmp_ge (off := 39) (tgt := 56) (pc := 17) dX5_isOwnedBehind_17 (by decide) h4 h5 (fun h6 => ?_) (fun h6 => ?_)
    · refine y_aload_n (pc := 56) dX5_isOwnedBehind_56 rfl ?_
      refine y_getref (pc := 57) (x := 129) g_X5_50 dX5_isOwnedBehind_57 ?_
      refine y_getref (pc := 60) (x := 22) g_X5_81 dX5_isOwnedBehind_60 ?_
      refine y_getref (pc := 63) (x := 28) (g_X5_168 (by decide)) dX5_isOwnedBehind_63 ?_
      refine y_iload_n (pc := 66) dX5_isOwnedBehind_66 rfl ?_
      refine y_gd (fun h7 => ?_)
      refine y_iald (pc := 67) dX5_isOwnedBehind_67 ar_28 h7 ?_
      refine y_iload_n (pc := 68) dX5_isOwnedBehind_68 rfl ?_
      refine y_gd (fun h8 => ?_)
      refine y_icmp_ne (off := 7) (tgt := 76) (pc := 69) dX5_isOwnedBehind_69 (by decide) (rd_rng _ _ _) h8 (fun h9 => ?_) (fun h9 => ?_)
      · refine y_iconst (pc := 76) dX5_isOwnedBehind_76 ?_
        exact y_zret (pc := 77) dX5_isOwnedBehind_77 (by decide)
      · refine y_iconst (pc := 72) dX5_isOwnedBehind_72 ?_
        refine y_goto (tgt := 77) (pc := 73) dX5_isOwnedBehind_73 (by decide) ?_
        exact y_zret (pc := 77) dX5_isOwnedBehind_77 (by decide)
    · refine y_aload_n (pc := 20) dX5_isOwnedBehind_20 rfl ?_
      refine y_getref (pc := 21) (x := 129) g_X5_50 dX5_isOwnedBehind_21 ?_
      refine y_iload (pc := 24) dX5_isOwnedBehind_24 rfl ?_
      refine y_iload (pc := 26) dX5_isOwnedBehind_26 rfl ?_
      refine y_ishr (pc := 28) dX5_isOwnedBehind_28 ?_
      refine y_iconst (pc := 29) dX5_isOwnedBehind_29 ?_
      refine y_iand (pc := 30) dX5_isOwnedBehind_30 ?_
      refine y_gd (fun h10 => ?_)
      refine y_if_eq (off := 7) (tgt := 38) (pc := 31) dX5_isOwnedBehind_31 (by decide) h10 (fun h11 => ?_) (fun h11 => ?_)
      · refine y_iconst (pc := 38) dX5_isOwnedBehind_38 ?_
        exact y_sub (ls_s (ls_s (ls_s (ls_s (ls_s (ls_s ls_0)))))) (t_X5_isOwnedBehind_39 n (m_X5_isOwnedBehind_14 n t) ih M a1 a2 a3 a4 a5 0)
      · refine y_iconst (pc := 34) dX5_isOwnedBehind_34 ?_
        refine y_goto (tgt := 39) (pc := 35) dX5_isOwnedBehind_35 (by decide) ?_
        exact y_sub (ls_s (ls_s (ls_s (ls_s (ls_s (ls_s ls_0)))))) (t_X5_isOwnedBehind_39 n (m_X5_isOwnedBehind_14 n t) ih M a1 a2 a3 a4 a5 1)
def m_X5_isOwnedBehind (n : Nat) (M : Mem) (a1 : Int) (a2 : Int) (a3 : Int) (a4 : Int) : Rs := bd (m_X0_begin n M 0) (fun _ M12 => m_X5_isOwnedBehind_14 n n M12 a1 a2 a3 a4 0)
theorem y_X5_isOwnedBehind (n : Nat) (M : Mem) (a1 : Int) (a2 : Int) (a3 : Int) (a4 : Int) : Y RX5 cX5_isOwnedBehind 6 5 1 none 0 [some (rv 130), some (iv a1), some (iv a2), some (iv a3), some (iv a4), none] [] M (m_X5_isOwnedBehind n M a1 a2 a3 a4) := by
  unfold m_X5_isOwnedBehind
  refine y_aload_n (pc := 0) dX5_isOwnedBehind_0 rfl ?_
  refine y_getref (pc := 1) (x := 129) g_X5_50 dX5_isOwnedBehind_1 ?_
  refine y_aload_n (pc := 4) dX5_isOwnedBehind_4 rfl ?_
  refine y_getref (pc := 5) (x := 0) g_X5_10 dX5_isOwnedBehind_5 ?_
  refine y_callVv (pc := 8) v_X0_begin l_X5_67 dX5_isOwnedBehind_8 (c_X0_begin n _ _) rfl rc_X0 rfl (by decide) (by decide) (Nat.le_of_ble_eq_true rfl) (fun _ M12 _ => ?_)
  refine y_iconst (pc := 11) dX5_isOwnedBehind_11 ?_
  refine y_istore (L' := [some (rv 130), some (iv a1), some (iv a2), some (iv a3), some (iv a4), some (iv 0)]) (pc := 12) dX5_isOwnedBehind_12 (by decide) rfl rfl ?_
  exact y_sub (ls_s (ls_s (ls_s (ls_s (ls_s (ls_s ls_0)))))) (t_X5_isOwnedBehind_14 n n M12 a1 a2 a3 a4 0)
theorem c_X5_isOwnedBehind (n : Nat) (M : Mem) (a1 : Int) (a2 : Int) (a3 : Int) (a4 : Int) : ∀ res : Int × Mem, m_X5_isOwnedBehind n M a1 a2 a3 a4 = some res → CTi yX5_isOwnedBehind cX5_isOwnedBehind 6 (some .boolean) 5 [rv 130, iv a1, iv a2, iv a3, iv a4] M res := CTz_of (by decide +kernel) rfl (Nat.le_of_ble_eq_true rfl) rfl (y_X5_isOwnedBehind n M a1 a2 a3 a4)
def m_X5_lowest_70 (n : Nat) (M : Mem) (a0 : Int) (a2 : Int) (a4 : Int) (a5 : Int) : Rs := if I32 a4 then (if a4 = 0 then (if I64 a0 then (if I64 a5 then (if a5 ≠ 0 then (some ((Int.tdiv a0 a5), M)) else none) else none) else none) else (if I64 a2 then (if I64 a5 then (if a5 ≠ 0 then (some ((Int.tdiv a2 a5), M)) else none) else none) else none)) else none
theorem t_X5_lowest_70 (n : Nat) (M : Mem) (a0 : Int) (a2 : Int) (a4 : Int) (a5 : Int) : Y RX5 cX5_lowest 12 0 2 none 70 [some (jv a0), none, some (jv a2), none, some (iv a4), some (jv a5), none, none, none, none, none, none] [] M (m_X5_lowest_70 n M a0 a2 a4 a5) := by
  unfold m_X5_lowest_70
  refine y_iload (pc := 70) dX5_lowest_70 rfl ?_
  refine y_gd (fun h1 => ?_)
  refine y_if_ne (off := 10) (tgt := 82) (pc := 72) dX5_lowest_72 (by decide) h1 (fun h2 => ?_) (fun h2 => ?_)
  · refine y_lload_n (pc := 82) dX5_lowest_82 rfl ?_
    refine y_lload (pc := 83) dX5_lowest_83 rfl ?_
    refine y_gd (fun h3 => ?_)
    refine y_gd (fun h4 => ?_)
    refine y_gd (fun h5 => ?_)
    refine y_ldiv (pc := 85) dX5_lowest_85 h3 h4 h5 ?_
    exact y_lret (pc := 86) dX5_lowest_86
  · refine y_lload_n (pc := 75) dX5_lowest_75 rfl ?_
    refine y_lload (pc := 76) dX5_lowest_76 rfl ?_
    refine y_gd (fun h6 => ?_)
    refine y_gd (fun h7 => ?_)
    refine y_gd (fun h8 => ?_)
    refine y_ldiv (pc := 78) dX5_lowest_78 h6 h7 h8 ?_
    refine y_goto (tgt := 86) (pc := 79) dX5_lowest_79 (by decide) ?_
    exact y_lret (pc := 86) dX5_lowest_86
def m_X5_lowest_34 (n : Nat) : Nat → Mem → Int → Int → Int → Int → Int → Int → Rs
  | 0, _, _, _, _, _, _, _ => none
  | t + 1, M, a0, a2, a4, a5, a7, a9 => if I32 a9 then (if 200 ≤ a9 then (m_X5_lowest_70 n M a0 a2 a4 a5) else (if I64 a7 then (if (cmpZ a7 0) = 0 then (m_X5_lowest_70 n M a0 a2 a4 a5) else (if I64 a5 then (if a7 ≠ 0 then ((m_X5_lowest_34 n t) M a0 a2 a4 a7 (Int.tmod a5 a7) (a9 + 1)) else none) else none)) else none)) else none
theorem t_X5_lowest_34 (n : Nat) : ∀ (t : Nat) (M : Mem) (a0 : Int) (a2 : Int) (a4 : Int) (a5 : Int) (a7 : Int) (a9 : Int), Y RX5 cX5_lowest 12 0 2 none 34 [some (jv a0), none, some (jv a2), none, some (iv a4), some (jv a5), none, some (jv a7), none, some (iv a9), none, none] [] M (m_X5_lowest_34 n t M a0 a2 a4 a5 a7 a9) := by
  intro t
  induction t with
  | zero => intro M a0 a2 a4 a5 a7 a9; exact y_none
  | succ t ih =>
    intro M a0 a2 a4 a5 a7 a9
    rewrite [m_X5_lowest_34]
    refine y_iload (pc := 34) dX5_lowest_34 rfl ?_
    refine y_sipush (pc := 36) dX5_lowest_36 (by decide) ?_
    refine y_gd (fun h9 => ?_)
    refine y_icmp_ge (off := 31) (tgt := 70) (pc := 39) dX5_lowest_39 (by decide) h9 (by decide) (fun h10 => ?_) (fun h10 => ?_)
    · exact y_sub (ls_s (ls_n (ls_s (ls_n (ls_s (ls_s (ls_n (ls_n (ls_n (ls_n (ls_n (ls_n ls_0)))))))))))) (t_X5_lowest_70 n M a0 a2 a4 a5)
    · refine y_lload (pc := 42) dX5_lowest_42 rfl ?_
      refine y_lconst (a := 0) (pc := 44) dX5_lowest_44 (by decide) ?_
      refine y_gd (fun h11 => ?_)
      refine y_lcmp (pc := 45) dX5_lowest_45 h11 (by decide) ?_
      refine y_if_eq (off := 24) (tgt := 70) (pc := 46) dX5_lowest_46 (by decide) (cmp_rng _ _) (fun h12 => ?_) (fun h12 => ?_)
      · exact y_sub (ls_s (ls_n (ls_s (ls_n (ls_s (ls_s (ls_n (ls_n (ls_n (ls_n (ls_n (ls_n ls_0)))))))))))) (t_X5_lowest_70 n M a0 a2 a4 a5)
      · refine y_lload (pc := 49) dX5_lowest_49 rfl ?_
        refine y_lload (pc := 51) dX5_lowest_51 rfl ?_
        refine y_gd (fun h13 => ?_)
        refine y_gd (fun h14 => ?_)
        refine y_lrem (pc := 53) dX5_lowest_53 h13 h11 h14 ?_
        refine y_lstore (L' := [some (jv a0), none, some (jv a2), none, some (iv a4), some (jv a5), none, some (jv a7), none, some (iv a9), some (jv (Int.tmod a5 a7)), none]) (pc := 54) dX5_lowest_54 (by decide) rfl rfl ?_
        refine y_lload (pc := 56) dX5_lowest_56 rfl ?_
        refine y_lstore (L' := [some (jv a0), none, some (jv a2), none, some (iv a4), some (jv a7), none, some (jv a7), none, some (iv a9), some (jv (Int.tmod a5 a7)), none]) (pc := 58) dX5_lowest_58 (by decide) rfl rfl ?_
        refine y_lload (pc := 60) dX5_lowest_60 rfl ?_
        refine y_lstore (L' := [some (jv a0), none, some (jv a2), none, some (iv a4), some (jv a7), none, some (jv (Int.tmod a5 a7)), none, some (iv a9), some (jv (Int.tmod a5 a7)), none]) (pc := 62) dX5_lowest_62 (by decide) rfl rfl ?_
        refine y_iinc (L' := [some (jv a0), none, some (jv a2), none, some (iv a4), some (jv a7), none, some (jv (Int.tmod a5 a7)), none, some (iv (a9 + 1)), some (jv (Int.tmod a5 a7)), none]) (pc := 64) dX5_lowest_64 rfl (by decide) rfl rfl ?_
        refine y_goto (tgt := 34) (pc := 67) dX5_lowest_67 (by decide) ?_
        exact y_sub (ls_s (ls_n (ls_s (ls_n (ls_s (ls_s (ls_n (ls_s (ls_n (ls_s (ls_n (ls_n ls_0)))))))))))) (ih M a0 a2 a4 a7 (Int.tmod a5 a7) (a9 + 1))
def m_X5_lowest_12 (n : Nat) (M : Mem) (a4 : Int) : Rs := if I32 a4 then (if a4 = 0 then (some (0, M)) else (some (1, M))) else none
theorem t_X5_lowest_12 (n : Nat) (M : Mem) (a4 : Int) : Y RX5 cX5_lowest 12 0 2 none 12 [none, none, none, none, some (iv a4), none, none, none, none, none, none, none] [] M (m_X5_lowest_12 n M a4) := by
  unfold m_X5_lowest_12
  refine y_iload (pc := 12) dX5_lowest_12 rfl ?_
  refine y_gd (fun h15 => ?_)
  refine y_if_ne (off := 7) (tgt := 21) (pc := 14) dX5_lowest_14 (by decide) h15 (fun h16 => ?_) (fun h16 => ?_)
  · refine y_lconst (a := 1) (pc := 21) dX5_lowest_21 (by decide) ?_
    exact y_lret (pc := 22) dX5_lowest_22
  · refine y_lconst (a := 0) (pc := 17) dX5_lowest_17 (by decide) ?_
    refine y_goto (tgt := 22) (pc := 18) dX5_lowest_18 (by decide) ?_
    exact y_lret (pc := 22) dX5_lowest_22
def m_X5_lowest (n : Nat) (M : Mem) (a0 : Int) (a2 : Int) (a4 : Int) : Rs := if I64 a0 then (if (cmpZ a0 0) = 0 then (m_X5_lowest_12 n M a4) else (if I64 a2 then (if (cmpZ a2 0) = 0 then (m_X5_lowest_12 n M a4) else (if a2 ≠ 0 then (m_X5_lowest_34 n n M a0 a2 a4 a2 (Int.tmod a0 a2) 0) else none)) else none)) else none
theorem y_X5_lowest (n : Nat) (M : Mem) (a0 : Int) (a2 : Int) (a4 : Int) : Y RX5 cX5_lowest 12 0 2 none 0 [some (jv a0), none, some (jv a2), none, some (iv a4), none, none, none, none, none, none, none] [] M (m_X5_lowest n M a0 a2 a4) := by
  unfold m_X5_lowest
  refine y_lload_n (pc := 0) dX5_lowest_0 rfl ?_
  refine y_lconst (a := 0) (pc := 1) dX5_lowest_1 (by decide) ?_
  refine y_gd (fun h17 => ?_)
  refine y_lcmp (pc := 2) dX5_lowest_2 h17 (by decide) ?_
  refine y_if_eq (off := 9) (tgt := 12) (pc := 3) dX5_lowest_3 (by decide) (cmp_rng _ _) (fun h18 => ?_) (fun h18 => ?_)
  · exact y_sub (ls_n (ls_n (ls_n (ls_n (ls_s (ls_n (ls_n (ls_n (ls_n (ls_n (ls_n (ls_n ls_0)))))))))))) (t_X5_lowest_12 n M a4)
  · refine y_lload_n (pc := 6) dX5_lowest_6 rfl ?_
    refine y_lconst (a := 0) (pc := 7) dX5_lowest_7 (by decide) ?_
    refine y_gd (fun h19 => ?_)
    refine y_lcmp (pc := 8) dX5_lowest_8 h19 (by decide) ?_
    refine y_if_ne (off := 14) (tgt := 23) (pc := 9) dX5_lowest_9 (by decide) (cmp_rng _ _) (fun h20 => ?_) (fun h20 => ?_)
    · refine y_lload_n (pc := 23) dX5_lowest_23 rfl ?_
      refine y_lstore (L' := [some (jv a0), none, some (jv a2), none, some (iv a4), some (jv a2), none, none, none, none, none, none]) (pc := 24) dX5_lowest_24 (by decide) rfl rfl ?_
      refine y_lload_n (pc := 26) dX5_lowest_26 rfl ?_
      refine y_lload_n (pc := 27) dX5_lowest_27 rfl ?_
      refine y_gd (fun h21 => ?_)
      refine y_lrem (pc := 28) dX5_lowest_28 h17 h19 h21 ?_
      refine y_lstore (L' := [some (jv a0), none, some (jv a2), none, some (iv a4), some (jv a2), none, some (jv (Int.tmod a0 a2)), none, none, none, none]) (pc := 29) dX5_lowest_29 (by decide) rfl rfl ?_
      refine y_iconst (pc := 31) dX5_lowest_31 ?_
      refine y_istore (L' := [some (jv a0), none, some (jv a2), none, some (iv a4), some (jv a2), none, some (jv (Int.tmod a0 a2)), none, some (iv 0), none, none]) (pc := 32) dX5_lowest_32 (by decide) rfl rfl ?_
      exact y_sub (ls_s (ls_n (ls_s (ls_n (ls_s (ls_s (ls_n (ls_s (ls_n (ls_s (ls_n (ls_n ls_0)))))))))))) (t_X5_lowest_34 n n M a0 a2 a4 a2 (Int.tmod a0 a2) 0)
    · exact y_sub (ls_n (ls_n (ls_n (ls_n (ls_s (ls_n (ls_n (ls_n (ls_n (ls_n (ls_n (ls_n ls_0)))))))))))) (t_X5_lowest_12 n M a4)
theorem c_X5_lowest (n : Nat) (M : Mem) (a0 : Int) (a2 : Int) (a4 : Int) : ∀ res : Int × Mem, m_X5_lowest n M a0 a2 a4 = some res → CTl yX5_lowest cX5_lowest 12 0 [jv a0, jv a2, iv a4] M res := CTl_of (by decide +kernel) rfl (Nat.le_of_ble_eq_true rfl) rfl (y_X5_lowest n M a0 a2 a4)
def m_X5_power_5 (n : Nat) : Nat → Mem → Int → Int → Int → Int → Rs
  | 0, _, _, _, _, _ => none
  | t + 1, M, a0, a2, a3, a5 => if I32 a5 then (if I32 a2 then (if a2 ≤ a5 then (some (a3, M)) else ((m_X5_power_5 n t) M a0 a2 (a3 * a0) (a5 + 1))) else none) else none
theorem t_X5_power_5 (n : Nat) : ∀ (t : Nat) (M : Mem) (a0 : Int) (a2 : Int) (a3 : Int) (a5 : Int), Y RX5 cX5_power 6 0 2 none 5 [some (jv a0), none, some (iv a2), some (jv a3), none, some (iv a5)] [] M (m_X5_power_5 n t M a0 a2 a3 a5) := by
  intro t
  induction t with
  | zero => intro M a0 a2 a3 a5; exact y_none
  | succ t ih =>
    intro M a0 a2 a3 a5
    rewrite [m_X5_power_5]
    refine y_iload (pc := 5) dX5_power_5 rfl ?_
    refine y_iload_n (pc := 7) dX5_power_7 rfl ?_
    refine y_gd (fun h1 => ?_)
    refine y_gd (fun h2 => ?_)
    refine y_icmp_ge (off := 13) (tgt := 21) (pc := 8) dX5_power_8 (by decide) h1 h2 (fun h3 => ?_) (fun h3 => ?_)
    · refine y_lload_n (pc := 21) dX5_power_21 rfl ?_
      exact y_lret (pc := 22) dX5_power_22
    · refine y_lload_n (pc := 11) dX5_power_11 rfl ?_
      refine y_lload_n (pc := 12) dX5_power_12 rfl ?_
      refine y_lmul (pc := 13) dX5_power_13 ?_
      refine y_lstore_n (L' := [some (jv a0), none, some (iv a2), some (jv (a3 * a0)), none, some (iv a5)]) (pc := 14) dX5_power_14 (by decide) rfl rfl ?_
      refine y_iinc (L' := [some (jv a0), none, some (iv a2), some (jv (a3 * a0)), none, some (iv (a5 + 1))]) (pc := 15) dX5_power_15 rfl (by decide) rfl rfl ?_
      refine y_goto (tgt := 5) (pc := 18) dX5_power_18 (by decide) ?_
      exact y_sub (ls_s (ls_n (ls_s (ls_s (ls_n (ls_s ls_0)))))) (ih M a0 a2 (a3 * a0) (a5 + 1))
def m_X5_power (n : Nat) (M : Mem) (a0 : Int) (a2 : Int) : Rs := m_X5_power_5 n n M a0 a2 1 0
theorem y_X5_power (n : Nat) (M : Mem) (a0 : Int) (a2 : Int) : Y RX5 cX5_power 6 0 2 none 0 [some (jv a0), none, some (iv a2), none, none, none] [] M (m_X5_power n M a0 a2) := by
  unfold m_X5_power
  refine y_lconst (a := 1) (pc := 0) dX5_power_0 (by decide) ?_
  refine y_lstore_n (L' := [some (jv a0), none, some (iv a2), some (jv 1), none, none]) (pc := 1) dX5_power_1 (by decide) rfl rfl ?_
  refine y_iconst (pc := 2) dX5_power_2 ?_
  refine y_istore (L' := [some (jv a0), none, some (iv a2), some (jv 1), none, some (iv 0)]) (pc := 3) dX5_power_3 (by decide) rfl rfl ?_
  exact y_sub (ls_s (ls_n (ls_s (ls_s (ls_n (ls_s ls_0)))))) (t_X5_power_5 n n M a0 a2 1 0)
theorem c_X5_power (n : Nat) (M : Mem) (a0 : Int) (a2 : Int) : ∀ res : Int × Mem, m_X5_power n M a0 a2 = some res → CTl yX5_power cX5_power 6 0 [jv a0, iv a2] M res := CTl_of (by decide +kernel) rfl (Nat.le_of_ble_eq_true rfl) rfl (y_X5_power n M a0 a2)
def m_X5_refuseLong (n : Nat) (M : Mem) (a1 : Int) : Rs := bd (m_X5_refuse n M a1) (fun r2 M1 => if I32 r2 then (some ((4000000000000000000 - r2), M1)) else none)
theorem y_X5_refuseLong (n : Nat) (M : Mem) (a1 : Int) : Y RX5 cX5_refuseLong 2 1 2 none 0 [some (rv 130), some (iv a1)] [] M (m_X5_refuseLong n M a1) := by
  unfold m_X5_refuseLong
  refine y_ldc2 (pc := 0) (n := 4000000000000000000) k_X5_315 (by decide) dX5_refuseLong_0 ?_
  refine y_aload_n (pc := 3) dX5_refuseLong_3 rfl ?_
  refine y_iload_n (pc := 4) dX5_refuseLong_4 rfl ?_
  refine y_callVi (pc := 5) v_X5_refuse l_X5_60 dX5_refuseLong_5 (c_X5_refuse n _ _) rfl rc_X5 rfl (by decide) (by decide) (Nat.le_of_ble_eq_true rfl) (fun r2 M1 _ => ?_)
  refine y_gd (fun h3 => ?_)
  refine y_i2l (pc := 8) dX5_refuseLong_8 h3 ?_
  refine y_lsub (pc := 9) dX5_refuseLong_9 ?_
  exact y_lret (pc := 10) dX5_refuseLong_10
theorem c_X5_refuseLong (n : Nat) (M : Mem) (a1 : Int) : ∀ res : Int × Mem, m_X5_refuseLong n M a1 = some res → CTl yX5_refuseLong cX5_refuseLong 2 1 [rv 130, iv a1] M res := CTl_of (by decide +kernel) rfl (Nat.le_of_ble_eq_true rfl) rfl (y_X5_refuseLong n M a1)
def m_X5_sun_89 (n : Nat) : Nat → Mem → Int → Int → Int → Int → Int → Int → Int → Rs
  | 0, _, _, _, _, _, _, _, _ => none
  | t + 1, M, a1, a2, a3, a4, a5, a6, a8 => if I32 a8 then (if I32 (bShl 1 a3) then (if (bShl 1 a3) ≤ a8 then (if I32 a4 then (bd (m_X5_power n M a4 a3) (fun r6 M5 => bd (m_X5_lowest n M5 a6 r6 a5) (fun r8 M7 => some (r8, M7)))) else none) else (bd (m_X5_isOwnedBehind n M a1 a2 a3 a8) (fun r10 M9 => if I32 r10 then (if r10 = 0 then ((m_X5_sun_89 n t) M9 a1 a2 a3 a4 a5 a6 (a8 + 1)) else (if I32 (a4 - 1) then (bd (m_J6_bitCount_0f7a4 n M9 a8) (fun r15 M14 => bd (m_X5_power n M14 (a4 - 1) (a3 - r15)) (fun r17 M16 => (m_X5_sun_89 n t) M16 a1 a2 a3 a4 a5 (a6 + r17) (a8 + 1)))) else none)) else none))) else none) else none
theorem t_X5_sun_89 (n : Nat) : ∀ (t : Nat) (M : Mem) (a1 : Int) (a2 : Int) (a3 : Int) (a4 : Int) (a5 : Int) (a6 : Int) (a8 : Int), Y RX5 cX5_sun 9 6 2 none 89 [some (rv 130), some (iv a1), some (iv a2), some (iv a3), some (iv a4), some (iv a5), some (jv a6), none, some (iv a8)] [] M (m_X5_sun_89 n t M a1 a2 a3 a4 a5 a6 a8) := by
  intro t
  induction t with
  | zero => intro M a1 a2 a3 a4 a5 a6 a8; exact y_none
  | succ t ih =>
    intro M a1 a2 a3 a4 a5 a6 a8
    rewrite [m_X5_sun_89]
    refine y_iload (pc := 89) dX5_sun_89 rfl ?_
    refine y_iconst (pc := 91) dX5_sun_91 ?_
    refine y_iload_n (pc := 92) dX5_sun_92 rfl ?_
    refine y_ishl (pc := 93) dX5_sun_93 ?_
    refine y_gd (fun h1 => ?_)
    refine y_gd (fun h2 => ?_)
    refine y_icmp_ge (off := 41) (tgt := 135) (pc := 94) dX5_sun_94 (by decide) h1 h2 (fun h3 => ?_) (fun h3 => ?_)
    · refine y_lload (pc := 135) dX5_sun_135 rfl ?_
      refine y_iload (pc := 137) dX5_sun_137 rfl ?_
      refine y_gd (fun h4 => ?_)
      refine y_i2l (pc := 139) dX5_sun_139 h4 ?_
      refine y_iload_n (pc := 140) dX5_sun_140 rfl ?_
      refine y_callSl (pc := 141) s_X5_power l_X5_268 dX5_sun_141 (c_X5_power n _ _ _) rfl rfl (by decide) (by decide) (Nat.le_of_ble_eq_true rfl) (fun r6 M5 _ => ?_)
      refine y_iload (pc := 144) dX5_sun_144 rfl ?_
      refine y_callSl (pc := 146) s_X5_lowest l_X5_272 dX5_sun_146 (c_X5_lowest n _ _ _ _) rfl rfl (by decide) (by decide) (Nat.le_of_ble_eq_true rfl) (fun r8 M7 _ => ?_)
      exact y_lret (pc := 149) dX5_sun_149
    · refine y_aload_n (pc := 97) dX5_sun_97 rfl ?_
      refine y_iload_n (pc := 98) dX5_sun_98 rfl ?_
      refine y_iload_n (pc := 99) dX5_sun_99 rfl ?_
      refine y_iload_n (pc := 100) dX5_sun_100 rfl ?_
      refine y_iload (pc := 101) dX5_sun_101 rfl ?_
      refine y_callVi (pc := 103) v_X5_isOwnedBehind l_X5_264 dX5_sun_103 (c_X5_isOwnedBehind n _ _ _ _ _) rfl rc_X5 rfl (by decide) (by decide) (Nat.le_of_ble_eq_true rfl) (fun r10 M9 _ => ?_)
      refine y_gd (fun h11 => ?_)
      refine y_if_eq (off := 23) (tgt := 129) (pc := 106) dX5_sun_106 (by decide) h11 (fun h12 => ?_) (fun h12 => ?_)
      · refine y_iinc (L' := [some (rv 130), some (iv a1), some (iv a2), some (iv a3), some (iv a4), some (iv a5), some (jv a6), none, some (iv (a8 + 1))]) (pc := 129) dX5_sun_129 rfl (by decide) rfl rfl ?_
        refine y_goto (tgt := 89) (pc := 132) dX5_sun_132 (by decide) ?_
        exact y_sub (ls_s (ls_s (ls_s (ls_s (ls_s (ls_s (ls_s (ls_n (ls_s ls_0))))))))) (ih M9 a1 a2 a3 a4 a5 a6 (a8 + 1))
      · refine y_lload (pc := 109) dX5_sun_109 rfl ?_
        refine y_iload (pc := 111) dX5_sun_111 rfl ?_
        refine y_iconst (pc := 113) dX5_sun_113 ?_
        refine y_isub (pc := 114) dX5_sun_114 ?_
        refine y_gd (fun h13 => ?_)
        refine y_i2l (pc := 115) dX5_sun_115 h13 ?_
        refine y_iload_n (pc := 116) dX5_sun_116 rfl ?_
        refine y_iload (pc := 117) dX5_sun_117 rfl ?_
        refine y_callSi (pc := 119) s_J6_bitCount_0f7a4 l_X5_242 dX5_sun_119 (c_J6_bitCount_0f7a4 n _ _) rfl rfl (by decide) (by decide) (Nat.le_of_ble_eq_true rfl) (fun r15 M14 _ => ?_)
        refine y_isub (pc := 122) dX5_sun_122 ?_
        refine y_callSl (pc := 123) s_X5_power l_X5_268 dX5_sun_123 (c_X5_power n _ _ _) rfl rfl (by decide) (by decide) (Nat.le_of_ble_eq_true rfl) (fun r17 M16 _ => ?_)
        refine y_ladd (pc := 126) dX5_sun_126 ?_
        refine y_lstore (L' := [some (rv 130), some (iv a1), some (iv a2), some (iv a3), some (iv a4), some (iv a5), some (jv (a6 + r17)), none, some (iv a8)]) (pc := 127) dX5_sun_127 (by decide) rfl rfl ?_
        refine y_iinc (L' := [some (rv 130), some (iv a1), some (iv a2), some (iv a3), some (iv a4), some (iv a5), some (jv (a6 + r17)), none, some (iv (a8 + 1))]) (pc := 129) dX5_sun_129 rfl (by decide) rfl rfl ?_
        refine y_goto (tgt := 89) (pc := 132) dX5_sun_132 (by decide) ?_
        exact y_sub (ls_s (ls_s (ls_s (ls_s (ls_s (ls_s (ls_s (ls_n (ls_s ls_0))))))))) (ih M16 a1 a2 a3 a4 a5 (a6 + r17) (a8 + 1))
def m_X5_sun_83 (n : Nat) (M : Mem) (a1 : Int) (a2 : Int) (a3 : Int) (a4 : Int) (a5 : Int) : Rs := m_X5_sun_89 n n M a1 a2 a3 a4 a5 0 0
theorem t_X5_sun_83 (n : Nat) (M : Mem) (a1 : Int) (a2 : Int) (a3 : Int) (a4 : Int) (a5 : Int) : Y RX5 cX5_sun 9 6 2 none 83 [some (rv 130), some (iv a1), some (iv a2), some (iv a3), some (iv a4), some (iv a5), none, none, none] [] M (m_X5_sun_83 n M a1 a2 a3 a4 a5) := by
  unfold m_X5_sun_83
  refine y_lconst (a := 0) (pc := 83) dX5_sun_83 (by decide) ?_
  refine y_lstore (L' := [some (rv 130), some (iv a1), some (iv a2), some (iv a3), some (iv a4), some (iv a5), some (jv 0), none, none]) (pc := 84) dX5_sun_84 (by decide) rfl rfl ?_
  refine y_iconst (pc := 86) dX5_sun_86 ?_
  refine y_istore (L' := [some (rv 130), some (iv a1), some (iv a2), some (iv a3), some (iv a4), some (iv a5), some (jv 0), none, some (iv 0)]) (pc := 87) dX5_sun_87 (by decide) rfl rfl ?_
  exact y_sub (ls_s (ls_s (ls_s (ls_s (ls_s (ls_s (ls_s (ls_n (ls_s ls_0))))))))) (t_X5_sun_89 n n M a1 a2 a3 a4 a5 0 0)
def m_X5_sun_58 (n : Nat) (M : Mem) : Rs := bd (m_X5_refuseLong n M (-6)) (fun r19 M18 => some (r19, M18))
theorem t_X5_sun_58 (n : Nat) (M : Mem) : Y RX5 cX5_sun 9 6 2 none 58 [some (rv 130), none, none, none, none, none, none, none, none] [] M (m_X5_sun_58 n M) := by
  unfold m_X5_sun_58
  refine y_aload_n (pc := 58) dX5_sun_58 rfl ?_
  refine y_bipush (pc := 59) dX5_sun_59 (by decide) ?_
  refine y_callVl (pc := 61) v_X5_refuseLong l_X5_260 dX5_sun_61 (c_X5_refuseLong n _ _) rfl rc_X5 rfl (by decide) (by decide) (Nat.le_of_ble_eq_true rfl) (fun r19 M18 _ => ?_)
  exact y_lret (pc := 64) dX5_sun_64
def m_X5_sun_38 (n : Nat) (M : Mem) : Rs := bd (m_X5_refuseLong n M (-4)) (fun r21 M20 => some (r21, M20))
theorem t_X5_sun_38 (n : Nat) (M : Mem) : Y RX5 cX5_sun 9 6 2 none 38 [some (rv 130), none, none, none, none, none, none, none, none] [] M (m_X5_sun_38 n M) := by
  unfold m_X5_sun_38
  refine y_aload_n (pc := 38) dX5_sun_38 rfl ?_
  refine y_bipush (pc := 39) dX5_sun_39 (by decide) ?_
  refine y_callVl (pc := 41) v_X5_refuseLong l_X5_260 dX5_sun_41 (c_X5_refuseLong n _ _) rfl rc_X5 rfl (by decide) (by decide) (Nat.le_of_ble_eq_true rfl) (fun r21 M20 _ => ?_)
  exact y_lret (pc := 44) dX5_sun_44
def m_X5_sun_22 (n : Nat) (M : Mem) : Rs := bd (m_X5_refuseLong n M (-1)) (fun r23 M22 => some (r23, M22))
theorem t_X5_sun_22 (n : Nat) (M : Mem) : Y RX5 cX5_sun 9 6 2 none 22 [some (rv 130), none, none, none, none, none, none, none, none] [] M (m_X5_sun_22 n M) := by
  unfold m_X5_sun_22
  refine y_aload_n (pc := 22) dX5_sun_22 rfl ?_
  refine y_iconst (pc := 23) dX5_sun_23 ?_
  refine y_callVl (pc := 24) v_X5_refuseLong l_X5_260 dX5_sun_24 (c_X5_refuseLong n _ _) rfl rc_X5 rfl (by decide) (by decide) (Nat.le_of_ble_eq_true rfl) (fun r23 M22 _ => ?_)
  exact y_lret (pc := 27) dX5_sun_27
def m_X5_sun (n : Nat) (M : Mem) (a1 : Int) (a2 : Int) (a3 : Int) (a4 : Int) (a5 : Int) : Rs := bd (m_X4_hasPerson n M 0 a1) (fun r25 M24 => if I32 r25 then (if r25 = 0 then (m_X5_sun_22 n M24) else (bd (m_X4_hasThing n M24 0 a2) (fun r29 M28 => if I32 r29 then (if r29 = 0 then (m_X5_sun_22 n M28) else (if I32 a3 then (if a3 < 0 then (m_X5_sun_38 n M28) else (if I32 a4 then (if 2 ≤ a4 then (if 7 < a3 then (m_X5_sun_58 n M28) else (if a4 ≤ 20 then (if I32 a5 then (if a5 = 0 then (m_X5_sun_83 n M28 a1 a2 a3 a4 a5) else (if a5 = 1 then (m_X5_sun_83 n M28 a1 a2 a3 a4 a5) else (bd (m_X5_refuseLong n M28 (-2)) (fun r42 M41 => some (r42, M41))))) else none) else (m_X5_sun_58 n M28))) else (m_X5_sun_38 n M28)) else none)) else none)) else none))) else none)
theorem y_X5_sun (n : Nat) (M : Mem) (a1 : Int) (a2 : Int) (a3 : Int) (a4 : Int) (a5 : Int) : Y RX5 cX5_sun 9 6 2 none 0 [some (rv 130), some (iv a1), some (iv a2), some (iv a3), some (iv a4), some (iv a5), none, none, none] [] M (m_X5_sun n M a1 a2 a3 a4 a5) := by
  unfold m_X5_sun
  refine y_aload_n (pc := 0) dX5_sun_0 rfl ?_
  refine y_getref (pc := 1) (x := 0) g_X5_10 dX5_sun_1 ?_
  refine y_iload_n (pc := 4) dX5_sun_4 rfl ?_
  refine y_callVi (pc := 5) v_X4_hasPerson l_X5_123 dX5_sun_5 (c_X4_hasPerson n _ _ _) rfl (rc_X4 (by decide)) rfl (by decide) (by decide) (Nat.le_of_ble_eq_true rfl) (fun r25 M24 _ => ?_)
  refine y_gd (fun h26 => ?_)
  refine y_if_eq (off := 14) (tgt := 22) (pc := 8) dX5_sun_8 (by decide) h26 (fun h27 => ?_) (fun h27 => ?_)
  · exact y_sub (ls_s (ls_n (ls_n (ls_n (ls_n (ls_n (ls_n (ls_n (ls_n ls_0))))))))) (t_X5_sun_22 n M24)
  · refine y_aload_n (pc := 11) dX5_sun_11 rfl ?_
    refine y_getref (pc := 12) (x := 0) g_X5_10 dX5_sun_12 ?_
    refine y_iload_n (pc := 15) dX5_sun_15 rfl ?_
    refine y_callVi (pc := 16) v_X4_hasThing l_X5_159 dX5_sun_16 (c_X4_hasThing n _ _ _) rfl (rc_X4 (by decide)) rfl (by decide) (by decide) (Nat.le_of_ble_eq_true rfl) (fun r29 M28 _ => ?_)
    refine y_gd (fun h30 => ?_)
    refine y_if_ne (off := 9) (tgt := 28) (pc := 19) dX5_sun_19 (by decide) h30 (fun h31 => ?_) (fun h31 => ?_)
    · refine y_iload_n (pc := 28) dX5_sun_28 rfl ?_
      refine y_gd (fun h32 => ?_)
      refine y_if_lt (off := 9) (tgt := 38) (pc := 29) dX5_sun_29 (by decide) h32 (fun h33 => ?_) (fun h33 => ?_)
      · exact y_sub (ls_s (ls_n (ls_n (ls_n (ls_n (ls_n (ls_n (ls_n (ls_n ls_0))))))))) (t_X5_sun_38 n M28)
      · refine y_iload (pc := 32) dX5_sun_32 rfl ?_
        refine y_iconst (pc := 34) dX5_sun_34 ?_
        refine y_gd (fun h34 => ?_)
        refine y_icmp_ge (off := 10) (tgt := 45) (pc := 35) dX5_sun_35 (by decide) h34 (by decide) (fun h35 => ?_) (fun h35 => ?_)
        · refine y_iload_n (pc := 45) dX5_sun_45 rfl ?_
          refine y_bipush (pc := 46) dX5_sun_46 (by decide) ?_
          refine y_icmp_gt (off := 10) (tgt := 58) (pc := 48) dX5_sun_48 (by decide) h32 (by decide) (fun h36 => ?_) (fun h36 => ?_)
          · exact y_sub (ls_s (ls_n (ls_n (ls_n (ls_n (ls_n (ls_n (ls_n (ls_n ls_0))))))))) (t_X5_sun_58 n M28)
          · refine y_iload (pc := 51) dX5_sun_51 rfl ?_
            refine y_bipush (pc := 53) dX5_sun_53 (by decide) ?_
            refine y_icmp_le (off := 10) (tgt := 65) (pc := 55) dX5_sun_55 (by decide) h34 (by decide) (fun h37 => ?_) (fun h37 => ?_)
            · refine y_iload (pc := 65) dX5_sun_65 rfl ?_
              refine y_gd (fun h38 => ?_)
              refine y_if_eq (off := 16) (tgt := 83) (pc := 67) dX5_sun_67 (by decide) h38 (fun h39 => ?_) (fun h39 => ?_)
              · exact y_sub (ls_s (ls_s (ls_s (ls_s (ls_s (ls_s (ls_n (ls_n (ls_n ls_0))))))))) (t_X5_sun_83 n M28 a1 a2 a3 a4 a5)
              · refine y_iload (pc := 70) dX5_sun_70 rfl ?_
                refine y_iconst (pc := 72) dX5_sun_72 ?_
                refine y_icmp_eq (off := 10) (tgt := 83) (pc := 73) dX5_sun_73 (by decide) h38 (by decide) (fun h40 => ?_) (fun h40 => ?_)
                · exact y_sub (ls_s (ls_s (ls_s (ls_s (ls_s (ls_s (ls_n (ls_n (ls_n ls_0))))))))) (t_X5_sun_83 n M28 a1 a2 a3 a4 a5)
                · refine y_aload_n (pc := 76) dX5_sun_76 rfl ?_
                  refine y_bipush (pc := 77) dX5_sun_77 (by decide) ?_
                  refine y_callVl (pc := 79) v_X5_refuseLong l_X5_260 dX5_sun_79 (c_X5_refuseLong n _ _) rfl rc_X5 rfl (by decide) (by decide) (Nat.le_of_ble_eq_true rfl) (fun r42 M41 _ => ?_)
                  exact y_lret (pc := 82) dX5_sun_82
            · exact y_sub (ls_s (ls_n (ls_n (ls_n (ls_n (ls_n (ls_n (ls_n (ls_n ls_0))))))))) (t_X5_sun_58 n M28)
        · exact y_sub (ls_s (ls_n (ls_n (ls_n (ls_n (ls_n (ls_n (ls_n (ls_n ls_0))))))))) (t_X5_sun_38 n M28)
    · exact y_sub (ls_s (ls_n (ls_n (ls_n (ls_n (ls_n (ls_n (ls_n (ls_n ls_0))))))))) (t_X5_sun_22 n M28)
theorem c_X5_sun (n : Nat) (M : Mem) (a1 : Int) (a2 : Int) (a3 : Int) (a4 : Int) (a5 : Int) : ∀ res : Int × Mem, m_X5_sun n M a1 a2 a3 a4 a5 = some res → CTl yX5_sun cX5_sun 9 6 [rv 130, iv a1, iv a2, iv a3, iv a4, iv a5] M res := CTl_of (by decide +kernel) rfl (Nat.le_of_ble_eq_true rfl) rfl (y_X5_sun n M a1 a2 a3 a4 a5)
