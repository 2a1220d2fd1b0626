def m_L_coast_218 (Ls : Nat) (xs : Nat → Int32) (n : Nat) : Nat → Mem → Int → Int → Rs
  | 0, _, _, _ => none
  | t + 1, M, a3, a4 => if I32 a4 then (if 3 ≤ a4 then (bd (m_L_cell Ls xs n M 24) (fun r4 M3 => bd (m_L_pick n M3 r4 9) (fun r6 M5 => bd (m_X5_thick n M5 (1 + r6)) (fun r8 M7 => bd (m_L_cell Ls xs n M7 25) (fun r10 M9 => bd (m_L_pick n M9 r10 12) (fun r12 M11 => if I32 r12 then (if r12 ≤ 0 then (some (0, M11)) else (bd (m_X5_hours n M11 r12) (fun r16 M15 => some (0, M15)))) else none)))))) else (bd (m_L_cell Ls xs n M (21 + a4)) (fun r18 M17 => bd (m_X5_count n M17 1) (fun r20 M19 => bd (m_L_pick n M19 r18 r20) (fun r22 M21 => bd (m_L_cell Ls xs n M21 (21 + a4)) (fun r24 M23 => bd (m_L_pick n M23 (bShr r24 3) (a3 + 1)) (fun r26 M25 => bd (m_X5_owns n M25 r22 (r26 - 1)) (fun r28 M27 => bd (m_L_cell Ls xs n M27 (21 + a4)) (fun r30 M29 => bd (m_L_pick n M29 (bShr r30 6) a3) (fun r32 M31 => bd (m_L_cell Ls xs n M31 (21 + a4)) (fun r34 M33 => bd (m_L_pick n M33 (bShr r34 9) 24) (fun r36 M35 => bd (m_X5_stands n M35 r32 r36) (fun r38 M37 => (m_L_coast_218 Ls xs n t) M37 a3 (a4 + 1)))))))))))))) else none
theorem t_L_coast_218 (Ls : Nat) (xs : Nat → Int32) (hLs : Ls < 2147483648) (hLs32 : I32 (Ls : Int)) (n : Nat) : ∀ (t : Nat) (M : Mem) (a3 : Int) (a4 : Int), Y RL cL_coast 5 7 3 (some (Ls, xs)) 218 [some (rv 130), some (rv 158), none, some (iv a3), some (iv a4)] [] M (m_L_coast_218 Ls xs n t M a3 a4) := by
  intro t
  induction t with
  | zero => intro M a3 a4; exact y_none
  | succ t ih =>
    intro M a3 a4
    rewrite [m_L_coast_218]
    refine y_iload (pc := 218) dL_coast_218 rfl ?_
    refine y_iconst (pc := 220) dL_coast_220 ?_
    refine y_gd (fun h1 => ?_)
    refine y_icmp_ge (off := 88) (tgt := 309) (pc := 221) dL_coast_221 (by decide) h1 (by decide) (fun h2 => ?_) (fun h2 => ?_)
    · refine y_aload_n (pc := 309) dL_coast_309 rfl ?_
      refine y_iconst (pc := 310) dL_coast_310 ?_
      refine y_aload_n (pc := 311) dL_coast_311 rfl ?_
      refine y_bipush (pc := 312) dL_coast_312 (by decide) ?_
      refine y_callSi (pc := 314) s_L_cell l_L_27 dL_coast_314 (c_L_cell Ls xs hLs hLs32 n _ _) (fun _ h => h) rfl rfl (by decide) (by decide) (Nat.le_of_ble_eq_true rfl) (fun r4 M3 _ => ?_)
      refine y_bipush (pc := 317) dL_coast_317 (by decide) ?_
      refine y_callSi (pc := 319) s_L_pick l_L_33 dL_coast_319 (c_L_pick n _ _ _) (fun _ h => nomatch h) rfl rfl (by decide) (by decide) (Nat.le_of_ble_eq_true rfl) (fun r6 M5 _ => ?_)
      refine y_iadd (pc := 322) dL_coast_322 ?_
      refine y_callVi (pc := 323) v_X5_thick l_L_56 dL_coast_323 (c_X5_thick n _ _) (fun _ h => nomatch h) rfl rc_X5 rfl (by decide) (by decide) (Nat.le_of_ble_eq_true rfl) (fun r8 M7 _ => ?_)
      refine y_pop (pc := 326) dL_coast_326 rfl ?_
      refine y_aload_n (pc := 327) dL_coast_327 rfl ?_
      refine y_bipush (pc := 328) dL_coast_328 (by decide) ?_
      refine y_callSi (pc := 330) s_L_cell l_L_27 dL_coast_330 (c_L_cell Ls xs hLs hLs32 n _ _) (fun _ h => h) rfl rfl (by decide) (by decide) (Nat.le_of_ble_eq_true rfl) (fun r10 M9 _ => ?_)
      refine y_bipush (pc := 333) dL_coast_333 (by decide) ?_
      refine y_callSi (pc := 335) s_L_pick l_L_33 dL_coast_335 (c_L_pick n _ _ _) (fun _ h => nomatch h) rfl rfl (by decide) (by decide) (Nat.le_of_ble_eq_true rfl) (fun r12 M11 _ => ?_)
      refine y_istore (L' := [some (rv 130), some (rv 158), none, some (iv a3), some (iv r12)]) (pc := 338) dL_coast_338 (by decide) rfl rfl ?_
      refine y_iload (pc := 340) dL_coast_340 rfl ?_
      refine y_gd (fun h13 => ?_)
      refine y_if_le (off := 10) (tgt := 352) (pc := 342) dL_coast_342 (by decide) h13 (fun h14 => ?_) (fun h14 => ?_)
      · exact y_vret (pc := 352) dL_coast_352
      · refine y_aload_n (pc := 345) dL_coast_345 rfl ?_
        refine y_iload (pc := 346) dL_coast_346 rfl ?_
        refine y_callVi (pc := 348) v_X5_hours l_L_59 dL_coast_348 (c_X5_hours n _ _) (fun _ h => nomatch h) rfl rc_X5 rfl (by decide) (by decide) (Nat.le_of_ble_eq_true rfl) (fun r16 M15 _ => ?_)
        refine y_pop (pc := 351) dL_coast_351 rfl ?_
        exact y_vret (pc := 352) dL_coast_352
    · refine y_aload_n (pc := 224) dL_coast_224 rfl ?_
      refine y_aload_n (pc := 225) dL_coast_225 rfl ?_
      refine y_bipush (pc := 226) dL_coast_226 (by decide) ?_
      refine y_iload (pc := 228) dL_coast_228 rfl ?_
      refine y_iadd (pc := 230) dL_coast_230 ?_
      refine y_callSi (pc := 231) s_L_cell l_L_27 dL_coast_231 (c_L_cell Ls xs hLs hLs32 n _ _) (fun _ h => h) rfl rfl (by decide) (by decide) (Nat.le_of_ble_eq_true rfl) (fun r18 M17 _ => ?_)
      refine y_aload_n (pc := 234) dL_coast_234 rfl ?_
      refine y_iconst (pc := 235) dL_coast_235 ?_
      refine y_callVi (pc := 236) v_X5_count l_L_47 dL_coast_236 (c_X5_count n _ _) (fun _ h => nomatch h) rfl rc_X5 rfl (by decide) (by decide) (Nat.le_of_ble_eq_true rfl) (fun r20 M19 _ => ?_)
      refine y_callSi (pc := 239) s_L_pick l_L_33 dL_coast_239 (c_L_pick n _ _ _) (fun _ h => nomatch h) rfl rfl (by decide) (by decide) (Nat.le_of_ble_eq_true rfl) (fun r22 M21 _ => ?_)
      refine y_aload_n (pc := 242) dL_coast_242 rfl ?_
      refine y_bipush (pc := 243) dL_coast_243 (by decide) ?_
      refine y_iload (pc := 245) dL_coast_245 rfl ?_
      refine y_iadd (pc := 247) dL_coast_247 ?_
      refine y_callSi (pc := 248) s_L_cell l_L_27 dL_coast_248 (c_L_cell Ls xs hLs hLs32 n _ _) (fun _ h => h) rfl rfl (by decide) (by decide) (Nat.le_of_ble_eq_true rfl) (fun r24 M23 _ => ?_)
      refine y_iconst (pc := 251) dL_coast_251 ?_
      refine y_ishr (pc := 252) dL_coast_252 ?_
      refine y_iload_n (pc := 253) dL_coast_253 rfl ?_
      refine y_iconst (pc := 254) dL_coast_254 ?_
      refine y_iadd (pc := 255) dL_coast_255 ?_
      refine y_callSi (pc := 256) s_L_pick l_L_33 dL_coast_256 (c_L_pick n _ _ _) (fun _ h => nomatch h) rfl rfl (by decide) (by decide) (Nat.le_of_ble_eq_true rfl) (fun r26 M25 _ => ?_)
      refine y_iconst (pc := 259) dL_coast_259 ?_
      refine y_isub (pc := 260) dL_coast_260 ?_
      refine y_callVi (pc := 261) v_X5_owns l_L_50 dL_coast_261 (c_X5_owns n _ _ _) (fun _ h => nomatch h) rfl rc_X5 rfl (by decide) (by decide) (Nat.le_of_ble_eq_true rfl) (fun r28 M27 _ => ?_)
      refine y_pop (pc := 264) dL_coast_264 rfl ?_
      refine y_aload_n (pc := 265) dL_coast_265 rfl ?_
      refine y_aload_n (pc := 266) dL_coast_266 rfl ?_
      refine y_bipush (pc := 267) dL_coast_267 (by decide) ?_
      refine y_iload (pc := 269) dL_coast_269 rfl ?_
      refine y_iadd (pc := 271) dL_coast_271 ?_
      refine y_callSi (pc := 272) s_L_cell l_L_27 dL_coast_272 (c_L_cell Ls xs hLs hLs32 n _ _) (fun _ h => h) rfl rfl (by decide) (by decide) (Nat.le_of_ble_eq_true rfl) (fun r30 M29 _ => ?_)
      refine y_bipush (pc := 275) dL_coast_275 (by decide) ?_
      refine y_ishr (pc := 277) dL_coast_277 ?_
      refine y_iload_n (pc := 278) dL_coast_278 rfl ?_
      refine y_callSi (pc := 279) s_L_pick l_L_33 dL_coast_279 (c_L_pick n _ _ _) (fun _ h => nomatch h) rfl rfl (by decide) (by decide) (Nat.le_of_ble_eq_true rfl) (fun r32 M31 _ => ?_)
      refine y_aload_n (pc := 282) dL_coast_282 rfl ?_
      refine y_bipush (pc := 283) dL_coast_283 (by decide) ?_
      refine y_iload (pc := 285) dL_coast_285 rfl ?_
      refine y_iadd (pc := 287) dL_coast_287 ?_
      refine y_callSi (pc := 288) s_L_cell l_L_27 dL_coast_288 (c_L_cell Ls xs hLs hLs32 n _ _) (fun _ h => h) rfl rfl (by decide) (by decide) (Nat.le_of_ble_eq_true rfl) (fun r34 M33 _ => ?_)
      refine y_bipush (pc := 291) dL_coast_291 (by decide) ?_
      refine y_ishr (pc := 293) dL_coast_293 ?_
      refine y_bipush (pc := 294) dL_coast_294 (by decide) ?_
      refine y_callSi (pc := 296) s_L_pick l_L_33 dL_coast_296 (c_L_pick n _ _ _) (fun _ h => nomatch h) rfl rfl (by decide) (by decide) (Nat.le_of_ble_eq_true rfl) (fun r36 M35 _ => ?_)
      refine y_callVi (pc := 299) v_X5_stands l_L_53 dL_coast_299 (c_X5_stands n _ _ _) (fun _ h => nomatch h) rfl rc_X5 rfl (by decide) (by decide) (Nat.le_of_ble_eq_true rfl) (fun r38 M37 _ => ?_)
      refine y_pop (pc := 302) dL_coast_302 rfl ?_
      refine y_iinc (L' := [some (rv 130), some (rv 158), none, some (iv a3), some (iv (a4 + 1))]) (pc := 303) dL_coast_303 rfl (by decide) rfl rfl ?_
      refine y_goto (tgt := 218) (pc := 306) dL_coast_306 (by decide) ?_
      exact y_sub (ls_s (ls_s (ls_n (ls_s (ls_s ls_0))))) (ih M37 a3 (a4 + 1))
def m_L_coast_166 (Ls : Nat) (xs : Nat → Int32) (n : Nat) : Nat → Mem → Int → Rs
  | 0, _, _ => none
  | t + 1, M, a3 => if I32 a3 then (if a3 ≤ 0 then (bd (m_X5_count n M 0) (fun r42 M41 => m_L_coast_218 Ls xs n n M41 r42 0)) else (bd (m_L_cell Ls xs n M (13 + a3)) (fun r44 M43 => bd (m_L_pick n M43 r44 10) (fun r46 M45 => bd (m_L_cell Ls xs n M45 (13 + a3)) (fun r48 M47 => bd (m_L_pick n M47 (bShr r48 4) 24) (fun r50 M49 => bd (m_X5_lies n M49 r46 r50) (fun r52 M51 => (m_L_coast_166 Ls xs n t) M51 (a3 + (-1))))))))) else none
theorem t_L_coast_166 (Ls : Nat) (xs : Nat → Int32) (hLs : Ls < 2147483648) (hLs32 : I32 (Ls : Int)) (n : Nat) : ∀ (t : Nat) (M : Mem) (a3 : Int), Y RL cL_coast 5 7 3 (some (Ls, xs)) 166 [some (rv 130), some (rv 158), none, some (iv a3), none] [] M (m_L_coast_166 Ls xs n t M a3) := by
  intro t
  induction t with
  | zero => intro M a3; exact y_none
  | succ t ih =>
    intro M a3
    rewrite [m_L_coast_166]
    refine y_iload_n (pc := 166) dL_coast_166 rfl ?_
    refine y_gd (fun h39 => ?_)
    refine y_if_le (off := 42) (tgt := 209) (pc := 167) dL_coast_167 (by decide) h39 (fun h40 => ?_) (fun h40 => ?_)
    · refine y_aload_n (pc := 209) dL_coast_209 rfl ?_
      refine y_iconst (pc := 210) dL_coast_210 ?_
      refine y_callVi (pc := 211) v_X5_count l_L_47 dL_coast_211 (c_X5_count n _ _) (fun _ h => nomatch h) rfl rc_X5 rfl (by decide) (by decide) (Nat.le_of_ble_eq_true rfl) (fun r42 M41 _ => ?_)
      refine y_istore_n (L' := [some (rv 130), some (rv 158), none, some (iv r42), none]) (pc := 214) dL_coast_214 (by decide) rfl rfl ?_
      refine y_iconst (pc := 215) dL_coast_215 ?_
      refine y_istore (L' := [some (rv 130), some (rv 158), none, some (iv r42), some (iv 0)]) (pc := 216) dL_coast_216 (by decide) rfl rfl ?_
      exact y_sub (ls_s (ls_s (ls_n (ls_s (ls_s ls_0))))) (t_L_coast_218 Ls xs hLs hLs32 n n M41 r42 0)
    · refine y_aload_n (pc := 170) dL_coast_170 rfl ?_
      refine y_aload_n (pc := 171) dL_coast_171 rfl ?_
      refine y_bipush (pc := 172) dL_coast_172 (by decide) ?_
      refine y_iload_n (pc := 174) dL_coast_174 rfl ?_
      refine y_iadd (pc := 175) dL_coast_175 ?_
      refine y_callSi (pc := 176) s_L_cell l_L_27 dL_coast_176 (c_L_cell Ls xs hLs hLs32 n _ _) (fun _ h => h) rfl rfl (by decide) (by decide) (Nat.le_of_ble_eq_true rfl) (fun r44 M43 _ => ?_)
      refine y_bipush (pc := 179) dL_coast_179 (by decide) ?_
      refine y_callSi (pc := 181) s_L_pick l_L_33 dL_coast_181 (c_L_pick n _ _ _) (fun _ h => nomatch h) rfl rfl (by decide) (by decide) (Nat.le_of_ble_eq_true rfl) (fun r46 M45 _ => ?_)
      refine y_aload_n (pc := 184) dL_coast_184 rfl ?_
      refine y_bipush (pc := 185) dL_coast_185 (by decide) ?_
      refine y_iload_n (pc := 187) dL_coast_187 rfl ?_
      refine y_iadd (pc := 188) dL_coast_188 ?_
      refine y_callSi (pc := 189) s_L_cell l_L_27 dL_coast_189 (c_L_cell Ls xs hLs hLs32 n _ _) (fun _ h => h) rfl rfl (by decide) (by decide) (Nat.le_of_ble_eq_true rfl) (fun r48 M47 _ => ?_)
      refine y_iconst (pc := 192) dL_coast_192 ?_
      refine y_ishr (pc := 193) dL_coast_193 ?_
      refine y_bipush (pc := 194) dL_coast_194 (by decide) ?_
      refine y_callSi (pc := 196) s_L_pick l_L_33 dL_coast_196 (c_L_pick n _ _ _) (fun _ h => nomatch h) rfl rfl (by decide) (by decide) (Nat.le_of_ble_eq_true rfl) (fun r50 M49 _ => ?_)
      refine y_callVi (pc := 199) v_X5_lies l_L_44 dL_coast_199 (c_X5_lies n _ _ _) (fun _ h => nomatch h) rfl rc_X5 rfl (by decide) (by decide) (Nat.le_of_ble_eq_true rfl) (fun r52 M51 _ => ?_)
      refine y_pop (pc := 202) dL_coast_202 rfl ?_
      refine y_iinc (L' := [some (rv 130), some (rv 158), none, some (iv (a3 + (-1))), none]) (pc := 203) dL_coast_203 rfl (by decide) rfl rfl ?_
      refine y_goto (tgt := 166) (pc := 206) dL_coast_206 (by decide) ?_
      exact y_sub (ls_s (ls_s (ls_n (ls_s (ls_n ls_0))))) (ih M51 (a3 + (-1)))
def m_L_coast_93 (Ls : Nat) (xs : Nat → Int32) (n : Nat) : Nat → Mem → Int → Rs
  | 0, _, _ => none
  | t + 1, M, a3 => if I32 a3 then (if a3 ≤ 0 then (bd (m_L_cell Ls xs n M 13) (fun r56 M55 => bd (m_L_pick n M55 r56 7) (fun r58 M57 => m_L_coast_166 Ls xs n n M57 (1 + r58)))) else (bd (m_L_cell Ls xs n M (7 + a3)) (fun r60 M59 => bd (m_L_pick n M59 r60 8) (fun r62 M61 => bd (m_L_cell Ls xs n M61 (7 + a3)) (fun r64 M63 => bd (m_L_pick n M63 (bShr r64 3) 10) (fun r66 M65 => bd (m_L_cell Ls xs n M65 (7 + a3)) (fun r68 M67 => bd (m_L_pick n M67 (bShr r68 7) 24) (fun r70 M69 => bd (m_X5_comes n M69 r62 r66 r70) (fun r72 M71 => (m_L_coast_93 Ls xs n t) M71 (a3 + (-1))))))))))) else none
theorem t_L_coast_93 (Ls : Nat) (xs : Nat → Int32) (hLs : Ls < 2147483648) (hLs32 : I32 (Ls : Int)) (n : Nat) : ∀ (t : Nat) (M : Mem) (a3 : Int), Y RL cL_coast 5 7 3 (some (Ls, xs)) 93 [some (rv 130), some (rv 158), none, some (iv a3), none] [] M (m_L_coast_93 Ls xs n t M a3) := by
  intro t
  induction t with
  | zero => intro M a3; exact y_none
  | succ t ih =>
    intro M a3
    rewrite [m_L_coast_93]
    refine y_iload_n (pc := 93) dL_coast_93 rfl ?_
    refine y_gd (fun h53 => ?_)
    refine y_if_le (off := 58) (tgt := 152) (pc := 94) dL_coast_94 (by decide) h53 (fun h54 => ?_) (fun h54 => ?_)
    · refine y_iconst (pc := 152) dL_coast_152 ?_
      refine y_aload_n (pc := 153) dL_coast_153 rfl ?_
      refine y_bipush (pc := 154) dL_coast_154 (by decide) ?_
      refine y_callSi (pc := 156) s_L_cell l_L_27 dL_coast_156 (c_L_cell Ls xs hLs hLs32 n _ _) (fun _ h => h) rfl rfl (by decide) (by decide) (Nat.le_of_ble_eq_true rfl) (fun r56 M55 _ => ?_)
      refine y_bipush (pc := 159) dL_coast_159 (by decide) ?_
      refine y_callSi (pc := 161) s_L_pick l_L_33 dL_coast_161 (c_L_pick n _ _ _) (fun _ h => nomatch h) rfl rfl (by decide) (by decide) (Nat.le_of_ble_eq_true rfl) (fun r58 M57 _ => ?_)
      refine y_iadd (pc := 164) dL_coast_164 ?_
      refine y_istore_n (L' := [some (rv 130), some (rv 158), none, some (iv (1 + r58)), none]) (pc := 165) dL_coast_165 (by decide) rfl rfl ?_
      exact y_sub (ls_s (ls_s (ls_n (ls_s (ls_n ls_0))))) (t_L_coast_166 Ls xs hLs hLs32 n n M57 (1 + r58))
    · refine y_aload_n (pc := 97) dL_coast_97 rfl ?_
      refine y_aload_n (pc := 98) dL_coast_98 rfl ?_
      refine y_bipush (pc := 99) dL_coast_99 (by decide) ?_
      refine y_iload_n (pc := 101) dL_coast_101 rfl ?_
      refine y_iadd (pc := 102) dL_coast_102 ?_
      refine y_callSi (pc := 103) s_L_cell l_L_27 dL_coast_103 (c_L_cell Ls xs hLs hLs32 n _ _) (fun _ h => h) rfl rfl (by decide) (by decide) (Nat.le_of_ble_eq_true rfl) (fun r60 M59 _ => ?_)
      refine y_bipush (pc := 106) dL_coast_106 (by decide) ?_
      refine y_callSi (pc := 108) s_L_pick l_L_33 dL_coast_108 (c_L_pick n _ _ _) (fun _ h => nomatch h) rfl rfl (by decide) (by decide) (Nat.le_of_ble_eq_true rfl) (fun r62 M61 _ => ?_)
      refine y_aload_n (pc := 111) dL_coast_111 rfl ?_
      refine y_bipush (pc := 112) dL_coast_112 (by decide) ?_
      refine y_iload_n (pc := 114) dL_coast_114 rfl ?_
      refine y_iadd (pc := 115) dL_coast_115 ?_
      refine y_callSi (pc := 116) s_L_cell l_L_27 dL_coast_116 (c_L_cell Ls xs hLs hLs32 n _ _) (fun _ h => h) rfl rfl (by decide) (by decide) (Nat.le_of_ble_eq_true rfl) (fun r64 M63 _ => ?_)
      refine y_iconst (pc := 119) dL_coast_119 ?_
      refine y_ishr (pc := 120) dL_coast_120 ?_
      refine y_bipush (pc := 121) dL_coast_121 (by decide) ?_
      refine y_callSi (pc := 123) s_L_pick l_L_33 dL_coast_123 (c_L_pick n _ _ _) (fun _ h => nomatch h) rfl rfl (by decide) (by decide) (Nat.le_of_ble_eq_true rfl) (fun r66 M65 _ => ?_)
      refine y_aload_n (pc := 126) dL_coast_126 rfl ?_
      refine y_bipush (pc := 127) dL_coast_127 (by decide) ?_
      refine y_iload_n (pc := 129) dL_coast_129 rfl ?_
      refine y_iadd (pc := 130) dL_coast_130 ?_
      refine y_callSi (pc := 131) s_L_cell l_L_27 dL_coast_131 (c_L_cell Ls xs hLs hLs32 n _ _) (fun _ h => h) rfl rfl (by decide) (by decide) (Nat.le_of_ble_eq_true rfl) (fun r68 M67 _ => ?_)
      refine y_bipush (pc := 134) dL_coast_134 (by decide) ?_
      refine y_ishr (pc := 136) dL_coast_136 ?_
      refine y_bipush (pc := 137) dL_coast_137 (by decide) ?_
      refine y_callSi (pc := 139) s_L_pick l_L_33 dL_coast_139 (c_L_pick n _ _ _) (fun _ h => nomatch h) rfl rfl (by decide) (by decide) (Nat.le_of_ble_eq_true rfl) (fun r70 M69 _ => ?_)
      refine y_callVi (pc := 142) v_X5_comes l_L_41 dL_coast_142 (c_X5_comes n _ _ _ _) (fun _ h => nomatch h) rfl rc_X5 rfl (by decide) (by decide) (Nat.le_of_ble_eq_true rfl) (fun r72 M71 _ => ?_)
      refine y_pop (pc := 145) dL_coast_145 rfl ?_
      refine y_iinc (L' := [some (rv 130), some (rv 158), none, some (iv (a3 + (-1))), none]) (pc := 146) dL_coast_146 rfl (by decide) rfl rfl ?_
      refine y_goto (tgt := 93) (pc := 149) dL_coast_149 (by decide) ?_
      exact y_sub (ls_s (ls_s (ls_n (ls_s (ls_n ls_0))))) (ih M71 (a3 + (-1)))
def m_L_coast_67 (Ls : Nat) (xs : Nat → Int32) (n : Nat) (k11 : Mem → Int → Int → Rs) (M : Mem) (a2 : Int) (a3 : Int) (s0 : Int) (s1 : Int) (s2 : Int) (s3 : Int) : Rs := bd (m_L_pick n M s1 s0) (fun r74 M73 => bd (m_X5_blows n M73 s3 s2 r74) (fun r76 M75 => k11 M75 a2 (a3 + (-1))))
theorem t_L_coast_67 (Ls : Nat) (xs : Nat → Int32) (hLs : Ls < 2147483648) (hLs32 : I32 (Ls : Int)) (n : Nat) (k11 : Mem → Int → Int → Rs) (hk11 : ∀ (M : Mem) (a2 : Int) (a3 : Int), Y RL cL_coast 5 7 3 (some (Ls, xs)) 11 [some (rv 130), some (rv 158), some (iv a2), some (iv a3), none] [] M (k11 M a2 a3)) (M : Mem) (a2 : Int) (a3 : Int) (s0 : Int) (s1 : Int) (s2 : Int) (s3 : Int) : Y RL cL_coast 5 7 3 (some (Ls, xs)) 67 [some (rv 130), some (rv 158), some (iv a2), some (iv a3), none] [iv s0, iv s1, iv s2, iv s3, rv 130] M (m_L_coast_67 Ls xs n k11 M a2 a3 s0 s1 s2 s3) := by
  unfold m_L_coast_67
  refine y_callSi (pc := 67) s_L_pick l_L_33 dL_coast_67 (c_L_pick n _ _ _) (fun _ h => nomatch h) rfl rfl (by decide) (by decide) (Nat.le_of_ble_eq_true rfl) (fun r74 M73 _ => ?_)
  refine y_callVi (pc := 70) v_X5_blows l_L_37 dL_coast_70 (c_X5_blows n _ _ _ _) (fun _ h => nomatch h) rfl rc_X5 rfl (by decide) (by decide) (Nat.le_of_ble_eq_true rfl) (fun r76 M75 _ => ?_)
  refine y_pop (pc := 73) dL_coast_73 rfl ?_
  refine y_iinc (L' := [some (rv 130), some (rv 158), some (iv a2), some (iv (a3 + (-1))), none]) (pc := 74) dL_coast_74 rfl (by decide) rfl rfl ?_
  refine y_goto (tgt := 11) (pc := 77) dL_coast_77 (by decide) ?_
  exact y_sub (ls_s (ls_s (ls_s (ls_s (ls_n ls_0))))) (hk11 M75 a2 (a3 + (-1)))
def m_L_coast_11 (Ls : Nat) (xs : Nat → Int32) (n : Nat) : Nat → Mem → Int → Int → Rs
  | 0, _, _, _ => none
  | t + 1, M, a2, a3 => if I32 a3 then (if a3 ≤ 0 then (bd (m_L_cell Ls xs n M 7) (fun r80 M79 => bd (m_L_pick n M79 r80 a2) (fun r82 M81 => m_L_coast_93 Ls xs n n M81 (1 + r82)))) else (bd (m_L_cell Ls xs n M a3) (fun r84 M83 => bd (m_L_pick n M83 r84 7) (fun r86 M85 => bd (m_L_cell Ls xs n M85 a3) (fun r88 M87 => bd (m_L_pick n M87 (bShr r88 3) 10) (fun r90 M89 => bd (m_L_cell Ls xs n M89 a3) (fun r92 M91 => bd (m_L_cell Ls xs n M91 a3) (fun r94 M93 => bd (m_L_pick n M93 (bShr r94 12) 2) (fun r96 M95 => if I32 r96 then (if r96 = 0 then (m_L_coast_67 Ls xs n (m_L_coast_11 Ls xs n t) M95 a2 a3 10 (bShr r92 7) r90 r86) else (m_L_coast_67 Ls xs n (m_L_coast_11 Ls xs n t) M95 a2 a3 4 (bShr r92 7) r90 r86)) else none))))))))) else none
theorem t_L_coast_11 (Ls : Nat) (xs : Nat → Int32) (hLs : Ls < 2147483648) (hLs32 : I32 (Ls : Int)) (n : Nat) : ∀ (t : Nat) (M : Mem) (a2 : Int) (a3 : Int), Y RL cL_coast 5 7 3 (some (Ls, xs)) 11 [some (rv 130), some (rv 158), some (iv a2), some (iv a3), none] [] M (m_L_coast_11 Ls xs n t M a2 a3) := by
  intro t
  induction t with
  | zero => intro M a2 a3; exact y_none
  | succ t ih =>
    intro M a2 a3
    rewrite [m_L_coast_11]
    refine y_iload_n (pc := 11) dL_coast_11 rfl ?_
    refine y_gd (fun h77 => ?_)
    refine y_if_le (off := 68) (tgt := 80) (pc := 12) dL_coast_12 (by decide) h77 (fun h78 => ?_) (fun h78 => ?_)
    · refine y_iconst (pc := 80) dL_coast_80 ?_
      refine y_aload_n (pc := 81) dL_coast_81 rfl ?_
      refine y_bipush (pc := 82) dL_coast_82 (by decide) ?_
      refine y_callSi (pc := 84) s_L_cell l_L_27 dL_coast_84 (c_L_cell Ls xs hLs hLs32 n _ _) (fun _ h => h) rfl rfl (by decide) (by decide) (Nat.le_of_ble_eq_true rfl) (fun r80 M79 _ => ?_)
      refine y_iload_n (pc := 87) dL_coast_87 rfl ?_
      refine y_callSi (pc := 88) s_L_pick l_L_33 dL_coast_88 (c_L_pick n _ _ _) (fun _ h => nomatch h) rfl rfl (by decide) (by decide) (Nat.le_of_ble_eq_true rfl) (fun r82 M81 _ => ?_)
      refine y_iadd (pc := 91) dL_coast_91 ?_
      refine y_istore_n (L' := [some (rv 130), some (rv 158), some (iv a2), some (iv (1 + r82)), none]) (pc := 92) dL_coast_92 (by decide) rfl rfl ?_
      exact y_sub (ls_s (ls_s (ls_n (ls_s (ls_n ls_0))))) (t_L_coast_93 Ls xs hLs hLs32 n n M81 (1 + r82))
    · refine y_aload_n (pc := 15) dL_coast_15 rfl ?_
      refine y_aload_n (pc := 16) dL_coast_16 rfl ?_
      refine y_iload_n (pc := 17) dL_coast_17 rfl ?_
      refine y_callSi (pc := 18) s_L_cell l_L_27 dL_coast_18 (c_L_cell Ls xs hLs hLs32 n _ _) (fun _ h => h) rfl rfl (by decide) (by decide) (Nat.le_of_ble_eq_true rfl) (fun r84 M83 _ => ?_)
      refine y_bipush (pc := 21) dL_coast_21 (by decide) ?_
      refine y_callSi (pc := 23) s_L_pick l_L_33 dL_coast_23 (c_L_pick n _ _ _) (fun _ h => nomatch h) rfl rfl (by decide) (by decide) (Nat.le_of_ble_eq_true rfl) (fun r86 M85 _ => ?_)
      refine y_aload_n (pc := 26) dL_coast_26 rfl ?_
      refine y_iload_n (pc := 27) dL_coast_27 rfl ?_
      refine y_callSi (pc := 28) s_L_cell l_L_27 dL_coast_28 (c_L_cell Ls xs hLs hLs32 n _ _) (fun _ h => h) rfl rfl (by decide) (by decide) (Nat.le_of_ble_eq_true rfl) (fun r88 M87 _ => ?_)
      refine y_iconst (pc := 31) dL_coast_31 ?_
      refine y_ishr (pc := 32) dL_coast_32 ?_
      refine y_bipush (pc := 33) dL_coast_33 (by decide) ?_
      refine y_callSi (pc := 35) s_L_pick l_L_33 dL_coast_35 (c_L_pick n _ _ _) (fun _ h => nomatch h) rfl rfl (by decide) (by decide) (Nat.le_of_ble_eq_true rfl) (fun r90 M89 _ => ?_)
      refine y_aload_n (pc := 38) dL_coast_38 rfl ?_
      refine y_iload_n (pc := 39) dL_coast_39 rfl ?_
      refine y_callSi (pc := 40) s_L_cell l_L_27 dL_coast_40 (c_L_cell Ls xs hLs hLs32 n _ _) (fun _ h => h) rfl rfl (by decide) (by decide) (Nat.le_of_ble_eq_true rfl) (fun r92 M91 _ => ?_)
      refine y_bipush (pc := 43) dL_coast_43 (by decide) ?_
      refine y_ishr (pc := 45) dL_coast_45 ?_
      refine y_aload_n (pc := 46) dL_coast_46 rfl ?_
      refine y_iload_n (pc := 47) dL_coast_47 rfl ?_
      refine y_callSi (pc := 48) s_L_cell l_L_27 dL_coast_48 (c_L_cell Ls xs hLs hLs32 n _ _) (fun _ h => h) rfl rfl (by decide) (by decide) (Nat.le_of_ble_eq_true rfl) (fun r94 M93 _ => ?_)
      refine y_bipush (pc := 51) dL_coast_51 (by decide) ?_
      refine y_ishr (pc := 53) dL_coast_53 ?_
      refine y_iconst (pc := 54) dL_coast_54 ?_
      refine y_callSi (pc := 55) s_L_pick l_L_33 dL_coast_55 (c_L_pick n _ _ _) (fun _ h => nomatch h) rfl rfl (by decide) (by decide) (Nat.le_of_ble_eq_true rfl) (fun r96 M95 _ => ?_)
      refine y_gd (fun h97 => ?_)
      refine y_if_ne (off := 8) (tgt := 66) (pc := 58) dL_coast_58 (by decide) h97 (fun h98 => ?_) (fun h98 => ?_)
      · refine y_iconst (pc := 66) dL_coast_66 ?_
        exact y_sub (ls_s (ls_s (ls_s (ls_s (ls_n ls_0))))) (t_L_coast_67 Ls xs hLs hLs32 n (m_L_coast_11 Ls xs n t) ih M95 a2 a3 4 (bShr r92 7) r90 r86)
      · refine y_bipush (pc := 61) dL_coast_61 (by decide) ?_
        refine y_goto (tgt := 67) (pc := 63) dL_coast_63 (by decide) ?_
        exact y_sub (ls_s (ls_s (ls_s (ls_s (ls_n ls_0))))) (t_L_coast_67 Ls xs hLs hLs32 n (m_L_coast_11 Ls xs n t) ih M95 a2 a3 10 (bShr r92 7) r90 r86)
def m_L_coast (Ls : Nat) (xs : Nat → Int32) (n : Nat) (M : Mem) (a2 : Int) : Rs := bd (m_L_cell Ls xs n M 0) (fun r100 M99 => bd (m_L_pick n M99 r100 6) (fun r102 M101 => m_L_coast_11 Ls xs n n M101 a2 r102))
theorem y_L_coast (Ls : Nat) (xs : Nat → Int32) (hLs : Ls < 2147483648) (hLs32 : I32 (Ls : Int)) (n : Nat) (M : Mem) (a2 : Int) : Y RL cL_coast 5 7 3 (some (Ls, xs)) 0 [some (rv 130), some (rv 158), some (iv a2), none, none] [] M (m_L_coast Ls xs n M a2) := by
  unfold m_L_coast
  refine y_aload_n (pc := 0) dL_coast_0 rfl ?_
  refine y_iconst (pc := 1) dL_coast_1 ?_
  refine y_callSi (pc := 2) s_L_cell l_L_27 dL_coast_2 (c_L_cell Ls xs hLs hLs32 n _ _) (fun _ h => h) rfl rfl (by decide) (by decide) (Nat.le_of_ble_eq_true rfl) (fun r100 M99 _ => ?_)
  refine y_bipush (pc := 5) dL_coast_5 (by decide) ?_
  refine y_callSi (pc := 7) s_L_pick l_L_33 dL_coast_7 (c_L_pick n _ _ _) (fun _ h => nomatch h) rfl rfl (by decide) (by decide) (Nat.le_of_ble_eq_true rfl) (fun r102 M101 _ => ?_)
  refine y_istore_n (L' := [some (rv 130), some (rv 158), some (iv a2), some (iv r102), none]) (pc := 10) dL_coast_10 (by decide) rfl rfl ?_
  exact y_sub (ls_s (ls_s (ls_s (ls_s (ls_n ls_0))))) (t_L_coast_11 Ls xs hLs hLs32 n n M101 a2 r102)
theorem c_L_coast (Ls : Nat) (xs : Nat → Int32) (hLs : Ls < 2147483648) (hLs32 : I32 (Ls : Int)) (n : Nat) (M : Mem) (a2 : Int) : ∀ res : Int × Mem, m_L_coast Ls xs n M a2 = some res → CTv (some (Ls, xs)) yL_coast cL_coast 5 7 [rv 130, rv 158, iv a2] M res := CTv_of (by decide +kernel) rfl (Nat.le_of_ble_eq_true rfl) rfl (y_L_coast Ls xs hLs hLs32 n M a2)
