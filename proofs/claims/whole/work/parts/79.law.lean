def m_L_law_18 (Ls : Nat) (xs : Nat → Int32) (n : Nat) : Nat → Mem → Int → Rs
  | 0, _, _ => none
  | t + 1, M, a3 => if I32 a3 then (if I32 ((Ls : Int) - 6) then (if ((Ls : Int) - 6) < a3 then (some (1, M)) else (if 0 ≤ a3 ∧ a3 < (Ls : Int) then (if I32 (bAnd ((xs (Int.toNat a3)).toInt) 63) then (if (bAnd ((xs (Int.toNat a3)).toInt) 63) = 0 then (if 0 ≤ (a3 + 1) ∧ (a3 + 1) < (Ls : Int) then (bd (m_X5_feed n M ((xs (Int.toNat (a3 + 1))).toInt)) (fun r9 M8 => bd (m_X6_feed n M8 ((xs (Int.toNat (a3 + 1))).toInt)) (fun r11 M10 => if I32 r9 then (if I32 r11 then (if r9 = r11 then ((m_L_law_18 Ls xs n t) M10 (a3 + 6)) else (some (0, M10))) else none) else none))) else none) else (if (bAnd ((xs (Int.toNat a3)).toInt) 63) = 1 then (bd (m_X5_coast n M) (fun r17 M16 => bd (m_X6_coast n M16) (fun r19 M18 => if I32 r17 then (if I32 r19 then (if r17 = r19 then ((m_L_law_18 Ls xs n t) M18 (a3 + 6)) else (some (0, M18))) else none) else none))) else (if (bAnd ((xs (Int.toNat a3)).toInt) 63) = 2 then (if 0 ≤ (a3 + 1) ∧ (a3 + 1) < (Ls : Int) then (if 0 ≤ (a3 + 2) ∧ (a3 + 2) < (Ls : Int) then (bd (m_X5_person n M ((xs (Int.toNat (a3 + 1))).toInt) ((xs (Int.toNat (a3 + 2))).toInt)) (fun r27 M26 => bd (m_X6_person n M26 ((xs (Int.toNat (a3 + 1))).toInt) ((xs (Int.toNat (a3 + 2))).toInt)) (fun r29 M28 => if I32 r27 then (if I32 r29 then (if r27 = r29 then ((m_L_law_18 Ls xs n t) M28 (a3 + 6)) else (some (0, M28))) else none) else none))) else none) else none) else (if (bAnd ((xs (Int.toNat a3)).toInt) 63) = 3 then (if 0 ≤ (a3 + 1) ∧ (a3 + 1) < (Ls : Int) then (if 0 ≤ (a3 + 2) ∧ (a3 + 2) < (Ls : Int) then (bd (m_X5_thing n M ((xs (Int.toNat (a3 + 1))).toInt) ((xs (Int.toNat (a3 + 2))).toInt)) (fun r37 M36 => bd (m_X6_thing n M36 ((xs (Int.toNat (a3 + 1))).toInt) ((xs (Int.toNat (a3 + 2))).toInt)) (fun r39 M38 => if I32 r37 then (if I32 r39 then (if r37 = r39 then ((m_L_law_18 Ls xs n t) M38 (a3 + 6)) else (some (0, M38))) else none) else none))) else none) else none) else (if (bAnd ((xs (Int.toNat a3)).toInt) 63) = 4 then (if 0 ≤ (a3 + 1) ∧ (a3 + 1) < (Ls : Int) then (if 0 ≤ (a3 + 2) ∧ (a3 + 2) < (Ls : Int) then (bd (m_X5_front n M ((xs (Int.toNat (a3 + 1))).toInt) ((xs (Int.toNat (a3 + 2))).toInt)) (fun r47 M46 => bd (m_X6_front n M46 ((xs (Int.toNat (a3 + 1))).toInt) ((xs (Int.toNat (a3 + 2))).toInt)) (fun r49 M48 => if I32 r47 then (if I32 r49 then (if r47 = r49 then ((m_L_law_18 Ls xs n t) M48 (a3 + 6)) else (some (0, M48))) else none) else none))) else none) else none) else (if (bAnd ((xs (Int.toNat a3)).toInt) 63) = 5 then (if 0 ≤ (a3 + 1) ∧ (a3 + 1) < (Ls : Int) then (if 0 ≤ (a3 + 2) ∧ (a3 + 2) < (Ls : Int) then (bd (m_X5_cell n M ((xs (Int.toNat (a3 + 1))).toInt) ((xs (Int.toNat (a3 + 2))).toInt)) (fun r57 M56 => bd (m_X6_cell n M56 ((xs (Int.toNat (a3 + 1))).toInt) ((xs (Int.toNat (a3 + 2))).toInt)) (fun r59 M58 => if I32 r57 then (if I32 r59 then (if r57 = r59 then ((m_L_law_18 Ls xs n t) M58 (a3 + 6)) else (some (0, M58))) else none) else none))) else none) else none) else (if (bAnd ((xs (Int.toNat a3)).toInt) 63) = 6 then (if 0 ≤ (a3 + 1) ∧ (a3 + 1) < (Ls : Int) then (if 0 ≤ (a3 + 2) ∧ (a3 + 2) < (Ls : Int) then (if 0 ≤ (a3 + 3) ∧ (a3 + 3) < (Ls : Int) then (bd (m_X5_blows n M ((xs (Int.toNat (a3 + 1))).toInt) ((xs (Int.toNat (a3 + 2))).toInt) ((xs (Int.toNat (a3 + 3))).toInt)) (fun r68 M67 => bd (m_X6_blows n M67 ((xs (Int.toNat (a3 + 1))).toInt) ((xs (Int.toNat (a3 + 2))).toInt) ((xs (Int.toNat (a3 + 3))).toInt)) (fun r70 M69 => if I32 r68 then (if I32 r70 then (if r68 = r70 then ((m_L_law_18 Ls xs n t) M69 (a3 + 6)) else (some (0, M69))) else none) else none))) else none) else none) else none) else (if (bAnd ((xs (Int.toNat a3)).toInt) 63) = 7 then (if 0 ≤ (a3 + 1) ∧ (a3 + 1) < (Ls : Int) then (if 0 ≤ (a3 + 2) ∧ (a3 + 2) < (Ls : Int) then (if 0 ≤ (a3 + 3) ∧ (a3 + 3) < (Ls : Int) then (bd (m_X5_comes n M ((xs (Int.toNat (a3 + 1))).toInt) ((xs (Int.toNat (a3 + 2))).toInt) ((xs (Int.toNat (a3 + 3))).toInt)) (fun r79 M78 => bd (m_X6_comes n M78 ((xs (Int.toNat (a3 + 1))).toInt) ((xs (Int.toNat (a3 + 2))).toInt) ((xs (Int.toNat (a3 + 3))).toInt)) (fun r81 M80 => if I32 r79 then (if I32 r81 then (if r79 = r81 then ((m_L_law_18 Ls xs n t) M80 (a3 + 6)) else (some (0, M80))) else none) else none))) else none) else none) else none) else (if (bAnd ((xs (Int.toNat a3)).toInt) 63) = 8 then (if 0 ≤ (a3 + 1) ∧ (a3 + 1) < (Ls : Int) then (if 0 ≤ (a3 + 2) ∧ (a3 + 2) < (Ls : Int) then (bd (m_X5_lies n M ((xs (Int.toNat (a3 + 1))).toInt) ((xs (Int.toNat (a3 + 2))).toInt)) (fun r89 M88 => bd (m_X6_lies n M88 ((xs (Int.toNat (a3 + 1))).toInt) ((xs (Int.toNat (a3 + 2))).toInt)) (fun r91 M90 => if I32 r89 then (if I32 r91 then (if r89 = r91 then ((m_L_law_18 Ls xs n t) M90 (a3 + 6)) else (some (0, M90))) else none) else none))) else none) else none) else (if (bAnd ((xs (Int.toNat a3)).toInt) 63) = 9 then (if 0 ≤ (a3 + 1) ∧ (a3 + 1) < (Ls : Int) then (bd (m_X5_thick n M ((xs (Int.toNat (a3 + 1))).toInt)) (fun r98 M97 => bd (m_X6_thick n M97 ((xs (Int.toNat (a3 + 1))).toInt)) (fun r100 M99 => if I32 r98 then (if I32 r100 then (if r98 = r100 then ((m_L_law_18 Ls xs n t) M99 (a3 + 6)) else (some (0, M99))) else none) else none))) else none) else (if (bAnd ((xs (Int.toNat a3)).toInt) 63) = 10 then (if 0 ≤ (a3 + 1) ∧ (a3 + 1) < (Ls : Int) then (if 0 ≤ (a3 + 2) ∧ (a3 + 2) < (Ls : Int) then (bd (m_X5_owns n M ((xs (Int.toNat (a3 + 1))).toInt) ((xs (Int.toNat (a3 + 2))).toInt)) (fun r108 M107 => bd (m_X6_owns n M107 ((xs (Int.toNat (a3 + 1))).toInt) ((xs (Int.toNat (a3 + 2))).toInt)) (fun r110 M109 => if I32 r108 then (if I32 r110 then (if r108 = r110 then ((m_L_law_18 Ls xs n t) M109 (a3 + 6)) else (some (0, M109))) else none) else none))) else none) else none) else (if (bAnd ((xs (Int.toNat a3)).toInt) 63) = 11 then (if 0 ≤ (a3 + 1) ∧ (a3 + 1) < (Ls : Int) then (if 0 ≤ (a3 + 2) ∧ (a3 + 2) < (Ls : Int) then (bd (m_X5_stands n M ((xs (Int.toNat (a3 + 1))).toInt) ((xs (Int.toNat (a3 + 2))).toInt)) (fun r118 M117 => bd (m_X6_stands n M117 ((xs (Int.toNat (a3 + 1))).toInt) ((xs (Int.toNat (a3 + 2))).toInt)) (fun r120 M119 => if I32 r118 then (if I32 r120 then (if r118 = r120 then ((m_L_law_18 Ls xs n t) M119 (a3 + 6)) else (some (0, M119))) else none) else none))) else none) else none) else (if (bAnd ((xs (Int.toNat a3)).toInt) 63) = 12 then (if 0 ≤ (a3 + 1) ∧ (a3 + 1) < (Ls : Int) then (if 0 ≤ (a3 + 2) ∧ (a3 + 2) < (Ls : Int) then (bd (m_X5_carries n M ((xs (Int.toNat (a3 + 1))).toInt) ((xs (Int.toNat (a3 + 2))).toInt)) (fun r128 M127 => bd (m_X6_carries n M127 ((xs (Int.toNat (a3 + 1))).toInt) ((xs (Int.toNat (a3 + 2))).toInt)) (fun r130 M129 => if I32 r128 then (if I32 r130 then (if r128 = r130 then ((m_L_law_18 Ls xs n t) M129 (a3 + 6)) else (some (0, M129))) else none) else none))) else none) else none) else (if (bAnd ((xs (Int.toNat a3)).toInt) 63) = 13 then (if 0 ≤ (a3 + 1) ∧ (a3 + 1) < (Ls : Int) then (bd (m_X5_hours n M ((xs (Int.toNat (a3 + 1))).toInt)) (fun r137 M136 => bd (m_X6_hours n M136 ((xs (Int.toNat (a3 + 1))).toInt)) (fun r139 M138 => if I32 r137 then (if I32 r139 then (if r137 = r139 then ((m_L_law_18 Ls xs n t) M138 (a3 + 6)) else (some (0, M138))) else none) else none))) else none) else (if (bAnd ((xs (Int.toNat a3)).toInt) 63) = 14 then (bd (m_X5_back n M) (fun r145 M144 => bd (m_X6_back n M144) (fun r147 M146 => if I32 r145 then (if I32 r147 then (if r145 = r147 then ((m_L_law_18 Ls xs n t) M146 (a3 + 6)) else (some (0, M146))) else none) else none))) else (if (bAnd ((xs (Int.toNat a3)).toInt) 63) = 15 then (if 0 ≤ (a3 + 1) ∧ (a3 + 1) < (Ls : Int) then (if 0 ≤ (a3 + 2) ∧ (a3 + 2) < (Ls : Int) then (bd (m_X5_fogThen n M ((xs (Int.toNat (a3 + 1))).toInt) ((xs (Int.toNat (a3 + 2))).toInt)) (fun r155 M154 => bd (m_X6_fogThen n M154 ((xs (Int.toNat (a3 + 1))).toInt) ((xs (Int.toNat (a3 + 2))).toInt)) (fun r157 M156 => if I32 r155 then (if I32 r157 then (if r155 = r157 then ((m_L_law_18 Ls xs n t) M156 (a3 + 6)) else (some (0, M156))) else none) else none))) else none) else none) else (if (bAnd ((xs (Int.toNat a3)).toInt) 63) = 16 then (if 0 ≤ (a3 + 1) ∧ (a3 + 1) < (Ls : Int) then (if 0 ≤ (a3 + 2) ∧ (a3 + 2) < (Ls : Int) then (bd (m_X5_then n M ((xs (Int.toNat (a3 + 1))).toInt) ((xs (Int.toNat (a3 + 2))).toInt)) (fun r165 M164 => bd (m_X6_then n M164 ((xs (Int.toNat (a3 + 1))).toInt) ((xs (Int.toNat (a3 + 2))).toInt)) (fun r167 M166 => if I32 r165 then (if I32 r167 then (if r165 = r167 then ((m_L_law_18 Ls xs n t) M166 (a3 + 6)) else (some (0, M166))) else none) else none))) else none) else none) else (if (bAnd ((xs (Int.toNat a3)).toInt) 63) = 17 then (if 0 ≤ (a3 + 1) ∧ (a3 + 1) < (Ls : Int) then (if 0 ≤ (a3 + 2) ∧ (a3 + 2) < (Ls : Int) then (bd (m_X5_ownerThen n M ((xs (Int.toNat (a3 + 1))).toInt) ((xs (Int.toNat (a3 + 2))).toInt)) (fun r175 M174 => bd (m_X6_ownerThen n M174 ((xs (Int.toNat (a3 + 1))).toInt) ((xs (Int.toNat (a3 + 2))).toInt)) (fun r177 M176 => if I32 r175 then (if I32 r177 then (if r175 = r177 then ((m_L_law_18 Ls xs n t) M176 (a3 + 6)) else (some (0, M176))) else none) else none))) else none) else none) else (if (bAnd ((xs (Int.toNat a3)).toInt) 63) = 18 then (if 0 ≤ (a3 + 1) ∧ (a3 + 1) < (Ls : Int) then (if 0 ≤ (a3 + 2) ∧ (a3 + 2) < (Ls : Int) then (if 0 ≤ (a3 + 3) ∧ (a3 + 3) < (Ls : Int) then (bd (m_X5_personThen n M ((xs (Int.toNat (a3 + 1))).toInt) ((xs (Int.toNat (a3 + 2))).toInt) ((xs (Int.toNat (a3 + 3))).toInt)) (fun r186 M185 => bd (m_X6_personThen n M185 ((xs (Int.toNat (a3 + 1))).toInt) ((xs (Int.toNat (a3 + 2))).toInt) ((xs (Int.toNat (a3 + 3))).toInt)) (fun r188 M187 => if I32 r186 then (if I32 r188 then (if r186 = r188 then ((m_L_law_18 Ls xs n t) M187 (a3 + 6)) else (some (0, M187))) else none) else none))) else none) else none) else none) else (if (bAnd ((xs (Int.toNat a3)).toInt) 63) = 19 then (if 0 ≤ (a3 + 1) ∧ (a3 + 1) < (Ls : Int) then (if 0 ≤ (a3 + 2) ∧ (a3 + 2) < (Ls : Int) then (bd (m_X5_when n M ((xs (Int.toNat (a3 + 1))).toInt) ((xs (Int.toNat (a3 + 2))).toInt)) (fun r196 M195 => bd (m_X6_when n M195 ((xs (Int.toNat (a3 + 1))).toInt) ((xs (Int.toNat (a3 + 2))).toInt)) (fun r198 M197 => if I32 r196 then (if I32 r198 then (if r196 = r198 then ((m_L_law_18 Ls xs n t) M197 (a3 + 6)) else (some (0, M197))) else none) else none))) else none) else none) else (if (bAnd ((xs (Int.toNat a3)).toInt) 63) = 20 then (bd (m_X5_first n M) (fun r204 M203 => bd (m_X6_first n M203) (fun r206 M205 => if I32 r204 then (if I32 r206 then (if r204 = r206 then ((m_L_law_18 Ls xs n t) M205 (a3 + 6)) else (some (0, M205))) else none) else none))) else (if (bAnd ((xs (Int.toNat a3)).toInt) 63) = 21 then (if 0 ≤ (a3 + 1) ∧ (a3 + 1) < (Ls : Int) then (bd (m_X5_clears n M ((xs (Int.toNat (a3 + 1))).toInt)) (fun r213 M212 => bd (m_X6_clears n M212 ((xs (Int.toNat (a3 + 1))).toInt)) (fun r215 M214 => if I32 r213 then (if I32 r215 then (if r213 = r215 then ((m_L_law_18 Ls xs n t) M214 (a3 + 6)) else (some (0, M214))) else none) else none))) else none) else (if (bAnd ((xs (Int.toNat a3)).toInt) 63) = 22 then (if 0 ≤ (a3 + 1) ∧ (a3 + 1) < (Ls : Int) then (if 0 ≤ (a3 + 2) ∧ (a3 + 2) < (Ls : Int) then (if 0 ≤ (a3 + 3) ∧ (a3 + 3) < (Ls : Int) then (bd (m_X5_stand n M ((xs (Int.toNat (a3 + 1))).toInt) ((xs (Int.toNat (a3 + 2))).toInt) ((xs (Int.toNat (a3 + 3))).toInt)) (fun r224 M223 => bd (m_X6_stand n M223 ((xs (Int.toNat (a3 + 1))).toInt) ((xs (Int.toNat (a3 + 2))).toInt) ((xs (Int.toNat (a3 + 3))).toInt)) (fun r226 M225 => if I32 r224 then (if I32 r226 then (if r224 = r226 then ((m_L_law_18 Ls xs n t) M225 (a3 + 6)) else (some (0, M225))) else none) else none))) else none) else none) else none) else (if (bAnd ((xs (Int.toNat a3)).toInt) 63) = 23 then (if 0 ≤ (a3 + 1) ∧ (a3 + 1) < (Ls : Int) then (if 0 ≤ (a3 + 2) ∧ (a3 + 2) < (Ls : Int) then (if 0 ≤ (a3 + 3) ∧ (a3 + 3) < (Ls : Int) then (bd (m_X5_kettle n M ((xs (Int.toNat (a3 + 1))).toInt) ((xs (Int.toNat (a3 + 2))).toInt) ((xs (Int.toNat (a3 + 3))).toInt)) (fun r235 M234 => bd (m_X6_kettle n M234 ((xs (Int.toNat (a3 + 1))).toInt) ((xs (Int.toNat (a3 + 2))).toInt) ((xs (Int.toNat (a3 + 3))).toInt)) (fun r237 M236 => if I32 r235 then (if I32 r237 then (if r235 = r237 then ((m_L_law_18 Ls xs n t) M236 (a3 + 6)) else (some (0, M236))) else none) else none))) else none) else none) else none) else (if (bAnd ((xs (Int.toNat a3)).toInt) 63) = 24 then (if 0 ≤ (a3 + 1) ∧ (a3 + 1) < (Ls : Int) then (if 0 ≤ (a3 + 2) ∧ (a3 + 2) < (Ls : Int) then (bd (m_X5_without n M ((xs (Int.toNat (a3 + 1))).toInt) ((xs (Int.toNat (a3 + 2))).toInt)) (fun r245 M244 => bd (m_X6_without n M244 ((xs (Int.toNat (a3 + 1))).toInt) ((xs (Int.toNat (a3 + 2))).toInt)) (fun r247 M246 => if I32 r245 then (if I32 r247 then (if r245 = r247 then ((m_L_law_18 Ls xs n t) M246 (a3 + 6)) else (some (0, M246))) else none) else none))) else none) else none) else (if (bAnd ((xs (Int.toNat a3)).toInt) 63) = 25 then (if 0 ≤ (a3 + 1) ∧ (a3 + 1) < (Ls : Int) then (bd (m_X5_swap n M ((xs (Int.toNat (a3 + 1))).toInt)) (fun r254 M253 => bd (m_X6_swap n M253 ((xs (Int.toNat (a3 + 1))).toInt)) (fun r256 M255 => if I32 r254 then (if I32 r256 then (if r254 = r256 then ((m_L_law_18 Ls xs n t) M255 (a3 + 6)) else (some (0, M255))) else none) else none))) else none) else (if (bAnd ((xs (Int.toNat a3)).toInt) 63) = 26 then (if 0 ≤ (a3 + 1) ∧ (a3 + 1) < (Ls : Int) then (if 0 ≤ (a3 + 2) ∧ (a3 + 2) < (Ls : Int) then (bd (m_X5_whatKind n M ((xs (Int.toNat (a3 + 1))).toInt) ((xs (Int.toNat (a3 + 2))).toInt)) (fun r264 M263 => bd (m_X6_whatKind n M263 ((xs (Int.toNat (a3 + 1))).toInt) ((xs (Int.toNat (a3 + 2))).toInt)) (fun r266 M265 => if I32 r264 then (if I32 r266 then (if r264 = r266 then ((m_L_law_18 Ls xs n t) M265 (a3 + 6)) else (some (0, M265))) else none) else none))) else none) else none) else (if (bAnd ((xs (Int.toNat a3)).toInt) 63) = 27 then (if 0 ≤ (a3 + 1) ∧ (a3 + 1) < (Ls : Int) then (if 0 ≤ (a3 + 2) ∧ (a3 + 2) < (Ls : Int) then (bd (m_X5_whichFront n M ((xs (Int.toNat (a3 + 1))).toInt) ((xs (Int.toNat (a3 + 2))).toInt)) (fun r274 M273 => bd (m_X6_whichFront n M273 ((xs (Int.toNat (a3 + 1))).toInt) ((xs (Int.toNat (a3 + 2))).toInt)) (fun r276 M275 => if I32 r274 then (if I32 r276 then (if r274 = r276 then ((m_L_law_18 Ls xs n t) M275 (a3 + 6)) else (some (0, M275))) else none) else none))) else none) else none) else (if (bAnd ((xs (Int.toNat a3)).toInt) 63) = 28 then (if 0 ≤ (a3 + 1) ∧ (a3 + 1) < (Ls : Int) then (if 0 ≤ (a3 + 2) ∧ (a3 + 2) < (Ls : Int) then (if 0 ≤ (a3 + 3) ∧ (a3 + 3) < (Ls : Int) then (bd (m_X5_two n M ((xs (Int.toNat (a3 + 1))).toInt) ((xs (Int.toNat (a3 + 2))).toInt) ((xs (Int.toNat (a3 + 3))).toInt)) (fun r285 M284 => bd (m_X6_two n M284 ((xs (Int.toNat (a3 + 1))).toInt) ((xs (Int.toNat (a3 + 2))).toInt) ((xs (Int.toNat (a3 + 3))).toInt)) (fun r287 M286 => if I32 r285 then (if I32 r287 then (if r285 = r287 then ((m_L_law_18 Ls xs n t) M286 (a3 + 6)) else (some (0, M286))) else none) else none))) else none) else none) else none) else (if (bAnd ((xs (Int.toNat a3)).toInt) 63) = 29 then (if 0 ≤ (a3 + 1) ∧ (a3 + 1) < (Ls : Int) then (if 0 ≤ (a3 + 2) ∧ (a3 + 2) < (Ls : Int) then (if 0 ≤ (a3 + 3) ∧ (a3 + 3) < (Ls : Int) then (if 0 ≤ (a3 + 4) ∧ (a3 + 4) < (Ls : Int) then (if 0 ≤ (a3 + 5) ∧ (a3 + 5) < (Ls : Int) then (bd (m_X5_sun n M ((xs (Int.toNat (a3 + 1))).toInt) ((xs (Int.toNat (a3 + 2))).toInt) ((xs (Int.toNat (a3 + 3))).toInt) ((xs (Int.toNat (a3 + 4))).toInt) ((xs (Int.toNat (a3 + 5))).toInt)) (fun r298 M297 => bd (m_X6_sun n M297 ((xs (Int.toNat (a3 + 1))).toInt) ((xs (Int.toNat (a3 + 2))).toInt) ((xs (Int.toNat (a3 + 3))).toInt) ((xs (Int.toNat (a3 + 4))).toInt) ((xs (Int.toNat (a3 + 5))).toInt)) (fun r300 M299 => if I64 r298 then (if I64 r300 then (if (cmpZ r298 r300) = 0 then ((m_L_law_18 Ls xs n t) M299 (a3 + 6)) else (some (0, M299))) else none) else none))) else none) else none) else none) else none) else none) else (if (bAnd ((xs (Int.toNat a3)).toInt) 63) = 30 then (if 0 ≤ (a3 + 1) ∧ (a3 + 1) < (Ls : Int) then (bd (m_X5_islands n M ((xs (Int.toNat (a3 + 1))).toInt)) (fun r307 M306 => bd (m_X6_islands n M306 ((xs (Int.toNat (a3 + 1))).toInt)) (fun r309 M308 => if I32 r307 then (if I32 r309 then (if r307 = r309 then ((m_L_law_18 Ls xs n t) M308 (a3 + 6)) else (some (0, M308))) else none) else none))) else none) else (if (bAnd ((xs (Int.toNat a3)).toInt) 63) = 31 then (bd (m_X5_clearRun n M) (fun r315 M314 => bd (m_X6_clearRun n M314) (fun r317 M316 => if I32 r315 then (if I32 r317 then (if r315 = r317 then ((m_L_law_18 Ls xs n t) M316 (a3 + 6)) else (some (0, M316))) else none) else none))) else (if (bAnd ((xs (Int.toNat a3)).toInt) 63) = 32 then (if 0 ≤ (a3 + 1) ∧ (a3 + 1) < (Ls : Int) then (if 0 ≤ (a3 + 2) ∧ (a3 + 2) < (Ls : Int) then (bd (m_X5_way n M ((xs (Int.toNat (a3 + 1))).toInt) ((xs (Int.toNat (a3 + 2))).toInt)) (fun r325 M324 => bd (m_X6_way n M324 ((xs (Int.toNat (a3 + 1))).toInt) ((xs (Int.toNat (a3 + 2))).toInt)) (fun r327 M326 => if I32 r325 then (if I32 r327 then (if r325 = r327 then ((m_L_law_18 Ls xs n t) M326 (a3 + 6)) else (some (0, M326))) else none) else none))) else none) else none) else (if (bAnd ((xs (Int.toNat a3)).toInt) 63) = 33 then (if 0 ≤ (a3 + 1) ∧ (a3 + 1) < (Ls : Int) then (if 0 ≤ (a3 + 2) ∧ (a3 + 2) < (Ls : Int) then (bd (m_X5_share n M ((xs (Int.toNat (a3 + 1))).toInt) ((xs (Int.toNat (a3 + 2))).toInt)) (fun r335 M334 => bd (m_X6_share n M334 ((xs (Int.toNat (a3 + 1))).toInt) ((xs (Int.toNat (a3 + 2))).toInt)) (fun r337 M336 => if I64 r335 then (if I64 r337 then (if (cmpZ r335 r337) = 0 then ((m_L_law_18 Ls xs n t) M336 (a3 + 6)) else (some (0, M336))) else none) else none))) else none) else none) else (if (bAnd ((xs (Int.toNat a3)).toInt) 63) = 34 then (if 0 ≤ (a3 + 1) ∧ (a3 + 1) < (Ls : Int) then (bd (m_X5_sight n M ((xs (Int.toNat (a3 + 1))).toInt)) (fun r344 M343 => bd (m_X6_sight n M343 ((xs (Int.toNat (a3 + 1))).toInt)) (fun r346 M345 => if I32 r344 then (if I32 r346 then (if r344 = r346 then ((m_L_law_18 Ls xs n t) M345 (a3 + 6)) else (some (0, M345))) else none) else none))) else none) else (if (bAnd ((xs (Int.toNat a3)).toInt) 63) = 35 then (if 0 ≤ (a3 + 1) ∧ (a3 + 1) < (Ls : Int) then (bd (m_X5_kinds n M ((xs (Int.toNat (a3 + 1))).toInt)) (fun r353 M352 => bd (m_X6_kinds n M352 ((xs (Int.toNat (a3 + 1))).toInt)) (fun r355 M354 => if I32 r353 then (if I32 r355 then (if r353 = r355 then ((m_L_law_18 Ls xs n t) M354 (a3 + 6)) else (some (0, M354))) else none) else none))) else none) else (if (bAnd ((xs (Int.toNat a3)).toInt) 63) = 36 then (if 0 ≤ (a3 + 1) ∧ (a3 + 1) < (Ls : Int) then (bd (m_X5_row n M ((xs (Int.toNat (a3 + 1))).toInt)) (fun r362 M361 => bd (m_X6_row n M361 ((xs (Int.toNat (a3 + 1))).toInt)) (fun r364 M363 => if I32 r362 then (if I32 r364 then (if r362 = r364 then ((m_L_law_18 Ls xs n t) M363 (a3 + 6)) else (some (0, M363))) else none) else none))) else none) else (if (bAnd ((xs (Int.toNat a3)).toInt) 63) = 37 then (bd (m_X5_judge n M) (fun r370 M369 => bd (m_X6_judge n M369) (fun r372 M371 => if I32 r370 then (if I32 r372 then (if r370 = r372 then ((m_L_law_18 Ls xs n t) M371 (a3 + 6)) else (some (0, M371))) else none) else none))) else (if (bAnd ((xs (Int.toNat a3)).toInt) 63) = 38 then (bd (m_X5_clear n M) (fun r378 M377 => bd (m_X6_clear n M377) (fun r380 M379 => if I32 r378 then (if I32 r380 then (if r378 = r380 then ((m_L_law_18 Ls xs n t) M379 (a3 + 6)) else (some (0, M379))) else none) else none))) else (if (bAnd ((xs (Int.toNat a3)).toInt) 63) = 39 then (if 0 ≤ (a3 + 1) ∧ (a3 + 1) < (Ls : Int) then (if 0 ≤ (a3 + 2) ∧ (a3 + 2) < (Ls : Int) then (if 0 ≤ (a3 + 3) ∧ (a3 + 3) < (Ls : Int) then (bd (m_X5_lots n M ((xs (Int.toNat (a3 + 1))).toInt) ((xs (Int.toNat (a3 + 2))).toInt) ((xs (Int.toNat (a3 + 3))).toInt)) (fun r389 M388 => bd (m_X6_lots n M388 ((xs (Int.toNat (a3 + 1))).toInt) ((xs (Int.toNat (a3 + 2))).toInt) ((xs (Int.toNat (a3 + 3))).toInt)) (fun r391 M390 => if I32 r389 then (if I32 r391 then (if r389 = r391 then ((m_L_law_18 Ls xs n t) M390 (a3 + 6)) else (some (0, M390))) else none) else none))) else none) else none) else none) else (if (bAnd ((xs (Int.toNat a3)).toInt) 63) = 40 then (bd (m_X5_image n M) (fun r397 M396 => bd (m_X6_image n M396) (fun r399 M398 => if I32 r397 then (if I32 r399 then (if r397 = r399 then ((m_L_law_18 Ls xs n t) M398 (a3 + 6)) else (some (0, M398))) else none) else none))) else (if (bAnd ((xs (Int.toNat a3)).toInt) 63) = 41 then (bd (m_X5_restore n M) (fun r405 M404 => bd (m_X6_restore n M404) (fun r407 M406 => if I32 r405 then (if I32 r407 then (if r405 = r407 then ((m_L_law_18 Ls xs n t) M406 (a3 + 6)) else (some (0, M406))) else none) else none))) else (if (bAnd ((xs (Int.toNat a3)).toInt) 63) = 42 then (if 0 ≤ (a3 + 1) ∧ (a3 + 1) < (Ls : Int) then (bd (m_X5_count n M ((xs (Int.toNat (a3 + 1))).toInt)) (fun r414 M413 => bd (m_X6_count n M413 ((xs (Int.toNat (a3 + 1))).toInt)) (fun r416 M415 => if I32 r414 then (if I32 r416 then (if r414 = r416 then ((m_L_law_18 Ls xs n t) M415 (a3 + 6)) else (some (0, M415))) else none) else none))) else none) else ((m_L_law_18 Ls xs n t) M (a3 + 6))))))))))))))))))))))))))))))))))))))))))))) else none) else none)) else none) else none
theorem t_L_law_18 (Ls : Nat) (xs : Nat → Int32) (hLs : Ls < 2147483648) (hLs32 : I32 (Ls : Int)) (n : Nat) : ∀ (t : Nat) (M : Mem) (a3 : Int), Y RL code 4 11 1 (some (Ls, xs)) 18 [some (rv 158), some (rv 130), some (rv 137), some (iv a3)] [] M (m_L_law_18 Ls xs n t M a3) := by
  intro t
  induction t with
  | zero => intro M a3; exact y_none
  | succ t ih =>
    intro M a3
    rewrite [m_L_law_18]
    refine y_iload_n (pc := 18) dL_law_18 rfl ?_
    refine y_aload_n (pc := 19) dL_law_19 rfl ?_
    refine y_slen (pc := 20) dL_law_20 rfl ?_
    refine y_bipush (pc := 21) dL_law_21 (by decide) ?_
    refine y_isub (pc := 23) dL_law_23 ?_
    refine y_gd (fun h1 => ?_)
    refine y_gd (fun h2 => ?_)
    refine y_icmp_gt (off := 1463) (tgt := 1487) (pc := 24) dL_law_24 (by decide) h1 h2 (fun h3 => ?_) (fun h3 => ?_)
    · refine y_iconst (pc := 1487) dL_law_1487 ?_
      exact y_zret (pc := 1488) dL_law_1488 (by decide)
    · refine y_aload_n (pc := 27) dL_law_27 rfl ?_
      refine y_iload_n (pc := 28) dL_law_28 rfl ?_
      refine y_gd (fun h4 => ?_)
      refine y_sld (pc := 29) dL_law_29 rfl hLs h4 ?_
      refine y_bipush (pc := 30) dL_law_30 (by decide) ?_
      refine y_iand (pc := 32) dL_law_32 ?_
      refine y_gd (fun h5 => ?_)
      refine y_br (fun h6 => ?_) (fun h6 => ?_)
      · refine y_tableIn (off := 187) (tgt := 220) (pc := 33) dL_law_33 h6 (by decide) (by decide) (by decide) rfl (by decide) ?_
        refine y_aload_n (pc := 220) dL_law_220 rfl ?_
        refine y_aload_n (pc := 221) dL_law_221 rfl ?_
        refine y_iload_n (pc := 222) dL_law_222 rfl ?_
        refine y_iconst (pc := 223) dL_law_223 ?_
        refine y_iadd (pc := 224) dL_law_224 ?_
        refine y_gd (fun h7 => ?_)
        refine y_sld (pc := 225) dL_law_225 rfl hLs h7 ?_
        refine y_callVi (pc := 226) v_X5_feed l_L_13 dL_law_226 (c_X5_feed n _ _) rfl rc_X5 rfl (by decide) (by decide) (Nat.le_of_ble_eq_true rfl) (fun r9 M8 _ => ?_)
        refine y_aload_n (pc := 229) dL_law_229 rfl ?_
        refine y_aload_n (pc := 230) dL_law_230 rfl ?_
        refine y_iload_n (pc := 231) dL_law_231 rfl ?_
        refine y_iconst (pc := 232) dL_law_232 ?_
        refine y_iadd (pc := 233) dL_law_233 ?_
        refine y_sld (pc := 234) dL_law_234 rfl hLs h7 ?_
        refine y_callVi (pc := 235) v_X6_feed l_L_17 dL_law_235 (c_X6_feed n _ _) rfl rc_X6 rfl (by decide) (by decide) (Nat.le_of_ble_eq_true rfl) (fun r11 M10 _ => ?_)
        refine y_gd (fun h12 => ?_)
        refine y_gd (fun h13 => ?_)
        refine y_icmp_eq (off := 1243) (tgt := 1481) (pc := 238) dL_law_238 (by decide) h12 h13 (fun h14 => ?_) (fun h14 => ?_)
        · refine y_iinc (L' := [some (rv 158), some (rv 130), some (rv 137), some (iv (a3 + 6))]) (pc := 1481) dL_law_1481 rfl (by decide) rfl rfl ?_
          refine y_goto (tgt := 18) (pc := 1484) dL_law_1484 (by decide) ?_
          exact y_sub (ls_s (ls_s (ls_s (ls_s ls_0)))) (ih M10 (a3 + 6))
        · refine y_iconst (pc := 241) dL_law_241 ?_
          exact y_zret (pc := 242) dL_law_242 (by decide)
      · refine y_br (fun h15 => ?_) (fun h15 => ?_)
        · refine y_tableIn (off := 210) (tgt := 243) (pc := 33) dL_law_33 h15 (by decide) (by decide) (by decide) rfl (by decide) ?_
          refine y_aload_n (pc := 243) dL_law_243 rfl ?_
          refine y_callVi (pc := 244) v_X5_coast l_L_18 dL_law_244 (c_X5_coast n _) rfl rc_X5 rfl (by decide) (by decide) (Nat.le_of_ble_eq_true rfl) (fun r17 M16 _ => ?_)
          refine y_aload_n (pc := 247) dL_law_247 rfl ?_
          refine y_callVi (pc := 248) v_X6_coast l_L_22 dL_law_248 (c_X6_coast n _) rfl rc_X6 rfl (by decide) (by decide) (Nat.le_of_ble_eq_true rfl) (fun r19 M18 _ => ?_)
          refine y_gd (fun h20 => ?_)
          refine y_gd (fun h21 => ?_)
          refine y_icmp_eq (off := 1230) (tgt := 1481) (pc := 251) dL_law_251 (by decide) h20 h21 (fun h22 => ?_) (fun h22 => ?_)
          · refine y_iinc (L' := [some (rv 158), some (rv 130), some (rv 137), some (iv (a3 + 6))]) (pc := 1481) dL_law_1481 rfl (by decide) rfl rfl ?_
            refine y_goto (tgt := 18) (pc := 1484) dL_law_1484 (by decide) ?_
            exact y_sub (ls_s (ls_s (ls_s (ls_s ls_0)))) (ih M18 (a3 + 6))
          · refine y_iconst (pc := 254) dL_law_254 ?_
            exact y_zret (pc := 255) dL_law_255 (by decide)
        · refine y_br (fun h23 => ?_) (fun h23 => ?_)
          · refine y_tableIn (off := 223) (tgt := 256) (pc := 33) dL_law_33 h23 (by decide) (by decide) (by decide) rfl (by decide) ?_
            refine y_aload_n (pc := 256) dL_law_256 rfl ?_
            refine y_aload_n (pc := 257) dL_law_257 rfl ?_
            refine y_iload_n (pc := 258) dL_law_258 rfl ?_
            refine y_iconst (pc := 259) dL_law_259 ?_
            refine y_iadd (pc := 260) dL_law_260 ?_
            refine y_gd (fun h24 => ?_)
            refine y_sld (pc := 261) dL_law_261 rfl hLs h24 ?_
            refine y_aload_n (pc := 262) dL_law_262 rfl ?_
            refine y_iload_n (pc := 263) dL_law_263 rfl ?_
            refine y_iconst (pc := 264) dL_law_264 ?_
            refine y_iadd (pc := 265) dL_law_265 ?_
            refine y_gd (fun h25 => ?_)
            refine y_sld (pc := 266) dL_law_266 rfl hLs h25 ?_
            refine y_callVi (pc := 267) v_X5_person l_L_23 dL_law_267 (c_X5_person n _ _ _) rfl rc_X5 rfl (by decide) (by decide) (Nat.le_of_ble_eq_true rfl) (fun r27 M26 _ => ?_)
            refine y_aload_n (pc := 270) dL_law_270 rfl ?_
            refine y_aload_n (pc := 271) dL_law_271 rfl ?_
            refine y_iload_n (pc := 272) dL_law_272 rfl ?_
            refine y_iconst (pc := 273) dL_law_273 ?_
            refine y_iadd (pc := 274) dL_law_274 ?_
            refine y_sld (pc := 275) dL_law_275 rfl hLs h24 ?_
            refine y_aload_n (pc := 276) dL_law_276 rfl ?_
            refine y_iload_n (pc := 277) dL_law_277 rfl ?_
            refine y_iconst (pc := 278) dL_law_278 ?_
            refine y_iadd (pc := 279) dL_law_279 ?_
            refine y_sld (pc := 280) dL_law_280 rfl hLs h25 ?_
            refine y_callVi (pc := 281) v_X6_person l_L_27 dL_law_281 (c_X6_person n _ _ _) rfl rc_X6 rfl (by decide) (by decide) (Nat.le_of_ble_eq_true rfl) (fun r29 M28 _ => ?_)
            refine y_gd (fun h30 => ?_)
            refine y_gd (fun h31 => ?_)
            refine y_icmp_eq (off := 1197) (tgt := 1481) (pc := 284) dL_law_284 (by decide) h30 h31 (fun h32 => ?_) (fun h32 => ?_)
            · refine y_iinc (L' := [some (rv 158), some (rv 130), some (rv 137), some (iv (a3 + 6))]) (pc := 1481) dL_law_1481 rfl (by decide) rfl rfl ?_
              refine y_goto (tgt := 18) (pc := 1484) dL_law_1484 (by decide) ?_
              exact y_sub (ls_s (ls_s (ls_s (ls_s ls_0)))) (ih M28 (a3 + 6))
            · refine y_iconst (pc := 287) dL_law_287 ?_
              exact y_zret (pc := 288) dL_law_288 (by decide)
          · refine y_br (fun h33 => ?_) (fun h33 => ?_)
            · refine y_tableIn (off := 256) (tgt := 289) (pc := 33) dL_law_33 h33 (by decide) (by decide) (by decide) rfl (by decide) ?_
              refine y_aload_n (pc := 289) dL_law_289 rfl ?_
              refine y_aload_n (pc := 290) dL_law_290 rfl ?_
              refine y_iload_n (pc := 291) dL_law_291 rfl ?_
              refine y_iconst (pc := 292) dL_law_292 ?_
              refine y_iadd (pc := 293) dL_law_293 ?_
              refine y_gd (fun h34 => ?_)
              refine y_sld (pc := 294) dL_law_294 rfl hLs h34 ?_
              refine y_aload_n (pc := 295) dL_law_295 rfl ?_
              refine y_iload_n (pc := 296) dL_law_296 rfl ?_
              refine y_iconst (pc := 297) dL_law_297 ?_
              refine y_iadd (pc := 298) dL_law_298 ?_
              refine y_gd (fun h35 => ?_)
              refine y_sld (pc := 299) dL_law_299 rfl hLs h35 ?_
              refine y_callVi (pc := 300) v_X5_thing l_L_28 dL_law_300 (c_X5_thing n _ _ _) rfl rc_X5 rfl (by decide) (by decide) (Nat.le_of_ble_eq_true rfl) (fun r37 M36 _ => ?_)
              refine y_aload_n (pc := 303) dL_law_303 rfl ?_
              refine y_aload_n (pc := 304) dL_law_304 rfl ?_
              refine y_iload_n (pc := 305) dL_law_305 rfl ?_
              refine y_iconst (pc := 306) dL_law_306 ?_
              refine y_iadd (pc := 307) dL_law_307 ?_
              refine y_sld (pc := 308) dL_law_308 rfl hLs h34 ?_
              refine y_aload_n (pc := 309) dL_law_309 rfl ?_
              refine y_iload_n (pc := 310) dL_law_310 rfl ?_
              refine y_iconst (pc := 311) dL_law_311 ?_
              refine y_iadd (pc := 312) dL_law_312 ?_
              refine y_sld (pc := 313) dL_law_313 rfl hLs h35 ?_
              refine y_callVi (pc := 314) v_X6_thing l_L_31 dL_law_314 (c_X6_thing n _ _ _) rfl rc_X6 rfl (by decide) (by decide) (Nat.le_of_ble_eq_true rfl) (fun r39 M38 _ => ?_)
              refine y_gd (fun h40 => ?_)
              refine y_gd (fun h41 => ?_)
              refine y_icmp_eq (off := 1164) (tgt := 1481) (pc := 317) dL_law_317 (by decide) h40 h41 (fun h42 => ?_) (fun h42 => ?_)
              · refine y_iinc (L' := [some (rv 158), some (rv 130), some (rv 137), some (iv (a3 + 6))]) (pc := 1481) dL_law_1481 rfl (by decide) rfl rfl ?_
                refine y_goto (tgt := 18) (pc := 1484) dL_law_1484 (by decide) ?_
                exact y_sub (ls_s (ls_s (ls_s (ls_s ls_0)))) (ih M38 (a3 + 6))
              · refine y_iconst (pc := 320) dL_law_320 ?_
                exact y_zret (pc := 321) dL_law_321 (by decide)
            · refine y_br (fun h43 => ?_) (fun h43 => ?_)
              · refine y_tableIn (off := 289) (tgt := 322) (pc := 33) dL_law_33 h43 (by decide) (by decide) (by decide) rfl (by decide) ?_
                refine y_aload_n (pc := 322) dL_law_322 rfl ?_
                refine y_aload_n (pc := 323) dL_law_323 rfl ?_
                refine y_iload_n (pc := 324) dL_law_324 rfl ?_
                refine y_iconst (pc := 325) dL_law_325 ?_
                refine y_iadd (pc := 326) dL_law_326 ?_
                refine y_gd (fun h44 => ?_)
                refine y_sld (pc := 327) dL_law_327 rfl hLs h44 ?_
                refine y_aload_n (pc := 328) dL_law_328 rfl ?_
                refine y_iload_n (pc := 329) dL_law_329 rfl ?_
                refine y_iconst (pc := 330) dL_law_330 ?_
                refine y_iadd (pc := 331) dL_law_331 ?_
                refine y_gd (fun h45 => ?_)
                refine y_sld (pc := 332) dL_law_332 rfl hLs h45 ?_
                refine y_callVi (pc := 333) v_X5_front l_L_32 dL_law_333 (c_X5_front n _ _ _) rfl rc_X5 rfl (by decide) (by decide) (Nat.le_of_ble_eq_true rfl) (fun r47 M46 _ => ?_)
                refine y_aload_n (pc := 336) dL_law_336 rfl ?_
                refine y_aload_n (pc := 337) dL_law_337 rfl ?_
                refine y_iload_n (pc := 338) dL_law_338 rfl ?_
                refine y_iconst (pc := 339) dL_law_339 ?_
                refine y_iadd (pc := 340) dL_law_340 ?_
                refine y_sld (pc := 341) dL_law_341 rfl hLs h44 ?_
                refine y_aload_n (pc := 342) dL_law_342 rfl ?_
                refine y_iload_n (pc := 343) dL_law_343 rfl ?_
                refine y_iconst (pc := 344) dL_law_344 ?_
                refine y_iadd (pc := 345) dL_law_345 ?_
                refine y_sld (pc := 346) dL_law_346 rfl hLs h45 ?_
                refine y_callVi (pc := 347) v_X6_front l_L_35 dL_law_347 (c_X6_front n _ _ _) rfl rc_X6 rfl (by decide) (by decide) (Nat.le_of_ble_eq_true rfl) (fun r49 M48 _ => ?_)
                refine y_gd (fun h50 => ?_)
                refine y_gd (fun h51 => ?_)
                refine y_icmp_eq (off := 1131) (tgt := 1481) (pc := 350) dL_law_350 (by decide) h50 h51 (fun h52 => ?_) (fun h52 => ?_)
                · refine y_iinc (L' := [some (rv 158), some (rv 130), some (rv 137), some (iv (a3 + 6))]) (pc := 1481) dL_law_1481 rfl (by decide) rfl rfl ?_
                  refine y_goto (tgt := 18) (pc := 1484) dL_law_1484 (by decide) ?_
                  exact y_sub (ls_s (ls_s (ls_s (ls_s ls_0)))) (ih M48 (a3 + 6))
                · refine y_iconst (pc := 353) dL_law_353 ?_
                  exact y_zret (pc := 354) dL_law_354 (by decide)
              · refine y_br (fun h53 => ?_) (fun h53 => ?_)
                · refine y_tableIn (off := 322) (tgt := 355) (pc := 33) dL_law_33 h53 (by decide) (by decide) (by decide) rfl (by decide) ?_
                  refine y_aload_n (pc := 355) dL_law_355 rfl ?_
                  refine y_aload_n (pc := 356) dL_law_356 rfl ?_
                  refine y_iload_n (pc := 357) dL_law_357 rfl ?_
                  refine y_iconst (pc := 358) dL_law_358 ?_
                  refine y_iadd (pc := 359) dL_law_359 ?_
                  refine y_gd (fun h54 => ?_)
                  refine y_sld (pc := 360) dL_law_360 rfl hLs h54 ?_
                  refine y_aload_n (pc := 361) dL_law_361 rfl ?_
                  refine y_iload_n (pc := 362) dL_law_362 rfl ?_
                  refine y_iconst (pc := 363) dL_law_363 ?_
                  refine y_iadd (pc := 364) dL_law_364 ?_
                  refine y_gd (fun h55 => ?_)
                  refine y_sld (pc := 365) dL_law_365 rfl hLs h55 ?_
                  refine y_callVi (pc := 366) v_X5_cell l_L_36 dL_law_366 (c_X5_cell n _ _ _) rfl rc_X5 rfl (by decide) (by decide) (Nat.le_of_ble_eq_true rfl) (fun r57 M56 _ => ?_)
                  refine y_aload_n (pc := 369) dL_law_369 rfl ?_
                  refine y_aload_n (pc := 370) dL_law_370 rfl ?_
                  refine y_iload_n (pc := 371) dL_law_371 rfl ?_
                  refine y_iconst (pc := 372) dL_law_372 ?_
                  refine y_iadd (pc := 373) dL_law_373 ?_
                  refine y_sld (pc := 374) dL_law_374 rfl hLs h54 ?_
                  refine y_aload_n (pc := 375) dL_law_375 rfl ?_
                  refine y_iload_n (pc := 376) dL_law_376 rfl ?_
                  refine y_iconst (pc := 377) dL_law_377 ?_
                  refine y_iadd (pc := 378) dL_law_378 ?_
                  refine y_sld (pc := 379) dL_law_379 rfl hLs h55 ?_
                  refine y_callVi (pc := 380) v_X6_cell l_L_39 dL_law_380 (c_X6_cell n _ _ _) rfl rc_X6 rfl (by decide) (by decide) (Nat.le_of_ble_eq_true rfl) (fun r59 M58 _ => ?_)
                  refine y_gd (fun h60 => ?_)
                  refine y_gd (fun h61 => ?_)
                  refine y_icmp_eq (off := 1098) (tgt := 1481) (pc := 383) dL_law_383 (by decide) h60 h61 (fun h62 => ?_) (fun h62 => ?_)
                  · refine y_iinc (L' := [some (rv 158), some (rv 130), some (rv 137), some (iv (a3 + 6))]) (pc := 1481) dL_law_1481 rfl (by decide) rfl rfl ?_
                    refine y_goto (tgt := 18) (pc := 1484) dL_law_1484 (by decide) ?_
                    exact y_sub (ls_s (ls_s (ls_s (ls_s ls_0)))) (ih M58 (a3 + 6))
                  · refine y_iconst (pc := 386) dL_law_386 ?_
                    exact y_zret (pc := 387) dL_law_387 (by decide)
                · refine y_br (fun h63 => ?_) (fun h63 => ?_)
                  · refine y_tableIn (off := 355) (tgt := 388) (pc := 33) dL_law_33 h63 (by decide) (by decide) (by decide) rfl (by decide) ?_
                    refine y_aload_n (pc := 388) dL_law_388 rfl ?_
                    refine y_aload_n (pc := 389) dL_law_389 rfl ?_
                    refine y_iload_n (pc := 390) dL_law_390 rfl ?_
                    refine y_iconst (pc := 391) dL_law_391 ?_
                    refine y_iadd (pc := 392) dL_law_392 ?_
                    refine y_gd (fun h64 => ?_)
                    refine y_sld (pc := 393) dL_law_393 rfl hLs h64 ?_
                    refine y_aload_n (pc := 394) dL_law_394 rfl ?_
                    refine y_iload_n (pc := 395) dL_law_395 rfl ?_
                    refine y_iconst (pc := 396) dL_law_396 ?_
                    refine y_iadd (pc := 397) dL_law_397 ?_
                    refine y_gd (fun h65 => ?_)
                    refine y_sld (pc := 398) dL_law_398 rfl hLs h65 ?_
                    refine y_aload_n (pc := 399) dL_law_399 rfl ?_
                    refine y_iload_n (pc := 400) dL_law_400 rfl ?_
                    refine y_iconst (pc := 401) dL_law_401 ?_
                    refine y_iadd (pc := 402) dL_law_402 ?_
                    refine y_gd (fun h66 => ?_)
                    refine y_sld (pc := 403) dL_law_403 rfl hLs h66 ?_
                    refine y_callVi (pc := 404) v_X5_blows l_L_40 dL_law_404 (c_X5_blows n _ _ _ _) rfl rc_X5 rfl (by decide) (by decide) (Nat.le_of_ble_eq_true rfl) (fun r68 M67 _ => ?_)
                    refine y_aload_n (pc := 407) dL_law_407 rfl ?_
                    refine y_aload_n (pc := 408) dL_law_408 rfl ?_
                    refine y_iload_n (pc := 409) dL_law_409 rfl ?_
                    refine y_iconst (pc := 410) dL_law_410 ?_
                    refine y_iadd (pc := 411) dL_law_411 ?_
                    refine y_sld (pc := 412) dL_law_412 rfl hLs h64 ?_
                    refine y_aload_n (pc := 413) dL_law_413 rfl ?_
                    refine y_iload_n (pc := 414) dL_law_414 rfl ?_
                    refine y_iconst (pc := 415) dL_law_415 ?_
                    refine y_iadd (pc := 416) dL_law_416 ?_
                    refine y_sld (pc := 417) dL_law_417 rfl hLs h65 ?_
                    refine y_aload_n (pc := 418) dL_law_418 rfl ?_
                    refine y_iload_n (pc := 419) dL_law_419 rfl ?_
                    refine y_iconst (pc := 420) dL_law_420 ?_
                    refine y_iadd (pc := 421) dL_law_421 ?_
                    refine y_sld (pc := 422) dL_law_422 rfl hLs h66 ?_
                    refine y_callVi (pc := 423) v_X6_blows l_L_44 dL_law_423 (c_X6_blows n _ _ _ _) rfl rc_X6 rfl (by decide) (by decide) (Nat.le_of_ble_eq_true rfl) (fun r70 M69 _ => ?_)
                    refine y_gd (fun h71 => ?_)
                    refine y_gd (fun h72 => ?_)
                    refine y_icmp_eq (off := 1055) (tgt := 1481) (pc := 426) dL_law_426 (by decide) h71 h72 (fun h73 => ?_) (fun h73 => ?_)
                    · refine y_iinc (L' := [some (rv 158), some (rv 130), some (rv 137), some (iv (a3 + 6))]) (pc := 1481) dL_law_1481 rfl (by decide) rfl rfl ?_
                      refine y_goto (tgt := 18) (pc := 1484) dL_law_1484 (by decide) ?_
                      exact y_sub (ls_s (ls_s (ls_s (ls_s ls_0)))) (ih M69 (a3 + 6))
                    · refine y_iconst (pc := 429) dL_law_429 ?_
                      exact y_zret (pc := 430) dL_law_430 (by decide)
                  · refine y_br (fun h74 => ?_) (fun h74 => ?_)
                    · refine y_tableIn (off := 398) (tgt := 431) (pc := 33) dL_law_33 h74 (by decide) (by decide) (by decide) rfl (by decide) ?_
                      refine y_aload_n (pc := 431) dL_law_431 rfl ?_
                      refine y_aload_n (pc := 432) dL_law_432 rfl ?_
                      refine y_iload_n (pc := 433) dL_law_433 rfl ?_
                      refine y_iconst (pc := 434) dL_law_434 ?_
                      refine y_iadd (pc := 435) dL_law_435 ?_
                      refine y_gd (fun h75 => ?_)
                      refine y_sld (pc := 436) dL_law_436 rfl hLs h75 ?_
                      refine y_aload_n (pc := 437) dL_law_437 rfl ?_
                      refine y_iload_n (pc := 438) dL_law_438 rfl ?_
                      refine y_iconst (pc := 439) dL_law_439 ?_
                      refine y_iadd (pc := 440) dL_law_440 ?_
                      refine y_gd (fun h76 => ?_)
                      refine y_sld (pc := 441) dL_law_441 rfl hLs h76 ?_
                      refine y_aload_n (pc := 442) dL_law_442 rfl ?_
                      refine y_iload_n (pc := 443) dL_law_443 rfl ?_
                      refine y_iconst (pc := 444) dL_law_444 ?_
                      refine y_iadd (pc := 445) dL_law_445 ?_
                      refine y_gd (fun h77 => ?_)
                      refine y_sld (pc := 446) dL_law_446 rfl hLs h77 ?_
                      refine y_callVi (pc := 447) v_X5_comes l_L_45 dL_law_447 (c_X5_comes n _ _ _ _) rfl rc_X5 rfl (by decide) (by decide) (Nat.le_of_ble_eq_true rfl) (fun r79 M78 _ => ?_)
                      refine y_aload_n (pc := 450) dL_law_450 rfl ?_
                      refine y_aload_n (pc := 451) dL_law_451 rfl ?_
                      refine y_iload_n (pc := 452) dL_law_452 rfl ?_
                      refine y_iconst (pc := 453) dL_law_453 ?_
                      refine y_iadd (pc := 454) dL_law_454 ?_
                      refine y_sld (pc := 455) dL_law_455 rfl hLs h75 ?_
                      refine y_aload_n (pc := 456) dL_law_456 rfl ?_
                      refine y_iload_n (pc := 457) dL_law_457 rfl ?_
                      refine y_iconst (pc := 458) dL_law_458 ?_
                      refine y_iadd (pc := 459) dL_law_459 ?_
                      refine y_sld (pc := 460) dL_law_460 rfl hLs h76 ?_
                      refine y_aload_n (pc := 461) dL_law_461 rfl ?_
                      refine y_iload_n (pc := 462) dL_law_462 rfl ?_
                      refine y_iconst (pc := 463) dL_law_463 ?_
                      refine y_iadd (pc := 464) dL_law_464 ?_
                      refine y_sld (pc := 465) dL_law_465 rfl hLs h77 ?_
                      refine y_callVi (pc := 466) v_X6_comes l_L_48 dL_law_466 (c_X6_comes n _ _ _ _) rfl rc_X6 rfl (by decide) (by decide) (Nat.le_of_ble_eq_true rfl) (fun r81 M80 _ => ?_)
                      refine y_gd (fun h82 => ?_)
                      refine y_gd (fun h83 => ?_)
                      refine y_icmp_eq (off := 1012) (tgt := 1481) (pc := 469) dL_law_469 (by decide) h82 h83 (fun h84 => ?_) (fun h84 => ?_)
                      · refine y_iinc (L' := [some (rv 158), some (rv 130), some (rv 137), some (iv (a3 + 6))]) (pc := 1481) dL_law_1481 rfl (by decide) rfl rfl ?_
                        refine y_goto (tgt := 18) (pc := 1484) dL_law_1484 (by decide) ?_
                        exact y_sub (ls_s (ls_s (ls_s (ls_s ls_0)))) (ih M80 (a3 + 6))
                      · refine y_iconst (pc := 472) dL_law_472 ?_
                        exact y_zret (pc := 473) dL_law_473 (by decide)
                    · refine y_br (fun h85 => ?_) (fun h85 => ?_)
                      · refine y_tableIn (off := 441) (tgt := 474) (pc := 33) dL_law_33 h85 (by decide) (by decide) (by decide) rfl (by decide) ?_
                        refine y_aload_n (pc := 474) dL_law_474 rfl ?_
                        refine y_aload_n (pc := 475) dL_law_475 rfl ?_
                        refine y_iload_n (pc := 476) dL_law_476 rfl ?_
                        refine y_iconst (pc := 477) dL_law_477 ?_
                        refine y_iadd (pc := 478) dL_law_478 ?_
                        refine y_gd (fun h86 => ?_)
                        refine y_sld (pc := 479) dL_law_479 rfl hLs h86 ?_
                        refine y_aload_n (pc := 480) dL_law_480 rfl ?_
                        refine y_iload_n (pc := 481) dL_law_481 rfl ?_
                        refine y_iconst (pc := 482) dL_law_482 ?_
                        refine y_iadd (pc := 483) dL_law_483 ?_
                        refine y_gd (fun h87 => ?_)
                        refine y_sld (pc := 484) dL_law_484 rfl hLs h87 ?_
                        refine y_callVi (pc := 485) v_X5_lies l_L_49 dL_law_485 (c_X5_lies n _ _ _) rfl rc_X5 rfl (by decide) (by decide) (Nat.le_of_ble_eq_true rfl) (fun r89 M88 _ => ?_)
                        refine y_aload_n (pc := 488) dL_law_488 rfl ?_
                        refine y_aload_n (pc := 489) dL_law_489 rfl ?_
                        refine y_iload_n (pc := 490) dL_law_490 rfl ?_
                        refine y_iconst (pc := 491) dL_law_491 ?_
                        refine y_iadd (pc := 492) dL_law_492 ?_
                        refine y_sld (pc := 493) dL_law_493 rfl hLs h86 ?_
                        refine y_aload_n (pc := 494) dL_law_494 rfl ?_
                        refine y_iload_n (pc := 495) dL_law_495 rfl ?_
                        refine y_iconst (pc := 496) dL_law_496 ?_
                        refine y_iadd (pc := 497) dL_law_497 ?_
                        refine y_sld (pc := 498) dL_law_498 rfl hLs h87 ?_
                        refine y_callVi (pc := 499) v_X6_lies l_L_52 dL_law_499 (c_X6_lies n _ _ _) rfl rc_X6 rfl (by decide) (by decide) (Nat.le_of_ble_eq_true rfl) (fun r91 M90 _ => ?_)
                        refine y_gd (fun h92 => ?_)
                        refine y_gd (fun h93 => ?_)
                        refine y_icmp_eq (off := 979) (tgt := 1481) (pc := 502) dL_law_502 (by decide) h92 h93 (fun h94 => ?_) (fun h94 => ?_)
                        · refine y_iinc (L' := [some (rv 158), some (rv 130), some (rv 137), some (iv (a3 + 6))]) (pc := 1481) dL_law_1481 rfl (by decide) rfl rfl ?_
                          refine y_goto (tgt := 18) (pc := 1484) dL_law_1484 (by decide) ?_
                          exact y_sub (ls_s (ls_s (ls_s (ls_s ls_0)))) (ih M90 (a3 + 6))
                        · refine y_iconst (pc := 505) dL_law_505 ?_
                          exact y_zret (pc := 506) dL_law_506 (by decide)
                      · refine y_br (fun h95 => ?_) (fun h95 => ?_)
                        · refine y_tableIn (off := 474) (tgt := 507) (pc := 33) dL_law_33 h95 (by decide) (by decide) (by decide) rfl (by decide) ?_
                          refine y_aload_n (pc := 507) dL_law_507 rfl ?_
                          refine y_aload_n (pc := 508) dL_law_508 rfl ?_
                          refine y_iload_n (pc := 509) dL_law_509 rfl ?_
                          refine y_iconst (pc := 510) dL_law_510 ?_
                          refine y_iadd (pc := 511) dL_law_511 ?_
                          refine y_gd (fun h96 => ?_)
                          refine y_sld (pc := 512) dL_law_512 rfl hLs h96 ?_
                          refine y_callVi (pc := 513) v_X5_thick l_L_53 dL_law_513 (c_X5_thick n _ _) rfl rc_X5 rfl (by decide) (by decide) (Nat.le_of_ble_eq_true rfl) (fun r98 M97 _ => ?_)
                          refine y_aload_n (pc := 516) dL_law_516 rfl ?_
                          refine y_aload_n (pc := 517) dL_law_517 rfl ?_
                          refine y_iload_n (pc := 518) dL_law_518 rfl ?_
                          refine y_iconst (pc := 519) dL_law_519 ?_
                          refine y_iadd (pc := 520) dL_law_520 ?_
                          refine y_sld (pc := 521) dL_law_521 rfl hLs h96 ?_
                          refine y_callVi (pc := 522) v_X6_thick l_L_56 dL_law_522 (c_X6_thick n _ _) rfl rc_X6 rfl (by decide) (by decide) (Nat.le_of_ble_eq_true rfl) (fun r100 M99 _ => ?_)
                          refine y_gd (fun h101 => ?_)
                          refine y_gd (fun h102 => ?_)
                          refine y_icmp_eq (off := 956) (tgt := 1481) (pc := 525) dL_law_525 (by decide) h101 h102 (fun h103 => ?_) (fun h103 => ?_)
                          · refine y_iinc (L' := [some (rv 158), some (rv 130), some (rv 137), some (iv (a3 + 6))]) (pc := 1481) dL_law_1481 rfl (by decide) rfl rfl ?_
                            refine y_goto (tgt := 18) (pc := 1484) dL_law_1484 (by decide) ?_
                            exact y_sub (ls_s (ls_s (ls_s (ls_s ls_0)))) (ih M99 (a3 + 6))
                          · refine y_iconst (pc := 528) dL_law_528 ?_
                            exact y_zret (pc := 529) dL_law_529 (by decide)
                        · refine y_br (fun h104 => ?_) (fun h104 => ?_)
                          · refine y_tableIn (off := 497) (tgt := 530) (pc := 33) dL_law_33 h104 (by decide) (by decide) (by decide) rfl (by decide) ?_
                            refine y_aload_n (pc := 530) dL_law_530 rfl ?_
                            refine y_aload_n (pc := 531) dL_law_531 rfl ?_
                            refine y_iload_n (pc := 532) dL_law_532 rfl ?_
                            refine y_iconst (pc := 533) dL_law_533 ?_
                            refine y_iadd (pc := 534) dL_law_534 ?_
                            refine y_gd (fun h105 => ?_)
                            refine y_sld (pc := 535) dL_law_535 rfl hLs h105 ?_
                            refine y_aload_n (pc := 536) dL_law_536 rfl ?_
                            refine y_iload_n (pc := 537) dL_law_537 rfl ?_
                            refine y_iconst (pc := 538) dL_law_538 ?_
                            refine y_iadd (pc := 539) dL_law_539 ?_
                            refine y_gd (fun h106 => ?_)
                            refine y_sld (pc := 540) dL_law_540 rfl hLs h106 ?_
                            refine y_callVi (pc := 541) v_X5_owns l_L_57 dL_law_541 (c_X5_owns n _ _ _) rfl rc_X5 rfl (by decide) (by decide) (Nat.le_of_ble_eq_true rfl) (fun r108 M107 _ => ?_)
                            refine y_aload_n (pc := 544) dL_law_544 rfl ?_
                            refine y_aload_n (pc := 545) dL_law_545 rfl ?_
                            refine y_iload_n (pc := 546) dL_law_546 rfl ?_
                            refine y_iconst (pc := 547) dL_law_547 ?_
                            refine y_iadd (pc := 548) dL_law_548 ?_
                            refine y_sld (pc := 549) dL_law_549 rfl hLs h105 ?_
                            refine y_aload_n (pc := 550) dL_law_550 rfl ?_
                            refine y_iload_n (pc := 551) dL_law_551 rfl ?_
                            refine y_iconst (pc := 552) dL_law_552 ?_
                            refine y_iadd (pc := 553) dL_law_553 ?_
                            refine y_sld (pc := 554) dL_law_554 rfl hLs h106 ?_
                            refine y_callVi (pc := 555) v_X6_owns l_L_60 dL_law_555 (c_X6_owns n _ _ _) rfl rc_X6 rfl (by decide) (by decide) (Nat.le_of_ble_eq_true rfl) (fun r110 M109 _ => ?_)
                            refine y_gd (fun h111 => ?_)
                            refine y_gd (fun h112 => ?_)
                            refine y_icmp_eq (off := 923) (tgt := 1481) (pc := 558) dL_law_558 (by decide) h111 h112 (fun h113 => ?_) (fun h113 => ?_)
                            · refine y_iinc (L' := [some (rv 158), some (rv 130), some (rv 137), some (iv (a3 + 6))]) (pc := 1481) dL_law_1481 rfl (by decide) rfl rfl ?_
                              refine y_goto (tgt := 18) (pc := 1484) dL_law_1484 (by decide) ?_
                              exact y_sub (ls_s (ls_s (ls_s (ls_s ls_0)))) (ih M109 (a3 + 6))
                            · refine y_iconst (pc := 561) dL_law_561 ?_
                              exact y_zret (pc := 562) dL_law_562 (by decide)
                          · refine y_br (fun h114 => ?_) (fun h114 => ?_)
                            · refine y_tableIn (off := 530) (tgt := 563) (pc := 33) dL_law_33 h114 (by decide) (by decide) (by decide) rfl (by decide) ?_
                              refine y_aload_n (pc := 563) dL_law_563 rfl ?_
                              refine y_aload_n (pc := 564) dL_law_564 rfl ?_
                              refine y_iload_n (pc := 565) dL_law_565 rfl ?_
                              refine y_iconst (pc := 566) dL_law_566 ?_
                              refine y_iadd (pc := 567) dL_law_567 ?_
                              refine y_gd (fun h115 => ?_)
                              refine y_sld (pc := 568) dL_law_568 rfl hLs h115 ?_
                              refine y_aload_n (pc := 569) dL_law_569 rfl ?_
                              refine y_iload_n (pc := 570) dL_law_570 rfl ?_
                              refine y_iconst (pc := 571) dL_law_571 ?_
                              refine y_iadd (pc := 572) dL_law_572 ?_
                              refine y_gd (fun h116 => ?_)
                              refine y_sld (pc := 573) dL_law_573 rfl hLs h116 ?_
                              refine y_callVi (pc := 574) v_X5_stands l_L_61 dL_law_574 (c_X5_stands n _ _ _) rfl rc_X5 rfl (by decide) (by decide) (Nat.le_of_ble_eq_true rfl) (fun r118 M117 _ => ?_)
                              refine y_aload_n (pc := 577) dL_law_577 rfl ?_
                              refine y_aload_n (pc := 578) dL_law_578 rfl ?_
                              refine y_iload_n (pc := 579) dL_law_579 rfl ?_
                              refine y_iconst (pc := 580) dL_law_580 ?_
                              refine y_iadd (pc := 581) dL_law_581 ?_
                              refine y_sld (pc := 582) dL_law_582 rfl hLs h115 ?_
                              refine y_aload_n (pc := 583) dL_law_583 rfl ?_
                              refine y_iload_n (pc := 584) dL_law_584 rfl ?_
                              refine y_iconst (pc := 585) dL_law_585 ?_
                              refine y_iadd (pc := 586) dL_law_586 ?_
                              refine y_sld (pc := 587) dL_law_587 rfl hLs h116 ?_
                              refine y_callVi (pc := 588) v_X6_stands l_L_64 dL_law_588 (c_X6_stands n _ _ _) rfl rc_X6 rfl (by decide) (by decide) (Nat.le_of_ble_eq_true rfl) (fun r120 M119 _ => ?_)
                              refine y_gd (fun h121 => ?_)
                              refine y_gd (fun h122 => ?_)
                              refine y_icmp_eq (off := 890) (tgt := 1481) (pc := 591) dL_law_591 (by decide) h121 h122 (fun h123 => ?_) (fun h123 => ?_)
                              · refine y_iinc (L' := [some (rv 158), some (rv 130), some (rv 137), some (iv (a3 + 6))]) (pc := 1481) dL_law_1481 rfl (by decide) rfl rfl ?_
                                refine y_goto (tgt := 18) (pc := 1484) dL_law_1484 (by decide) ?_
                                exact y_sub (ls_s (ls_s (ls_s (ls_s ls_0)))) (ih M119 (a3 + 6))
                              · refine y_iconst (pc := 594) dL_law_594 ?_
                                exact y_zret (pc := 595) dL_law_595 (by decide)
                            · refine y_br (fun h124 => ?_) (fun h124 => ?_)
                              · refine y_tableIn (off := 563) (tgt := 596) (pc := 33) dL_law_33 h124 (by decide) (by decide) (by decide) rfl (by decide) ?_
                                refine y_aload_n (pc := 596) dL_law_596 rfl ?_
                                refine y_aload_n (pc := 597) dL_law_597 rfl ?_
                                refine y_iload_n (pc := 598) dL_law_598 rfl ?_
                                refine y_iconst (pc := 599) dL_law_599 ?_
                                refine y_iadd (pc := 600) dL_law_600 ?_
                                refine y_gd (fun h125 => ?_)
                                refine y_sld (pc := 601) dL_law_601 rfl hLs h125 ?_
                                refine y_aload_n (pc := 602) dL_law_602 rfl ?_
                                refine y_iload_n (pc := 603) dL_law_603 rfl ?_
                                refine y_iconst (pc := 604) dL_law_604 ?_
                                refine y_iadd (pc := 605) dL_law_605 ?_
                                refine y_gd (fun h126 => ?_)
                                refine y_sld (pc := 606) dL_law_606 rfl hLs h126 ?_
                                refine y_callVi (pc := 607) v_X5_carries l_L_65 dL_law_607 (c_X5_carries n _ _ _) rfl rc_X5 rfl (by decide) (by decide) (Nat.le_of_ble_eq_true rfl) (fun r128 M127 _ => ?_)
                                refine y_aload_n (pc := 610) dL_law_610 rfl ?_
                                refine y_aload_n (pc := 611) dL_law_611 rfl ?_
                                refine y_iload_n (pc := 612) dL_law_612 rfl ?_
                                refine y_iconst (pc := 613) dL_law_613 ?_
                                refine y_iadd (pc := 614) dL_law_614 ?_
                                refine y_sld (pc := 615) dL_law_615 rfl hLs h125 ?_
                                refine y_aload_n (pc := 616) dL_law_616 rfl ?_
                                refine y_iload_n (pc := 617) dL_law_617 rfl ?_
                                refine y_iconst (pc := 618) dL_law_618 ?_
                                refine y_iadd (pc := 619) dL_law_619 ?_
                                refine y_sld (pc := 620) dL_law_620 rfl hLs h126 ?_
                                refine y_callVi (pc := 621) v_X6_carries l_L_68 dL_law_621 (c_X6_carries n _ _ _) rfl rc_X6 rfl (by decide) (by decide) (Nat.le_of_ble_eq_true rfl) (fun r130 M129 _ => ?_)
                                refine y_gd (fun h131 => ?_)
                                refine y_gd (fun h132 => ?_)
                                refine y_icmp_eq (off := 857) (tgt := 1481) (pc := 624) dL_law_624 (by decide) h131 h132 (fun h133 => ?_) (fun h133 => ?_)
                                · refine y_iinc (L' := [some (rv 158), some (rv 130), some (rv 137), some (iv (a3 + 6))]) (pc := 1481) dL_law_1481 rfl (by decide) rfl rfl ?_
                                  refine y_goto (tgt := 18) (pc := 1484) dL_law_1484 (by decide) ?_
                                  exact y_sub (ls_s (ls_s (ls_s (ls_s ls_0)))) (ih M129 (a3 + 6))
                                · refine y_iconst (pc := 627) dL_law_627 ?_
                                  exact y_zret (pc := 628) dL_law_628 (by decide)
                              · refine y_br (fun h134 => ?_) (fun h134 => ?_)
                                · refine y_tableIn (off := 596) (tgt := 629) (pc := 33) dL_law_33 h134 (by decide) (by decide) (by decide) rfl (by decide) ?_
                                  refine y_aload_n (pc := 629) dL_law_629 rfl ?_
                                  refine y_aload_n (pc := 630) dL_law_630 rfl ?_
                                  refine y_iload_n (pc := 631) dL_law_631 rfl ?_
                                  refine y_iconst (pc := 632) dL_law_632 ?_
                                  refine y_iadd (pc := 633) dL_law_633 ?_
                                  refine y_gd (fun h135 => ?_)
                                  refine y_sld (pc := 634) dL_law_634 rfl hLs h135 ?_
                                  refine y_callVi (pc := 635) v_X5_hours l_L_69 dL_law_635 (c_X5_hours n _ _) rfl rc_X5 rfl (by decide) (by decide) (Nat.le_of_ble_eq_true rfl) (fun r137 M136 _ => ?_)
                                  refine y_aload_n (pc := 638) dL_law_638 rfl ?_
                                  refine y_aload_n (pc := 639) dL_law_639 rfl ?_
                                  refine y_iload_n (pc := 640) dL_law_640 rfl ?_
                                  refine y_iconst (pc := 641) dL_law_641 ?_
                                  refine y_iadd (pc := 642) dL_law_642 ?_
                                  refine y_sld (pc := 643) dL_law_643 rfl hLs h135 ?_
                                  refine y_callVi (pc := 644) v_X6_hours l_L_72 dL_law_644 (c_X6_hours n _ _) rfl rc_X6 rfl (by decide) (by decide) (Nat.le_of_ble_eq_true rfl) (fun r139 M138 _ => ?_)
                                  refine y_gd (fun h140 => ?_)
                                  refine y_gd (fun h141 => ?_)
                                  refine y_icmp_eq (off := 834) (tgt := 1481) (pc := 647) dL_law_647 (by decide) h140 h141 (fun h142 => ?_) (fun h142 => ?_)
                                  · refine y_iinc (L' := [some (rv 158), some (rv 130), some (rv 137), some (iv (a3 + 6))]) (pc := 1481) dL_law_1481 rfl (by decide) rfl rfl ?_
                                    refine y_goto (tgt := 18) (pc := 1484) dL_law_1484 (by decide) ?_
                                    exact y_sub (ls_s (ls_s (ls_s (ls_s ls_0)))) (ih M138 (a3 + 6))
                                  · refine y_iconst (pc := 650) dL_law_650 ?_
                                    exact y_zret (pc := 651) dL_law_651 (by decide)
                                · refine y_br (fun h143 => ?_) (fun h143 => ?_)
                                  · refine y_tableIn (off := 619) (tgt := 652) (pc := 33) dL_law_33 h143 (by decide) (by decide) (by decide) rfl (by decide) ?_
                                    refine y_aload_n (pc := 652) dL_law_652 rfl ?_
                                    refine y_callVi (pc := 653) v_X5_back l_L_73 dL_law_653 (c_X5_back n _) rfl rc_X5 rfl (by decide) (by decide) (Nat.le_of_ble_eq_true rfl) (fun r145 M144 _ => ?_)
                                    refine y_aload_n (pc := 656) dL_law_656 rfl ?_
                                    refine y_callVi (pc := 657) v_X6_back l_L_76 dL_law_657 (c_X6_back n _) rfl rc_X6 rfl (by decide) (by decide) (Nat.le_of_ble_eq_true rfl) (fun r147 M146 _ => ?_)
                                    refine y_gd (fun h148 => ?_)
                                    refine y_gd (fun h149 => ?_)
                                    refine y_icmp_eq (off := 821) (tgt := 1481) (pc := 660) dL_law_660 (by decide) h148 h149 (fun h150 => ?_) (fun h150 => ?_)
                                    · refine y_iinc (L' := [some (rv 158), some (rv 130), some (rv 137), some (iv (a3 + 6))]) (pc := 1481) dL_law_1481 rfl (by decide) rfl rfl ?_
                                      refine y_goto (tgt := 18) (pc := 1484) dL_law_1484 (by decide) ?_
                                      exact y_sub (ls_s (ls_s (ls_s (ls_s ls_0)))) (ih M146 (a3 + 6))
                                    · refine y_iconst (pc := 663) dL_law_663 ?_
                                      exact y_zret (pc := 664) dL_law_664 (by decide)
                                  · refine y_br (fun h151 => ?_) (fun h151 => ?_)
                                    · refine y_tableIn (off := 632) (tgt := 665) (pc := 33) dL_law_33 h151 (by decide) (by decide) (by decide) rfl (by decide) ?_
                                      refine y_aload_n (pc := 665) dL_law_665 rfl ?_
                                      refine y_aload_n (pc := 666) dL_law_666 rfl ?_
                                      refine y_iload_n (pc := 667) dL_law_667 rfl ?_
                                      refine y_iconst (pc := 668) dL_law_668 ?_
                                      refine y_iadd (pc := 669) dL_law_669 ?_
                                      refine y_gd (fun h152 => ?_)
                                      refine y_sld (pc := 670) dL_law_670 rfl hLs h152 ?_
                                      refine y_aload_n (pc := 671) dL_law_671 rfl ?_
                                      refine y_iload_n (pc := 672) dL_law_672 rfl ?_
                                      refine y_iconst (pc := 673) dL_law_673 ?_
                                      refine y_iadd (pc := 674) dL_law_674 ?_
                                      refine y_gd (fun h153 => ?_)
                                      refine y_sld (pc := 675) dL_law_675 rfl hLs h153 ?_
                                      refine y_callVi (pc := 676) v_X5_fogThen l_L_77 dL_law_676 (c_X5_fogThen n _ _ _) rfl rc_X5 rfl (by decide) (by decide) (Nat.le_of_ble_eq_true rfl) (fun r155 M154 _ => ?_)
                                      refine y_aload_n (pc := 679) dL_law_679 rfl ?_
                                      refine y_aload_n (pc := 680) dL_law_680 rfl ?_
                                      refine y_iload_n (pc := 681) dL_law_681 rfl ?_
                                      refine y_iconst (pc := 682) dL_law_682 ?_
                                      refine y_iadd (pc := 683) dL_law_683 ?_
                                      refine y_sld (pc := 684) dL_law_684 rfl hLs h152 ?_
                                      refine y_aload_n (pc := 685) dL_law_685 rfl ?_
                                      refine y_iload_n (pc := 686) dL_law_686 rfl ?_
                                      refine y_iconst (pc := 687) dL_law_687 ?_
                                      refine y_iadd (pc := 688) dL_law_688 ?_
                                      refine y_sld (pc := 689) dL_law_689 rfl hLs h153 ?_
                                      refine y_callVi (pc := 690) v_X6_fogThen l_L_80 dL_law_690 (c_X6_fogThen n _ _ _) rfl rc_X6 rfl (by decide) (by decide) (Nat.le_of_ble_eq_true rfl) (fun r157 M156 _ => ?_)
                                      refine y_gd (fun h158 => ?_)
                                      refine y_gd (fun h159 => ?_)
                                      refine y_icmp_eq (off := 788) (tgt := 1481) (pc := 693) dL_law_693 (by decide) h158 h159 (fun h160 => ?_) (fun h160 => ?_)
                                      · refine y_iinc (L' := [some (rv 158), some (rv 130), some (rv 137), some (iv (a3 + 6))]) (pc := 1481) dL_law_1481 rfl (by decide) rfl rfl ?_
                                        refine y_goto (tgt := 18) (pc := 1484) dL_law_1484 (by decide) ?_
                                        exact y_sub (ls_s (ls_s (ls_s (ls_s ls_0)))) (ih M156 (a3 + 6))
                                      · refine y_iconst (pc := 696) dL_law_696 ?_
                                        exact y_zret (pc := 697) dL_law_697 (by decide)
                                    · refine y_br (fun h161 => ?_) (fun h161 => ?_)
                                      · refine y_tableIn (off := 665) (tgt := 698) (pc := 33) dL_law_33 h161 (by decide) (by decide) (by decide) rfl (by decide) ?_
                                        refine y_aload_n (pc := 698) dL_law_698 rfl ?_
                                        refine y_aload_n (pc := 699) dL_law_699 rfl ?_
                                        refine y_iload_n (pc := 700) dL_law_700 rfl ?_
                                        refine y_iconst (pc := 701) dL_law_701 ?_
                                        refine y_iadd (pc := 702) dL_law_702 ?_
                                        refine y_gd (fun h162 => ?_)
                                        refine y_sld (pc := 703) dL_law_703 rfl hLs h162 ?_
                                        refine y_aload_n (pc := 704) dL_law_704 rfl ?_
                                        refine y_iload_n (pc := 705) dL_law_705 rfl ?_
                                        refine y_iconst (pc := 706) dL_law_706 ?_
                                        refine y_iadd (pc := 707) dL_law_707 ?_
                                        refine y_gd (fun h163 => ?_)
                                        refine y_sld (pc := 708) dL_law_708 rfl hLs h163 ?_
                                        refine y_callVi (pc := 709) v_X5_then l_L_81 dL_law_709 (c_X5_then n _ _ _) rfl rc_X5 rfl (by decide) (by decide) (Nat.le_of_ble_eq_true rfl) (fun r165 M164 _ => ?_)
                                        refine y_aload_n (pc := 712) dL_law_712 rfl ?_
                                        refine y_aload_n (pc := 713) dL_law_713 rfl ?_
                                        refine y_iload_n (pc := 714) dL_law_714 rfl ?_
                                        refine y_iconst (pc := 715) dL_law_715 ?_
                                        refine y_iadd (pc := 716) dL_law_716 ?_
                                        refine y_sld (pc := 717) dL_law_717 rfl hLs h162 ?_
                                        refine y_aload_n (pc := 718) dL_law_718 rfl ?_
                                        refine y_iload_n (pc := 719) dL_law_719 rfl ?_
                                        refine y_iconst (pc := 720) dL_law_720 ?_
                                        refine y_iadd (pc := 721) dL_law_721 ?_
                                        refine y_sld (pc := 722) dL_law_722 rfl hLs h163 ?_
                                        refine y_callVi (pc := 723) v_X6_then l_L_84 dL_law_723 (c_X6_then n _ _ _) rfl rc_X6 rfl (by decide) (by decide) (Nat.le_of_ble_eq_true rfl) (fun r167 M166 _ => ?_)
                                        refine y_gd (fun h168 => ?_)
                                        refine y_gd (fun h169 => ?_)
                                        refine y_icmp_eq (off := 755) (tgt := 1481) (pc := 726) dL_law_726 (by decide) h168 h169 (fun h170 => ?_) (fun h170 => ?_)
                                        · refine y_iinc (L' := [some (rv 158), some (rv 130), some (rv 137), some (iv (a3 + 6))]) (pc := 1481) dL_law_1481 rfl (by decide) rfl rfl ?_
                                          refine y_goto (tgt := 18) (pc := 1484) dL_law_1484 (by decide) ?_
                                          exact y_sub (ls_s (ls_s (ls_s (ls_s ls_0)))) (ih M166 (a3 + 6))
                                        · refine y_iconst (pc := 729) dL_law_729 ?_
                                          exact y_zret (pc := 730) dL_law_730 (by decide)
                                      · refine y_br (fun h171 => ?_) (fun h171 => ?_)
                                        · refine y_tableIn (off := 698) (tgt := 731) (pc := 33) dL_law_33 h171 (by decide) (by decide) (by decide) rfl (by decide) ?_
                                          refine y_aload_n (pc := 731) dL_law_731 rfl ?_
                                          refine y_aload_n (pc := 732) dL_law_732 rfl ?_
                                          refine y_iload_n (pc := 733) dL_law_733 rfl ?_
                                          refine y_iconst (pc := 734) dL_law_734 ?_
                                          refine y_iadd (pc := 735) dL_law_735 ?_
                                          refine y_gd (fun h172 => ?_)
                                          refine y_sld (pc := 736) dL_law_736 rfl hLs h172 ?_
                                          refine y_aload_n (pc := 737) dL_law_737 rfl ?_
                                          refine y_iload_n (pc := 738) dL_law_738 rfl ?_
                                          refine y_iconst (pc := 739) dL_law_739 ?_
                                          refine y_iadd (pc := 740) dL_law_740 ?_
                                          refine y_gd (fun h173 => ?_)
                                          refine y_sld (pc := 741) dL_law_741 rfl hLs h173 ?_
                                          refine y_callVi (pc := 742) v_X5_ownerThen l_L_85 dL_law_742 (c_X5_ownerThen n _ _ _) rfl rc_X5 rfl (by decide) (by decide) (Nat.le_of_ble_eq_true rfl) (fun r175 M174 _ => ?_)
                                          refine y_aload_n (pc := 745) dL_law_745 rfl ?_
                                          refine y_aload_n (pc := 746) dL_law_746 rfl ?_
                                          refine y_iload_n (pc := 747) dL_law_747 rfl ?_
                                          refine y_iconst (pc := 748) dL_law_748 ?_
                                          refine y_iadd (pc := 749) dL_law_749 ?_
                                          refine y_sld (pc := 750) dL_law_750 rfl hLs h172 ?_
                                          refine y_aload_n (pc := 751) dL_law_751 rfl ?_
                                          refine y_iload_n (pc := 752) dL_law_752 rfl ?_
                                          refine y_iconst (pc := 753) dL_law_753 ?_
                                          refine y_iadd (pc := 754) dL_law_754 ?_
                                          refine y_sld (pc := 755) dL_law_755 rfl hLs h173 ?_
                                          refine y_callVi (pc := 756) v_X6_ownerThen l_L_88 dL_law_756 (c_X6_ownerThen n _ _ _) rfl rc_X6 rfl (by decide) (by decide) (Nat.le_of_ble_eq_true rfl) (fun r177 M176 _ => ?_)
                                          refine y_gd (fun h178 => ?_)
                                          refine y_gd (fun h179 => ?_)
                                          refine y_icmp_eq (off := 722) (tgt := 1481) (pc := 759) dL_law_759 (by decide) h178 h179 (fun h180 => ?_) (fun h180 => ?_)
                                          · refine y_iinc (L' := [some (rv 158), some (rv 130), some (rv 137), some (iv (a3 + 6))]) (pc := 1481) dL_law_1481 rfl (by decide) rfl rfl ?_
                                            refine y_goto (tgt := 18) (pc := 1484) dL_law_1484 (by decide) ?_
                                            exact y_sub (ls_s (ls_s (ls_s (ls_s ls_0)))) (ih M176 (a3 + 6))
                                          · refine y_iconst (pc := 762) dL_law_762 ?_
                                            exact y_zret (pc := 763) dL_law_763 (by decide)
                                        · refine y_br (fun h181 => ?_) (fun h181 => ?_)
                                          · refine y_tableIn (off := 731) (tgt := 764) (pc := 33) dL_law_33 h181 (by decide) (by decide) (by decide) rfl (by decide) ?_
                                            refine y_aload_n (pc := 764) dL_law_764 rfl ?_
                                            refine y_aload_n (pc := 765) dL_law_765 rfl ?_
                                            refine y_iload_n (pc := 766) dL_law_766 rfl ?_
                                            refine y_iconst (pc := 767) dL_law_767 ?_
                                            refine y_iadd (pc := 768) dL_law_768 ?_
                                            refine y_gd (fun h182 => ?_)
                                            refine y_sld (pc := 769) dL_law_769 rfl hLs h182 ?_
                                            refine y_aload_n (pc := 770) dL_law_770 rfl ?_
                                            refine y_iload_n (pc := 771) dL_law_771 rfl ?_
                                            refine y_iconst (pc := 772) dL_law_772 ?_
                                            refine y_iadd (pc := 773) dL_law_773 ?_
                                            refine y_gd (fun h183 => ?_)
                                            refine y_sld (pc := 774) dL_law_774 rfl hLs h183 ?_
                                            refine y_aload_n (pc := 775) dL_law_775 rfl ?_
                                            refine y_iload_n (pc := 776) dL_law_776 rfl ?_
                                            refine y_iconst (pc := 777) dL_law_777 ?_
                                            refine y_iadd (pc := 778) dL_law_778 ?_
                                            refine y_gd (fun h184 => ?_)
                                            refine y_sld (pc := 779) dL_law_779 rfl hLs h184 ?_
                                            refine y_callVi (pc := 780) v_X5_personThen l_L_89 dL_law_780 (c_X5_personThen n _ _ _ _) rfl rc_X5 rfl (by decide) (by decide) (Nat.le_of_ble_eq_true rfl) (fun r186 M185 _ => ?_)
                                            refine y_aload_n (pc := 783) dL_law_783 rfl ?_
                                            refine y_aload_n (pc := 784) dL_law_784 rfl ?_
                                            refine y_iload_n (pc := 785) dL_law_785 rfl ?_
                                            refine y_iconst (pc := 786) dL_law_786 ?_
                                            refine y_iadd (pc := 787) dL_law_787 ?_
                                            refine y_sld (pc := 788) dL_law_788 rfl hLs h182 ?_
                                            refine y_aload_n (pc := 789) dL_law_789 rfl ?_
                                            refine y_iload_n (pc := 790) dL_law_790 rfl ?_
                                            refine y_iconst (pc := 791) dL_law_791 ?_
                                            refine y_iadd (pc := 792) dL_law_792 ?_
                                            refine y_sld (pc := 793) dL_law_793 rfl hLs h183 ?_
                                            refine y_aload_n (pc := 794) dL_law_794 rfl ?_
                                            refine y_iload_n (pc := 795) dL_law_795 rfl ?_
                                            refine y_iconst (pc := 796) dL_law_796 ?_
                                            refine y_iadd (pc := 797) dL_law_797 ?_
                                            refine y_sld (pc := 798) dL_law_798 rfl hLs h184 ?_
                                            refine y_callVi (pc := 799) v_X6_personThen l_L_92 dL_law_799 (c_X6_personThen n _ _ _ _) rfl rc_X6 rfl (by decide) (by decide) (Nat.le_of_ble_eq_true rfl) (fun r188 M187 _ => ?_)
                                            refine y_gd (fun h189 => ?_)
                                            refine y_gd (fun h190 => ?_)
                                            refine y_icmp_eq (off := 679) (tgt := 1481) (pc := 802) dL_law_802 (by decide) h189 h190 (fun h191 => ?_) (fun h191 => ?_)
                                            · refine y_iinc (L' := [some (rv 158), some (rv 130), some (rv 137), some (iv (a3 + 6))]) (pc := 1481) dL_law_1481 rfl (by decide) rfl rfl ?_
                                              refine y_goto (tgt := 18) (pc := 1484) dL_law_1484 (by decide) ?_
                                              exact y_sub (ls_s (ls_s (ls_s (ls_s ls_0)))) (ih M187 (a3 + 6))
                                            · refine y_iconst (pc := 805) dL_law_805 ?_
                                              exact y_zret (pc := 806) dL_law_806 (by decide)
                                          · refine y_br (fun h192 => ?_) (fun h192 => ?_)
                                            · refine y_tableIn (off := 774) (tgt := 807) (pc := 33) dL_law_33 h192 (by decide) (by decide) (by decide) rfl (by decide) ?_
                                              refine y_aload_n (pc := 807) dL_law_807 rfl ?_
                                              refine y_aload_n (pc := 808) dL_law_808 rfl ?_
                                              refine y_iload_n (pc := 809) dL_law_809 rfl ?_
                                              refine y_iconst (pc := 810) dL_law_810 ?_
                                              refine y_iadd (pc := 811) dL_law_811 ?_
                                              refine y_gd (fun h193 => ?_)
                                              refine y_sld (pc := 812) dL_law_812 rfl hLs h193 ?_
                                              refine y_aload_n (pc := 813) dL_law_813 rfl ?_
                                              refine y_iload_n (pc := 814) dL_law_814 rfl ?_
                                              refine y_iconst (pc := 815) dL_law_815 ?_
                                              refine y_iadd (pc := 816) dL_law_816 ?_
                                              refine y_gd (fun h194 => ?_)
                                              refine y_sld (pc := 817) dL_law_817 rfl hLs h194 ?_
                                              refine y_callVi (pc := 818) v_X5_when l_L_93 dL_law_818 (c_X5_when n _ _ _) rfl rc_X5 rfl (by decide) (by decide) (Nat.le_of_ble_eq_true rfl) (fun r196 M195 _ => ?_)
                                              refine y_aload_n (pc := 821) dL_law_821 rfl ?_
                                              refine y_aload_n (pc := 822) dL_law_822 rfl ?_
                                              refine y_iload_n (pc := 823) dL_law_823 rfl ?_
                                              refine y_iconst (pc := 824) dL_law_824 ?_
                                              refine y_iadd (pc := 825) dL_law_825 ?_
                                              refine y_sld (pc := 826) dL_law_826 rfl hLs h193 ?_
                                              refine y_aload_n (pc := 827) dL_law_827 rfl ?_
                                              refine y_iload_n (pc := 828) dL_law_828 rfl ?_
                                              refine y_iconst (pc := 829) dL_law_829 ?_
                                              refine y_iadd (pc := 830) dL_law_830 ?_
                                              refine y_sld (pc := 831) dL_law_831 rfl hLs h194 ?_
                                              refine y_callVi (pc := 832) v_X6_when l_L_96 dL_law_832 (c_X6_when n _ _ _) rfl rc_X6 rfl (by decide) (by decide) (Nat.le_of_ble_eq_true rfl) (fun r198 M197 _ => ?_)
                                              refine y_gd (fun h199 => ?_)
                                              refine y_gd (fun h200 => ?_)
                                              refine y_icmp_eq (off := 646) (tgt := 1481) (pc := 835) dL_law_835 (by decide) h199 h200 (fun h201 => ?_) (fun h201 => ?_)
                                              · refine y_iinc (L' := [some (rv 158), some (rv 130), some (rv 137), some (iv (a3 + 6))]) (pc := 1481) dL_law_1481 rfl (by decide) rfl rfl ?_
                                                refine y_goto (tgt := 18) (pc := 1484) dL_law_1484 (by decide) ?_
                                                exact y_sub (ls_s (ls_s (ls_s (ls_s ls_0)))) (ih M197 (a3 + 6))
                                              · refine y_iconst (pc := 838) dL_law_838 ?_
                                                exact y_zret (pc := 839) dL_law_839 (by decide)
                                            · refine y_br (fun h202 => ?_) (fun h202 => ?_)
                                              · refine y_tableIn (off := 807) (tgt := 840) (pc := 33) dL_law_33 h202 (by decide) (by decide) (by decide) rfl (by decide) ?_
                                                refine y_aload_n (pc := 840) dL_law_840 rfl ?_
                                                refine y_callVi (pc := 841) v_X5_first l_L_97 dL_law_841 (c_X5_first n _) rfl rc_X5 rfl (by decide) (by decide) (Nat.le_of_ble_eq_true rfl) (fun r204 M203 _ => ?_)
                                                refine y_aload_n (pc := 844) dL_law_844 rfl ?_
                                                refine y_callVi (pc := 845) v_X6_first l_L_100 dL_law_845 (c_X6_first n _) rfl rc_X6 rfl (by decide) (by decide) (Nat.le_of_ble_eq_true rfl) (fun r206 M205 _ => ?_)
                                                refine y_gd (fun h207 => ?_)
                                                refine y_gd (fun h208 => ?_)
                                                refine y_icmp_eq (off := 633) (tgt := 1481) (pc := 848) dL_law_848 (by decide) h207 h208 (fun h209 => ?_) (fun h209 => ?_)
                                                · refine y_iinc (L' := [some (rv 158), some (rv 130), some (rv 137), some (iv (a3 + 6))]) (pc := 1481) dL_law_1481 rfl (by decide) rfl rfl ?_
                                                  refine y_goto (tgt := 18) (pc := 1484) dL_law_1484 (by decide) ?_
                                                  exact y_sub (ls_s (ls_s (ls_s (ls_s ls_0)))) (ih M205 (a3 + 6))
                                                · refine y_iconst (pc := 851) dL_law_851 ?_
                                                  exact y_zret (pc := 852) dL_law_852 (by decide)
                                              · refine y_br (fun h210 => ?_) (fun h210 => ?_)
                                                · refine y_tableIn (off := 820) (tgt := 853) (pc := 33) dL_law_33 h210 (by decide) (by decide) (by decide) rfl (by decide) ?_
                                                  refine y_aload_n (pc := 853) dL_law_853 rfl ?_
                                                  refine y_aload_n (pc := 854) dL_law_854 rfl ?_
                                                  refine y_iload_n (pc := 855) dL_law_855 rfl ?_
                                                  refine y_iconst (pc := 856) dL_law_856 ?_
                                                  refine y_iadd (pc := 857) dL_law_857 ?_
                                                  refine y_gd (fun h211 => ?_)
                                                  refine y_sld (pc := 858) dL_law_858 rfl hLs h211 ?_
                                                  refine y_callVi (pc := 859) v_X5_clears l_L_101 dL_law_859 (c_X5_clears n _ _) rfl rc_X5 rfl (by decide) (by decide) (Nat.le_of_ble_eq_true rfl) (fun r213 M212 _ => ?_)
                                                  refine y_aload_n (pc := 862) dL_law_862 rfl ?_
                                                  refine y_aload_n (pc := 863) dL_law_863 rfl ?_
                                                  refine y_iload_n (pc := 864) dL_law_864 rfl ?_
                                                  refine y_iconst (pc := 865) dL_law_865 ?_
                                                  refine y_iadd (pc := 866) dL_law_866 ?_
                                                  refine y_sld (pc := 867) dL_law_867 rfl hLs h211 ?_
                                                  refine y_callVi (pc := 868) v_X6_clears l_L_104 dL_law_868 (c_X6_clears n _ _) rfl rc_X6 rfl (by decide) (by decide) (Nat.le_of_ble_eq_true rfl) (fun r215 M214 _ => ?_)
                                                  refine y_gd (fun h216 => ?_)
                                                  refine y_gd (fun h217 => ?_)
                                                  refine y_icmp_eq (off := 610) (tgt := 1481) (pc := 871) dL_law_871 (by decide) h216 h217 (fun h218 => ?_) (fun h218 => ?_)
                                                  · refine y_iinc (L' := [some (rv 158), some (rv 130), some (rv 137), some (iv (a3 + 6))]) (pc := 1481) dL_law_1481 rfl (by decide) rfl rfl ?_
                                                    refine y_goto (tgt := 18) (pc := 1484) dL_law_1484 (by decide) ?_
                                                    exact y_sub (ls_s (ls_s (ls_s (ls_s ls_0)))) (ih M214 (a3 + 6))
                                                  · refine y_iconst (pc := 874) dL_law_874 ?_
                                                    exact y_zret (pc := 875) dL_law_875 (by decide)
                                                · refine y_br (fun h219 => ?_) (fun h219 => ?_)
                                                  · refine y_tableIn (off := 843) (tgt := 876) (pc := 33) dL_law_33 h219 (by decide) (by decide) (by decide) rfl (by decide) ?_
                                                    refine y_aload_n (pc := 876) dL_law_876 rfl ?_
                                                    refine y_aload_n (pc := 877) dL_law_877 rfl ?_
                                                    refine y_iload_n (pc := 878) dL_law_878 rfl ?_
                                                    refine y_iconst (pc := 879) dL_law_879 ?_
                                                    refine y_iadd (pc := 880) dL_law_880 ?_
                                                    refine y_gd (fun h220 => ?_)
                                                    refine y_sld (pc := 881) dL_law_881 rfl hLs h220 ?_
                                                    refine y_aload_n (pc := 882) dL_law_882 rfl ?_
                                                    refine y_iload_n (pc := 883) dL_law_883 rfl ?_
                                                    refine y_iconst (pc := 884) dL_law_884 ?_
                                                    refine y_iadd (pc := 885) dL_law_885 ?_
                                                    refine y_gd (fun h221 => ?_)
                                                    refine y_sld (pc := 886) dL_law_886 rfl hLs h221 ?_
                                                    refine y_aload_n (pc := 887) dL_law_887 rfl ?_
                                                    refine y_iload_n (pc := 888) dL_law_888 rfl ?_
                                                    refine y_iconst (pc := 889) dL_law_889 ?_
                                                    refine y_iadd (pc := 890) dL_law_890 ?_
                                                    refine y_gd (fun h222 => ?_)
                                                    refine y_sld (pc := 891) dL_law_891 rfl hLs h222 ?_
                                                    refine y_callVi (pc := 892) v_X5_stand l_L_105 dL_law_892 (c_X5_stand n _ _ _ _) rfl rc_X5 rfl (by decide) (by decide) (Nat.le_of_ble_eq_true rfl) (fun r224 M223 _ => ?_)
                                                    refine y_aload_n (pc := 895) dL_law_895 rfl ?_
                                                    refine y_aload_n (pc := 896) dL_law_896 rfl ?_
                                                    refine y_iload_n (pc := 897) dL_law_897 rfl ?_
                                                    refine y_iconst (pc := 898) dL_law_898 ?_
                                                    refine y_iadd (pc := 899) dL_law_899 ?_
                                                    refine y_sld (pc := 900) dL_law_900 rfl hLs h220 ?_
                                                    refine y_aload_n (pc := 901) dL_law_901 rfl ?_
                                                    refine y_iload_n (pc := 902) dL_law_902 rfl ?_
                                                    refine y_iconst (pc := 903) dL_law_903 ?_
                                                    refine y_iadd (pc := 904) dL_law_904 ?_
                                                    refine y_sld (pc := 905) dL_law_905 rfl hLs h221 ?_
                                                    refine y_aload_n (pc := 906) dL_law_906 rfl ?_
                                                    refine y_iload_n (pc := 907) dL_law_907 rfl ?_
                                                    refine y_iconst (pc := 908) dL_law_908 ?_
                                                    refine y_iadd (pc := 909) dL_law_909 ?_
                                                    refine y_sld (pc := 910) dL_law_910 rfl hLs h222 ?_
                                                    refine y_callVi (pc := 911) v_X6_stand l_L_108 dL_law_911 (c_X6_stand n _ _ _ _) rfl rc_X6 rfl (by decide) (by decide) (Nat.le_of_ble_eq_true rfl) (fun r226 M225 _ => ?_)
                                                    refine y_gd (fun h227 => ?_)
                                                    refine y_gd (fun h228 => ?_)
                                                    refine y_icmp_eq (off := 567) (tgt := 1481) (pc := 914) dL_law_914 (by decide) h227 h228 (fun h229 => ?_) (fun h229 => ?_)
                                                    · refine y_iinc (L' := [some (rv 158), some (rv 130), some (rv 137), some (iv (a3 + 6))]) (pc := 1481) dL_law_1481 rfl (by decide) rfl rfl ?_
                                                      refine y_goto (tgt := 18) (pc := 1484) dL_law_1484 (by decide) ?_
                                                      exact y_sub (ls_s (ls_s (ls_s (ls_s ls_0)))) (ih M225 (a3 + 6))
                                                    · refine y_iconst (pc := 917) dL_law_917 ?_
                                                      exact y_zret (pc := 918) dL_law_918 (by decide)
                                                  · refine y_br (fun h230 => ?_) (fun h230 => ?_)
                                                    · refine y_tableIn (off := 886) (tgt := 919) (pc := 33) dL_law_33 h230 (by decide) (by decide) (by decide) rfl (by decide) ?_
                                                      refine y_aload_n (pc := 919) dL_law_919 rfl ?_
                                                      refine y_aload_n (pc := 920) dL_law_920 rfl ?_
                                                      refine y_iload_n (pc := 921) dL_law_921 rfl ?_
                                                      refine y_iconst (pc := 922) dL_law_922 ?_
                                                      refine y_iadd (pc := 923) dL_law_923 ?_
                                                      refine y_gd (fun h231 => ?_)
                                                      refine y_sld (pc := 924) dL_law_924 rfl hLs h231 ?_
                                                      refine y_aload_n (pc := 925) dL_law_925 rfl ?_
                                                      refine y_iload_n (pc := 926) dL_law_926 rfl ?_
                                                      refine y_iconst (pc := 927) dL_law_927 ?_
                                                      refine y_iadd (pc := 928) dL_law_928 ?_
                                                      refine y_gd (fun h232 => ?_)
                                                      refine y_sld (pc := 929) dL_law_929 rfl hLs h232 ?_
                                                      refine y_aload_n (pc := 930) dL_law_930 rfl ?_
                                                      refine y_iload_n (pc := 931) dL_law_931 rfl ?_
                                                      refine y_iconst (pc := 932) dL_law_932 ?_
                                                      refine y_iadd (pc := 933) dL_law_933 ?_
                                                      refine y_gd (fun h233 => ?_)
                                                      refine y_sld (pc := 934) dL_law_934 rfl hLs h233 ?_
                                                      refine y_callVi (pc := 935) v_X5_kettle l_L_109 dL_law_935 (c_X5_kettle n _ _ _ _) rfl rc_X5 rfl (by decide) (by decide) (Nat.le_of_ble_eq_true rfl) (fun r235 M234 _ => ?_)
                                                      refine y_aload_n (pc := 938) dL_law_938 rfl ?_
                                                      refine y_aload_n (pc := 939) dL_law_939 rfl ?_
                                                      refine y_iload_n (pc := 940) dL_law_940 rfl ?_
                                                      refine y_iconst (pc := 941) dL_law_941 ?_
                                                      refine y_iadd (pc := 942) dL_law_942 ?_
                                                      refine y_sld (pc := 943) dL_law_943 rfl hLs h231 ?_
                                                      refine y_aload_n (pc := 944) dL_law_944 rfl ?_
                                                      refine y_iload_n (pc := 945) dL_law_945 rfl ?_
                                                      refine y_iconst (pc := 946) dL_law_946 ?_
                                                      refine y_iadd (pc := 947) dL_law_947 ?_
                                                      refine y_sld (pc := 948) dL_law_948 rfl hLs h232 ?_
                                                      refine y_aload_n (pc := 949) dL_law_949 rfl ?_
                                                      refine y_iload_n (pc := 950) dL_law_950 rfl ?_
                                                      refine y_iconst (pc := 951) dL_law_951 ?_
                                                      refine y_iadd (pc := 952) dL_law_952 ?_
                                                      refine y_sld (pc := 953) dL_law_953 rfl hLs h233 ?_
                                                      refine y_callVi (pc := 954) v_X6_kettle l_L_112 dL_law_954 (c_X6_kettle n _ _ _ _) rfl rc_X6 rfl (by decide) (by decide) (Nat.le_of_ble_eq_true rfl) (fun r237 M236 _ => ?_)
                                                      refine y_gd (fun h238 => ?_)
                                                      refine y_gd (fun h239 => ?_)
                                                      refine y_icmp_eq (off := 524) (tgt := 1481) (pc := 957) dL_law_957 (by decide) h238 h239 (fun h240 => ?_) (fun h240 => ?_)
                                                      · refine y_iinc (L' := [some (rv 158), some (rv 130), some (rv 137), some (iv (a3 + 6))]) (pc := 1481) dL_law_1481 rfl (by decide) rfl rfl ?_
                                                        refine y_goto (tgt := 18) (pc := 1484) dL_law_1484 (by decide) ?_
                                                        exact y_sub (ls_s (ls_s (ls_s (ls_s ls_0)))) (ih M236 (a3 + 6))
                                                      · refine y_iconst (pc := 960) dL_law_960 ?_
                                                        exact y_zret (pc := 961) dL_law_961 (by decide)
                                                    · refine y_br (fun h241 => ?_) (fun h241 => ?_)
                                                      · refine y_tableIn (off := 929) (tgt := 962) (pc := 33) dL_law_33 h241 (by decide) (by decide) (by decide) rfl (by decide) ?_
                                                        refine y_aload_n (pc := 962) dL_law_962 rfl ?_
                                                        refine y_aload_n (pc := 963) dL_law_963 rfl ?_
                                                        refine y_iload_n (pc := 964) dL_law_964 rfl ?_
                                                        refine y_iconst (pc := 965) dL_law_965 ?_
                                                        refine y_iadd (pc := 966) dL_law_966 ?_
                                                        refine y_gd (fun h242 => ?_)
                                                        refine y_sld (pc := 967) dL_law_967 rfl hLs h242 ?_
                                                        refine y_aload_n (pc := 968) dL_law_968 rfl ?_
                                                        refine y_iload_n (pc := 969) dL_law_969 rfl ?_
                                                        refine y_iconst (pc := 970) dL_law_970 ?_
                                                        refine y_iadd (pc := 971) dL_law_971 ?_
                                                        refine y_gd (fun h243 => ?_)
                                                        refine y_sld (pc := 972) dL_law_972 rfl hLs h243 ?_
                                                        refine y_callVi (pc := 973) v_X5_without l_L_113 dL_law_973 (c_X5_without n _ _ _) rfl rc_X5 rfl (by decide) (by decide) (Nat.le_of_ble_eq_true rfl) (fun r245 M244 _ => ?_)
                                                        refine y_aload_n (pc := 976) dL_law_976 rfl ?_
                                                        refine y_aload_n (pc := 977) dL_law_977 rfl ?_
                                                        refine y_iload_n (pc := 978) dL_law_978 rfl ?_
                                                        refine y_iconst (pc := 979) dL_law_979 ?_
                                                        refine y_iadd (pc := 980) dL_law_980 ?_
                                                        refine y_sld (pc := 981) dL_law_981 rfl hLs h242 ?_
                                                        refine y_aload_n (pc := 982) dL_law_982 rfl ?_
                                                        refine y_iload_n (pc := 983) dL_law_983 rfl ?_
                                                        refine y_iconst (pc := 984) dL_law_984 ?_
                                                        refine y_iadd (pc := 985) dL_law_985 ?_
                                                        refine y_sld (pc := 986) dL_law_986 rfl hLs h243 ?_
                                                        refine y_callVi (pc := 987) v_X6_without l_L_116 dL_law_987 (c_X6_without n _ _ _) rfl rc_X6 rfl (by decide) (by decide) (Nat.le_of_ble_eq_true rfl) (fun r247 M246 _ => ?_)
                                                        refine y_gd (fun h248 => ?_)
                                                        refine y_gd (fun h249 => ?_)
                                                        refine y_icmp_eq (off := 491) (tgt := 1481) (pc := 990) dL_law_990 (by decide) h248 h249 (fun h250 => ?_) (fun h250 => ?_)
                                                        · refine y_iinc (L' := [some (rv 158), some (rv 130), some (rv 137), some (iv (a3 + 6))]) (pc := 1481) dL_law_1481 rfl (by decide) rfl rfl ?_
                                                          refine y_goto (tgt := 18) (pc := 1484) dL_law_1484 (by decide) ?_
                                                          exact y_sub (ls_s (ls_s (ls_s (ls_s ls_0)))) (ih M246 (a3 + 6))
                                                        · refine y_iconst (pc := 993) dL_law_993 ?_
                                                          exact y_zret (pc := 994) dL_law_994 (by decide)
                                                      · refine y_br (fun h251 => ?_) (fun h251 => ?_)
                                                        · refine y_tableIn (off := 962) (tgt := 995) (pc := 33) dL_law_33 h251 (by decide) (by decide) (by decide) rfl (by decide) ?_
                                                          refine y_aload_n (pc := 995) dL_law_995 rfl ?_
                                                          refine y_aload_n (pc := 996) dL_law_996 rfl ?_
                                                          refine y_iload_n (pc := 997) dL_law_997 rfl ?_
                                                          refine y_iconst (pc := 998) dL_law_998 ?_
                                                          refine y_iadd (pc := 999) dL_law_999 ?_
                                                          refine y_gd (fun h252 => ?_)
                                                          refine y_sld (pc := 1000) dL_law_1000 rfl hLs h252 ?_
                                                          refine y_callVi (pc := 1001) v_X5_swap l_L_117 dL_law_1001 (c_X5_swap n _ _) rfl rc_X5 rfl (by decide) (by decide) (Nat.le_of_ble_eq_true rfl) (fun r254 M253 _ => ?_)
                                                          refine y_aload_n (pc := 1004) dL_law_1004 rfl ?_
                                                          refine y_aload_n (pc := 1005) dL_law_1005 rfl ?_
                                                          refine y_iload_n (pc := 1006) dL_law_1006 rfl ?_
                                                          refine y_iconst (pc := 1007) dL_law_1007 ?_
                                                          refine y_iadd (pc := 1008) dL_law_1008 ?_
                                                          refine y_sld (pc := 1009) dL_law_1009 rfl hLs h252 ?_
                                                          refine y_callVi (pc := 1010) v_X6_swap l_L_120 dL_law_1010 (c_X6_swap n _ _) rfl rc_X6 rfl (by decide) (by decide) (Nat.le_of_ble_eq_true rfl) (fun r256 M255 _ => ?_)
                                                          refine y_gd (fun h257 => ?_)
                                                          refine y_gd (fun h258 => ?_)
                                                          refine y_icmp_eq (off := 468) (tgt := 1481) (pc := 1013) dL_law_1013 (by decide) h257 h258 (fun h259 => ?_) (fun h259 => ?_)
                                                          · refine y_iinc (L' := [some (rv 158), some (rv 130), some (rv 137), some (iv (a3 + 6))]) (pc := 1481) dL_law_1481 rfl (by decide) rfl rfl ?_
                                                            refine y_goto (tgt := 18) (pc := 1484) dL_law_1484 (by decide) ?_
                                                            exact y_sub (ls_s (ls_s (ls_s (ls_s ls_0)))) (ih M255 (a3 + 6))
                                                          · refine y_iconst (pc := 1016) dL_law_1016 ?_
                                                            exact y_zret (pc := 1017) dL_law_1017 (by decide)
                                                        · refine y_br (fun h260 => ?_) (fun h260 => ?_)
                                                          · refine y_tableIn (off := 985) (tgt := 1018) (pc := 33) dL_law_33 h260 (by decide) (by decide) (by decide) rfl (by decide) ?_
                                                            refine y_aload_n (pc := 1018) dL_law_1018 rfl ?_
                                                            refine y_aload_n (pc := 1019) dL_law_1019 rfl ?_
                                                            refine y_iload_n (pc := 1020) dL_law_1020 rfl ?_
                                                            refine y_iconst (pc := 1021) dL_law_1021 ?_
                                                            refine y_iadd (pc := 1022) dL_law_1022 ?_
                                                            refine y_gd (fun h261 => ?_)
                                                            refine y_sld (pc := 1023) dL_law_1023 rfl hLs h261 ?_
                                                            refine y_aload_n (pc := 1024) dL_law_1024 rfl ?_
                                                            refine y_iload_n (pc := 1025) dL_law_1025 rfl ?_
                                                            refine y_iconst (pc := 1026) dL_law_1026 ?_
                                                            refine y_iadd (pc := 1027) dL_law_1027 ?_
                                                            refine y_gd (fun h262 => ?_)
                                                            refine y_sld (pc := 1028) dL_law_1028 rfl hLs h262 ?_
                                                            refine y_callVi (pc := 1029) v_X5_whatKind l_L_121 dL_law_1029 (c_X5_whatKind n _ _ _) rfl rc_X5 rfl (by decide) (by decide) (Nat.le_of_ble_eq_true rfl) (fun r264 M263 _ => ?_)
                                                            refine y_aload_n (pc := 1032) dL_law_1032 rfl ?_
                                                            refine y_aload_n (pc := 1033) dL_law_1033 rfl ?_
                                                            refine y_iload_n (pc := 1034) dL_law_1034 rfl ?_
                                                            refine y_iconst (pc := 1035) dL_law_1035 ?_
                                                            refine y_iadd (pc := 1036) dL_law_1036 ?_
                                                            refine y_sld (pc := 1037) dL_law_1037 rfl hLs h261 ?_
                                                            refine y_aload_n (pc := 1038) dL_law_1038 rfl ?_
                                                            refine y_iload_n (pc := 1039) dL_law_1039 rfl ?_
                                                            refine y_iconst (pc := 1040) dL_law_1040 ?_
                                                            refine y_iadd (pc := 1041) dL_law_1041 ?_
                                                            refine y_sld (pc := 1042) dL_law_1042 rfl hLs h262 ?_
                                                            refine y_callVi (pc := 1043) v_X6_whatKind l_L_124 dL_law_1043 (c_X6_whatKind n _ _ _) rfl rc_X6 rfl (by decide) (by decide) (Nat.le_of_ble_eq_true rfl) (fun r266 M265 _ => ?_)
                                                            refine y_gd (fun h267 => ?_)
                                                            refine y_gd (fun h268 => ?_)
                                                            refine y_icmp_eq (off := 435) (tgt := 1481) (pc := 1046) dL_law_1046 (by decide) h267 h268 (fun h269 => ?_) (fun h269 => ?_)
                                                            · refine y_iinc (L' := [some (rv 158), some (rv 130), some (rv 137), some (iv (a3 + 6))]) (pc := 1481) dL_law_1481 rfl (by decide) rfl rfl ?_
                                                              refine y_goto (tgt := 18) (pc := 1484) dL_law_1484 (by decide) ?_
                                                              exact y_sub (ls_s (ls_s (ls_s (ls_s ls_0)))) (ih M265 (a3 + 6))
                                                            · refine y_iconst (pc := 1049) dL_law_1049 ?_
                                                              exact y_zret (pc := 1050) dL_law_1050 (by decide)
                                                          · refine y_br (fun h270 => ?_) (fun h270 => ?_)
                                                            · refine y_tableIn (off := 1018) (tgt := 1051) (pc := 33) dL_law_33 h270 (by decide) (by decide) (by decide) rfl (by decide) ?_
                                                              refine y_aload_n (pc := 1051) dL_law_1051 rfl ?_
                                                              refine y_aload_n (pc := 1052) dL_law_1052 rfl ?_
                                                              refine y_iload_n (pc := 1053) dL_law_1053 rfl ?_
                                                              refine y_iconst (pc := 1054) dL_law_1054 ?_
                                                              refine y_iadd (pc := 1055) dL_law_1055 ?_
                                                              refine y_gd (fun h271 => ?_)
                                                              refine y_sld (pc := 1056) dL_law_1056 rfl hLs h271 ?_
                                                              refine y_aload_n (pc := 1057) dL_law_1057 rfl ?_
                                                              refine y_iload_n (pc := 1058) dL_law_1058 rfl ?_
                                                              refine y_iconst (pc := 1059) dL_law_1059 ?_
                                                              refine y_iadd (pc := 1060) dL_law_1060 ?_
                                                              refine y_gd (fun h272 => ?_)
                                                              refine y_sld (pc := 1061) dL_law_1061 rfl hLs h272 ?_
                                                              refine y_callVi (pc := 1062) v_X5_whichFront l_L_125 dL_law_1062 (c_X5_whichFront n _ _ _) rfl rc_X5 rfl (by decide) (by decide) (Nat.le_of_ble_eq_true rfl) (fun r274 M273 _ => ?_)
                                                              refine y_aload_n (pc := 1065) dL_law_1065 rfl ?_
                                                              refine y_aload_n (pc := 1066) dL_law_1066 rfl ?_
                                                              refine y_iload_n (pc := 1067) dL_law_1067 rfl ?_
                                                              refine y_iconst (pc := 1068) dL_law_1068 ?_
                                                              refine y_iadd (pc := 1069) dL_law_1069 ?_
                                                              refine y_sld (pc := 1070) dL_law_1070 rfl hLs h271 ?_
                                                              refine y_aload_n (pc := 1071) dL_law_1071 rfl ?_
                                                              refine y_iload_n (pc := 1072) dL_law_1072 rfl ?_
                                                              refine y_iconst (pc := 1073) dL_law_1073 ?_
                                                              refine y_iadd (pc := 1074) dL_law_1074 ?_
                                                              refine y_sld (pc := 1075) dL_law_1075 rfl hLs h272 ?_
                                                              refine y_callVi (pc := 1076) v_X6_whichFront l_L_128 dL_law_1076 (c_X6_whichFront n _ _ _) rfl rc_X6 rfl (by decide) (by decide) (Nat.le_of_ble_eq_true rfl) (fun r276 M275 _ => ?_)
                                                              refine y_gd (fun h277 => ?_)
                                                              refine y_gd (fun h278 => ?_)
                                                              refine y_icmp_eq (off := 402) (tgt := 1481) (pc := 1079) dL_law_1079 (by decide) h277 h278 (fun h279 => ?_) (fun h279 => ?_)
                                                              · refine y_iinc (L' := [some (rv 158), some (rv 130), some (rv 137), some (iv (a3 + 6))]) (pc := 1481) dL_law_1481 rfl (by decide) rfl rfl ?_
                                                                refine y_goto (tgt := 18) (pc := 1484) dL_law_1484 (by decide) ?_
                                                                exact y_sub (ls_s (ls_s (ls_s (ls_s ls_0)))) (ih M275 (a3 + 6))
                                                              · refine y_iconst (pc := 1082) dL_law_1082 ?_
                                                                exact y_zret (pc := 1083) dL_law_1083 (by decide)
                                                            · refine y_br (fun h280 => ?_) (fun h280 => ?_)
                                                              · refine y_tableIn (off := 1051) (tgt := 1084) (pc := 33) dL_law_33 h280 (by decide) (by decide) (by decide) rfl (by decide) ?_
                                                                refine y_aload_n (pc := 1084) dL_law_1084 rfl ?_
                                                                refine y_aload_n (pc := 1085) dL_law_1085 rfl ?_
                                                                refine y_iload_n (pc := 1086) dL_law_1086 rfl ?_
                                                                refine y_iconst (pc := 1087) dL_law_1087 ?_
                                                                refine y_iadd (pc := 1088) dL_law_1088 ?_
                                                                refine y_gd (fun h281 => ?_)
                                                                refine y_sld (pc := 1089) dL_law_1089 rfl hLs h281 ?_
                                                                refine y_aload_n (pc := 1090) dL_law_1090 rfl ?_
                                                                refine y_iload_n (pc := 1091) dL_law_1091 rfl ?_
                                                                refine y_iconst (pc := 1092) dL_law_1092 ?_
                                                                refine y_iadd (pc := 1093) dL_law_1093 ?_
                                                                refine y_gd (fun h282 => ?_)
                                                                refine y_sld (pc := 1094) dL_law_1094 rfl hLs h282 ?_
                                                                refine y_aload_n (pc := 1095) dL_law_1095 rfl ?_
                                                                refine y_iload_n (pc := 1096) dL_law_1096 rfl ?_
                                                                refine y_iconst (pc := 1097) dL_law_1097 ?_
                                                                refine y_iadd (pc := 1098) dL_law_1098 ?_
                                                                refine y_gd (fun h283 => ?_)
                                                                refine y_sld (pc := 1099) dL_law_1099 rfl hLs h283 ?_
                                                                refine y_callVi (pc := 1100) v_X5_two l_L_129 dL_law_1100 (c_X5_two n _ _ _ _) rfl rc_X5 rfl (by decide) (by decide) (Nat.le_of_ble_eq_true rfl) (fun r285 M284 _ => ?_)
                                                                refine y_aload_n (pc := 1103) dL_law_1103 rfl ?_
                                                                refine y_aload_n (pc := 1104) dL_law_1104 rfl ?_
                                                                refine y_iload_n (pc := 1105) dL_law_1105 rfl ?_
                                                                refine y_iconst (pc := 1106) dL_law_1106 ?_
                                                                refine y_iadd (pc := 1107) dL_law_1107 ?_
                                                                refine y_sld (pc := 1108) dL_law_1108 rfl hLs h281 ?_
                                                                refine y_aload_n (pc := 1109) dL_law_1109 rfl ?_
                                                                refine y_iload_n (pc := 1110) dL_law_1110 rfl ?_
                                                                refine y_iconst (pc := 1111) dL_law_1111 ?_
                                                                refine y_iadd (pc := 1112) dL_law_1112 ?_
                                                                refine y_sld (pc := 1113) dL_law_1113 rfl hLs h282 ?_
                                                                refine y_aload_n (pc := 1114) dL_law_1114 rfl ?_
                                                                refine y_iload_n (pc := 1115) dL_law_1115 rfl ?_
                                                                refine y_iconst (pc := 1116) dL_law_1116 ?_
                                                                refine y_iadd (pc := 1117) dL_law_1117 ?_
                                                                refine y_sld (pc := 1118) dL_law_1118 rfl hLs h283 ?_
                                                                refine y_callVi (pc := 1119) v_X6_two l_L_132 dL_law_1119 (c_X6_two n _ _ _ _) rfl rc_X6 rfl (by decide) (by decide) (Nat.le_of_ble_eq_true rfl) (fun r287 M286 _ => ?_)
                                                                refine y_gd (fun h288 => ?_)
                                                                refine y_gd (fun h289 => ?_)
                                                                refine y_icmp_eq (off := 359) (tgt := 1481) (pc := 1122) dL_law_1122 (by decide) h288 h289 (fun h290 => ?_) (fun h290 => ?_)
                                                                · refine y_iinc (L' := [some (rv 158), some (rv 130), some (rv 137), some (iv (a3 + 6))]) (pc := 1481) dL_law_1481 rfl (by decide) rfl rfl ?_
                                                                  refine y_goto (tgt := 18) (pc := 1484) dL_law_1484 (by decide) ?_
                                                                  exact y_sub (ls_s (ls_s (ls_s (ls_s ls_0)))) (ih M286 (a3 + 6))
                                                                · refine y_iconst (pc := 1125) dL_law_1125 ?_
                                                                  exact y_zret (pc := 1126) dL_law_1126 (by decide)
                                                              · refine y_br (fun h291 => ?_) (fun h291 => ?_)
                                                                · refine y_tableIn (off := 1094) (tgt := 1127) (pc := 33) dL_law_33 h291 (by decide) (by decide) (by decide) rfl (by decide) ?_
                                                                  refine y_aload_n (pc := 1127) dL_law_1127 rfl ?_
                                                                  refine y_aload_n (pc := 1128) dL_law_1128 rfl ?_
                                                                  refine y_iload_n (pc := 1129) dL_law_1129 rfl ?_
                                                                  refine y_iconst (pc := 1130) dL_law_1130 ?_
                                                                  refine y_iadd (pc := 1131) dL_law_1131 ?_
                                                                  refine y_gd (fun h292 => ?_)
                                                                  refine y_sld (pc := 1132) dL_law_1132 rfl hLs h292 ?_
                                                                  refine y_aload_n (pc := 1133) dL_law_1133 rfl ?_
                                                                  refine y_iload_n (pc := 1134) dL_law_1134 rfl ?_
                                                                  refine y_iconst (pc := 1135) dL_law_1135 ?_
                                                                  refine y_iadd (pc := 1136) dL_law_1136 ?_
                                                                  refine y_gd (fun h293 => ?_)
                                                                  refine y_sld (pc := 1137) dL_law_1137 rfl hLs h293 ?_
                                                                  refine y_aload_n (pc := 1138) dL_law_1138 rfl ?_
                                                                  refine y_iload_n (pc := 1139) dL_law_1139 rfl ?_
                                                                  refine y_iconst (pc := 1140) dL_law_1140 ?_
                                                                  refine y_iadd (pc := 1141) dL_law_1141 ?_
                                                                  refine y_gd (fun h294 => ?_)
                                                                  refine y_sld (pc := 1142) dL_law_1142 rfl hLs h294 ?_
                                                                  refine y_aload_n (pc := 1143) dL_law_1143 rfl ?_
                                                                  refine y_iload_n (pc := 1144) dL_law_1144 rfl ?_
                                                                  refine y_iconst (pc := 1145) dL_law_1145 ?_
                                                                  refine y_iadd (pc := 1146) dL_law_1146 ?_
                                                                  refine y_gd (fun h295 => ?_)
                                                                  refine y_sld (pc := 1147) dL_law_1147 rfl hLs h295 ?_
                                                                  refine y_aload_n (pc := 1148) dL_law_1148 rfl ?_
                                                                  refine y_iload_n (pc := 1149) dL_law_1149 rfl ?_
                                                                  refine y_iconst (pc := 1150) dL_law_1150 ?_
                                                                  refine y_iadd (pc := 1151) dL_law_1151 ?_
                                                                  refine y_gd (fun h296 => ?_)
                                                                  refine y_sld (pc := 1152) dL_law_1152 rfl hLs h296 ?_
                                                                  refine y_callVl (pc := 1153) v_X5_sun l_L_133 dL_law_1153 (c_X5_sun n _ _ _ _ _ _) rfl rc_X5 rfl (by decide) (by decide) (Nat.le_of_ble_eq_true rfl) (fun r298 M297 _ => ?_)
                                                                  refine y_aload_n (pc := 1156) dL_law_1156 rfl ?_
                                                                  refine y_aload_n (pc := 1157) dL_law_1157 rfl ?_
                                                                  refine y_iload_n (pc := 1158) dL_law_1158 rfl ?_
                                                                  refine y_iconst (pc := 1159) dL_law_1159 ?_
                                                                  refine y_iadd (pc := 1160) dL_law_1160 ?_
                                                                  refine y_sld (pc := 1161) dL_law_1161 rfl hLs h292 ?_
                                                                  refine y_aload_n (pc := 1162) dL_law_1162 rfl ?_
                                                                  refine y_iload_n (pc := 1163) dL_law_1163 rfl ?_
                                                                  refine y_iconst (pc := 1164) dL_law_1164 ?_
                                                                  refine y_iadd (pc := 1165) dL_law_1165 ?_
                                                                  refine y_sld (pc := 1166) dL_law_1166 rfl hLs h293 ?_
                                                                  refine y_aload_n (pc := 1167) dL_law_1167 rfl ?_
                                                                  refine y_iload_n (pc := 1168) dL_law_1168 rfl ?_
                                                                  refine y_iconst (pc := 1169) dL_law_1169 ?_
                                                                  refine y_iadd (pc := 1170) dL_law_1170 ?_
                                                                  refine y_sld (pc := 1171) dL_law_1171 rfl hLs h294 ?_
                                                                  refine y_aload_n (pc := 1172) dL_law_1172 rfl ?_
                                                                  refine y_iload_n (pc := 1173) dL_law_1173 rfl ?_
                                                                  refine y_iconst (pc := 1174) dL_law_1174 ?_
                                                                  refine y_iadd (pc := 1175) dL_law_1175 ?_
                                                                  refine y_sld (pc := 1176) dL_law_1176 rfl hLs h295 ?_
                                                                  refine y_aload_n (pc := 1177) dL_law_1177 rfl ?_
                                                                  refine y_iload_n (pc := 1178) dL_law_1178 rfl ?_
                                                                  refine y_iconst (pc := 1179) dL_law_1179 ?_
                                                                  refine y_iadd (pc := 1180) dL_law_1180 ?_
                                                                  refine y_sld (pc := 1181) dL_law_1181 rfl hLs h296 ?_
                                                                  refine y_callVl (pc := 1182) v_X6_sun l_L_137 dL_law_1182 (c_X6_sun n _ _ _ _ _ _) rfl rc_X6 rfl (by decide) (by decide) (Nat.le_of_ble_eq_true rfl) (fun r300 M299 _ => ?_)
                                                                  refine y_gd (fun h301 => ?_)
                                                                  refine y_gd (fun h302 => ?_)
                                                                  refine y_lcmp (pc := 1185) dL_law_1185 h301 h302 ?_
                                                                  refine y_if_eq (off := 295) (tgt := 1481) (pc := 1186) dL_law_1186 (by decide) (cmp_rng _ _) (fun h303 => ?_) (fun h303 => ?_)
                                                                  · refine y_iinc (L' := [some (rv 158), some (rv 130), some (rv 137), some (iv (a3 + 6))]) (pc := 1481) dL_law_1481 rfl (by decide) rfl rfl ?_
                                                                    refine y_goto (tgt := 18) (pc := 1484) dL_law_1484 (by decide) ?_
                                                                    exact y_sub (ls_s (ls_s (ls_s (ls_s ls_0)))) (ih M299 (a3 + 6))
                                                                  · refine y_iconst (pc := 1189) dL_law_1189 ?_
                                                                    exact y_zret (pc := 1190) dL_law_1190 (by decide)
                                                                · refine y_br (fun h304 => ?_) (fun h304 => ?_)
                                                                  · refine y_tableIn (off := 1158) (tgt := 1191) (pc := 33) dL_law_33 h304 (by decide) (by decide) (by decide) rfl (by decide) ?_
                                                                    refine y_aload_n (pc := 1191) dL_law_1191 rfl ?_
                                                                    refine y_aload_n (pc := 1192) dL_law_1192 rfl ?_
                                                                    refine y_iload_n (pc := 1193) dL_law_1193 rfl ?_
                                                                    refine y_iconst (pc := 1194) dL_law_1194 ?_
                                                                    refine y_iadd (pc := 1195) dL_law_1195 ?_
                                                                    refine y_gd (fun h305 => ?_)
                                                                    refine y_sld (pc := 1196) dL_law_1196 rfl hLs h305 ?_
                                                                    refine y_callVi (pc := 1197) v_X5_islands l_L_138 dL_law_1197 (c_X5_islands n _ _) rfl rc_X5 rfl (by decide) (by decide) (Nat.le_of_ble_eq_true rfl) (fun r307 M306 _ => ?_)
                                                                    refine y_aload_n (pc := 1200) dL_law_1200 rfl ?_
                                                                    refine y_aload_n (pc := 1201) dL_law_1201 rfl ?_
                                                                    refine y_iload_n (pc := 1202) dL_law_1202 rfl ?_
                                                                    refine y_iconst (pc := 1203) dL_law_1203 ?_
                                                                    refine y_iadd (pc := 1204) dL_law_1204 ?_
                                                                    refine y_sld (pc := 1205) dL_law_1205 rfl hLs h305 ?_
                                                                    refine y_callVi (pc := 1206) v_X6_islands l_L_141 dL_law_1206 (c_X6_islands n _ _) rfl rc_X6 rfl (by decide) (by decide) (Nat.le_of_ble_eq_true rfl) (fun r309 M308 _ => ?_)
                                                                    refine y_gd (fun h310 => ?_)
                                                                    refine y_gd (fun h311 => ?_)
                                                                    refine y_icmp_eq (off := 272) (tgt := 1481) (pc := 1209) dL_law_1209 (by decide) h310 h311 (fun h312 => ?_) (fun h312 => ?_)
                                                                    · refine y_iinc (L' := [some (rv 158), some (rv 130), some (rv 137), some (iv (a3 + 6))]) (pc := 1481) dL_law_1481 rfl (by decide) rfl rfl ?_
                                                                      refine y_goto (tgt := 18) (pc := 1484) dL_law_1484 (by decide) ?_
                                                                      exact y_sub (ls_s (ls_s (ls_s (ls_s ls_0)))) (ih M308 (a3 + 6))
                                                                    · refine y_iconst (pc := 1212) dL_law_1212 ?_
                                                                      exact y_zret (pc := 1213) dL_law_1213 (by decide)
                                                                  · refine y_br (fun h313 => ?_) (fun h313 => ?_)
                                                                    · refine y_tableIn (off := 1181) (tgt := 1214) (pc := 33) dL_law_33 h313 (by decide) (by decide) (by decide) rfl (by decide) ?_
                                                                      refine y_aload_n (pc := 1214) dL_law_1214 rfl ?_
                                                                      refine y_callVi (pc := 1215) v_X5_clearRun l_L_142 dL_law_1215 (c_X5_clearRun n _) rfl rc_X5 rfl (by decide) (by decide) (Nat.le_of_ble_eq_true rfl) (fun r315 M314 _ => ?_)
                                                                      refine y_aload_n (pc := 1218) dL_law_1218 rfl ?_
                                                                      refine y_callVi (pc := 1219) v_X6_clearRun l_L_145 dL_law_1219 (c_X6_clearRun n _) rfl rc_X6 rfl (by decide) (by decide) (Nat.le_of_ble_eq_true rfl) (fun r317 M316 _ => ?_)
                                                                      refine y_gd (fun h318 => ?_)
                                                                      refine y_gd (fun h319 => ?_)
                                                                      refine y_icmp_eq (off := 259) (tgt := 1481) (pc := 1222) dL_law_1222 (by decide) h318 h319 (fun h320 => ?_) (fun h320 => ?_)
                                                                      · refine y_iinc (L' := [some (rv 158), some (rv 130), some (rv 137), some (iv (a3 + 6))]) (pc := 1481) dL_law_1481 rfl (by decide) rfl rfl ?_
                                                                        refine y_goto (tgt := 18) (pc := 1484) dL_law_1484 (by decide) ?_
                                                                        exact y_sub (ls_s (ls_s (ls_s (ls_s ls_0)))) (ih M316 (a3 + 6))
                                                                      · refine y_iconst (pc := 1225) dL_law_1225 ?_
                                                                        exact y_zret (pc := 1226) dL_law_1226 (by decide)
                                                                    · refine y_br (fun h321 => ?_) (fun h321 => ?_)
                                                                      · refine y_tableIn (off := 1194) (tgt := 1227) (pc := 33) dL_law_33 h321 (by decide) (by decide) (by decide) rfl (by decide) ?_
                                                                        refine y_aload_n (pc := 1227) dL_law_1227 rfl ?_
                                                                        refine y_aload_n (pc := 1228) dL_law_1228 rfl ?_
                                                                        refine y_iload_n (pc := 1229) dL_law_1229 rfl ?_
                                                                        refine y_iconst (pc := 1230) dL_law_1230 ?_
                                                                        refine y_iadd (pc := 1231) dL_law_1231 ?_
                                                                        refine y_gd (fun h322 => ?_)
                                                                        refine y_sld (pc := 1232) dL_law_1232 rfl hLs h322 ?_
                                                                        refine y_aload_n (pc := 1233) dL_law_1233 rfl ?_
                                                                        refine y_iload_n (pc := 1234) dL_law_1234 rfl ?_
                                                                        refine y_iconst (pc := 1235) dL_law_1235 ?_
                                                                        refine y_iadd (pc := 1236) dL_law_1236 ?_
                                                                        refine y_gd (fun h323 => ?_)
                                                                        refine y_sld (pc := 1237) dL_law_1237 rfl hLs h323 ?_
                                                                        refine y_callVi (pc := 1238) v_X5_way l_L_146 dL_law_1238 (c_X5_way n _ _ _) rfl rc_X5 rfl (by decide) (by decide) (Nat.le_of_ble_eq_true rfl) (fun r325 M324 _ => ?_)
                                                                        refine y_aload_n (pc := 1241) dL_law_1241 rfl ?_
                                                                        refine y_aload_n (pc := 1242) dL_law_1242 rfl ?_
                                                                        refine y_iload_n (pc := 1243) dL_law_1243 rfl ?_
                                                                        refine y_iconst (pc := 1244) dL_law_1244 ?_
                                                                        refine y_iadd (pc := 1245) dL_law_1245 ?_
                                                                        refine y_sld (pc := 1246) dL_law_1246 rfl hLs h322 ?_
                                                                        refine y_aload_n (pc := 1247) dL_law_1247 rfl ?_
                                                                        refine y_iload_n (pc := 1248) dL_law_1248 rfl ?_
                                                                        refine y_iconst (pc := 1249) dL_law_1249 ?_
                                                                        refine y_iadd (pc := 1250) dL_law_1250 ?_
                                                                        refine y_sld (pc := 1251) dL_law_1251 rfl hLs h323 ?_
                                                                        refine y_callVi (pc := 1252) v_X6_way l_L_149 dL_law_1252 (c_X6_way n _ _ _) rfl rc_X6 rfl (by decide) (by decide) (Nat.le_of_ble_eq_true rfl) (fun r327 M326 _ => ?_)
                                                                        refine y_gd (fun h328 => ?_)
                                                                        refine y_gd (fun h329 => ?_)
                                                                        refine y_icmp_eq (off := 226) (tgt := 1481) (pc := 1255) dL_law_1255 (by decide) h328 h329 (fun h330 => ?_) (fun h330 => ?_)
                                                                        · refine y_iinc (L' := [some (rv 158), some (rv 130), some (rv 137), some (iv (a3 + 6))]) (pc := 1481) dL_law_1481 rfl (by decide) rfl rfl ?_
                                                                          refine y_goto (tgt := 18) (pc := 1484) dL_law_1484 (by decide) ?_
                                                                          exact y_sub (ls_s (ls_s (ls_s (ls_s ls_0)))) (ih M326 (a3 + 6))
                                                                        · refine y_iconst (pc := 1258) dL_law_1258 ?_
                                                                          exact y_zret (pc := 1259) dL_law_1259 (by decide)
                                                                      · refine y_br (fun h331 => ?_) (fun h331 => ?_)
                                                                        · refine y_tableIn (off := 1227) (tgt := 1260) (pc := 33) dL_law_33 h331 (by decide) (by decide) (by decide) rfl (by decide) ?_
                                                                          refine y_aload_n (pc := 1260) dL_law_1260 rfl ?_
                                                                          refine y_aload_n (pc := 1261) dL_law_1261 rfl ?_
                                                                          refine y_iload_n (pc := 1262) dL_law_1262 rfl ?_
                                                                          refine y_iconst (pc := 1263) dL_law_1263 ?_
                                                                          refine y_iadd (pc := 1264) dL_law_1264 ?_
                                                                          refine y_gd (fun h332 => ?_)
                                                                          refine y_sld (pc := 1265) dL_law_1265 rfl hLs h332 ?_
                                                                          refine y_aload_n (pc := 1266) dL_law_1266 rfl ?_
                                                                          refine y_iload_n (pc := 1267) dL_law_1267 rfl ?_
                                                                          refine y_iconst (pc := 1268) dL_law_1268 ?_
                                                                          refine y_iadd (pc := 1269) dL_law_1269 ?_
                                                                          refine y_gd (fun h333 => ?_)
                                                                          refine y_sld (pc := 1270) dL_law_1270 rfl hLs h333 ?_
                                                                          refine y_callVl (pc := 1271) v_X5_share l_L_150 dL_law_1271 (c_X5_share n _ _ _) rfl rc_X5 rfl (by decide) (by decide) (Nat.le_of_ble_eq_true rfl) (fun r335 M334 _ => ?_)
                                                                          refine y_aload_n (pc := 1274) dL_law_1274 rfl ?_
                                                                          refine y_aload_n (pc := 1275) dL_law_1275 rfl ?_
                                                                          refine y_iload_n (pc := 1276) dL_law_1276 rfl ?_
                                                                          refine y_iconst (pc := 1277) dL_law_1277 ?_
                                                                          refine y_iadd (pc := 1278) dL_law_1278 ?_
                                                                          refine y_sld (pc := 1279) dL_law_1279 rfl hLs h332 ?_
                                                                          refine y_aload_n (pc := 1280) dL_law_1280 rfl ?_
                                                                          refine y_iload_n (pc := 1281) dL_law_1281 rfl ?_
                                                                          refine y_iconst (pc := 1282) dL_law_1282 ?_
                                                                          refine y_iadd (pc := 1283) dL_law_1283 ?_
                                                                          refine y_sld (pc := 1284) dL_law_1284 rfl hLs h333 ?_
                                                                          refine y_callVl (pc := 1285) v_X6_share l_L_154 dL_law_1285 (c_X6_share n _ _ _) rfl rc_X6 rfl (by decide) (by decide) (Nat.le_of_ble_eq_true rfl) (fun r337 M336 _ => ?_)
                                                                          refine y_gd (fun h338 => ?_)
                                                                          refine y_gd (fun h339 => ?_)
                                                                          refine y_lcmp (pc := 1288) dL_law_1288 h338 h339 ?_
                                                                          refine y_if_eq (off := 192) (tgt := 1481) (pc := 1289) dL_law_1289 (by decide) (cmp_rng _ _) (fun h340 => ?_) (fun h340 => ?_)
                                                                          · refine y_iinc (L' := [some (rv 158), some (rv 130), some (rv 137), some (iv (a3 + 6))]) (pc := 1481) dL_law_1481 rfl (by decide) rfl rfl ?_
                                                                            refine y_goto (tgt := 18) (pc := 1484) dL_law_1484 (by decide) ?_
                                                                            exact y_sub (ls_s (ls_s (ls_s (ls_s ls_0)))) (ih M336 (a3 + 6))
                                                                          · refine y_iconst (pc := 1292) dL_law_1292 ?_
                                                                            exact y_zret (pc := 1293) dL_law_1293 (by decide)
                                                                        · refine y_br (fun h341 => ?_) (fun h341 => ?_)
                                                                          · refine y_tableIn (off := 1261) (tgt := 1294) (pc := 33) dL_law_33 h341 (by decide) (by decide) (by decide) rfl (by decide) ?_
                                                                            refine y_aload_n (pc := 1294) dL_law_1294 rfl ?_
                                                                            refine y_aload_n (pc := 1295) dL_law_1295 rfl ?_
                                                                            refine y_iload_n (pc := 1296) dL_law_1296 rfl ?_
                                                                            refine y_iconst (pc := 1297) dL_law_1297 ?_
                                                                            refine y_iadd (pc := 1298) dL_law_1298 ?_
                                                                            refine y_gd (fun h342 => ?_)
                                                                            refine y_sld (pc := 1299) dL_law_1299 rfl hLs h342 ?_
                                                                            refine y_callVi (pc := 1300) v_X5_sight l_L_155 dL_law_1300 (c_X5_sight n _ _) rfl rc_X5 rfl (by decide) (by decide) (Nat.le_of_ble_eq_true rfl) (fun r344 M343 _ => ?_)
                                                                            refine y_aload_n (pc := 1303) dL_law_1303 rfl ?_
                                                                            refine y_aload_n (pc := 1304) dL_law_1304 rfl ?_
                                                                            refine y_iload_n (pc := 1305) dL_law_1305 rfl ?_
                                                                            refine y_iconst (pc := 1306) dL_law_1306 ?_
                                                                            refine y_iadd (pc := 1307) dL_law_1307 ?_
                                                                            refine y_sld (pc := 1308) dL_law_1308 rfl hLs h342 ?_
                                                                            refine y_callVi (pc := 1309) v_X6_sight l_L_158 dL_law_1309 (c_X6_sight n _ _) rfl rc_X6 rfl (by decide) (by decide) (Nat.le_of_ble_eq_true rfl) (fun r346 M345 _ => ?_)
                                                                            refine y_gd (fun h347 => ?_)
                                                                            refine y_gd (fun h348 => ?_)
                                                                            refine y_icmp_eq (off := 169) (tgt := 1481) (pc := 1312) dL_law_1312 (by decide) h347 h348 (fun h349 => ?_) (fun h349 => ?_)
                                                                            · refine y_iinc (L' := [some (rv 158), some (rv 130), some (rv 137), some (iv (a3 + 6))]) (pc := 1481) dL_law_1481 rfl (by decide) rfl rfl ?_
                                                                              refine y_goto (tgt := 18) (pc := 1484) dL_law_1484 (by decide) ?_
                                                                              exact y_sub (ls_s (ls_s (ls_s (ls_s ls_0)))) (ih M345 (a3 + 6))
                                                                            · refine y_iconst (pc := 1315) dL_law_1315 ?_
                                                                              exact y_zret (pc := 1316) dL_law_1316 (by decide)
                                                                          · refine y_br (fun h350 => ?_) (fun h350 => ?_)
                                                                            · refine y_tableIn (off := 1284) (tgt := 1317) (pc := 33) dL_law_33 h350 (by decide) (by decide) (by decide) rfl (by decide) ?_
                                                                              refine y_aload_n (pc := 1317) dL_law_1317 rfl ?_
                                                                              refine y_aload_n (pc := 1318) dL_law_1318 rfl ?_
                                                                              refine y_iload_n (pc := 1319) dL_law_1319 rfl ?_
                                                                              refine y_iconst (pc := 1320) dL_law_1320 ?_
                                                                              refine y_iadd (pc := 1321) dL_law_1321 ?_
                                                                              refine y_gd (fun h351 => ?_)
                                                                              refine y_sld (pc := 1322) dL_law_1322 rfl hLs h351 ?_
                                                                              refine y_callVi (pc := 1323) v_X5_kinds l_L_159 dL_law_1323 (c_X5_kinds n _ _) rfl rc_X5 rfl (by decide) (by decide) (Nat.le_of_ble_eq_true rfl) (fun r353 M352 _ => ?_)
                                                                              refine y_aload_n (pc := 1326) dL_law_1326 rfl ?_
                                                                              refine y_aload_n (pc := 1327) dL_law_1327 rfl ?_
                                                                              refine y_iload_n (pc := 1328) dL_law_1328 rfl ?_
                                                                              refine y_iconst (pc := 1329) dL_law_1329 ?_
                                                                              refine y_iadd (pc := 1330) dL_law_1330 ?_
                                                                              refine y_sld (pc := 1331) dL_law_1331 rfl hLs h351 ?_
                                                                              refine y_callVi (pc := 1332) v_X6_kinds l_L_162 dL_law_1332 (c_X6_kinds n _ _) rfl rc_X6 rfl (by decide) (by decide) (Nat.le_of_ble_eq_true rfl) (fun r355 M354 _ => ?_)
                                                                              refine y_gd (fun h356 => ?_)
                                                                              refine y_gd (fun h357 => ?_)
                                                                              refine y_icmp_eq (off := 146) (tgt := 1481) (pc := 1335) dL_law_1335 (by decide) h356 h357 (fun h358 => ?_) (fun h358 => ?_)
                                                                              · refine y_iinc (L' := [some (rv 158), some (rv 130), some (rv 137), some (iv (a3 + 6))]) (pc := 1481) dL_law_1481 rfl (by decide) rfl rfl ?_
                                                                                refine y_goto (tgt := 18) (pc := 1484) dL_law_1484 (by decide) ?_
                                                                                exact y_sub (ls_s (ls_s (ls_s (ls_s ls_0)))) (ih M354 (a3 + 6))
                                                                              · refine y_iconst (pc := 1338) dL_law_1338 ?_
                                                                                exact y_zret (pc := 1339) dL_law_1339 (by decide)
                                                                            · refine y_br (fun h359 => ?_) (fun h359 => ?_)
                                                                              · refine y_tableIn (off := 1307) (tgt := 1340) (pc := 33) dL_law_33 h359 (by decide) (by decide) (by decide) rfl (by decide) ?_
                                                                                refine y_aload_n (pc := 1340) dL_law_1340 rfl ?_
                                                                                refine y_aload_n (pc := 1341) dL_law_1341 rfl ?_
                                                                                refine y_iload_n (pc := 1342) dL_law_1342 rfl ?_
                                                                                refine y_iconst (pc := 1343) dL_law_1343 ?_
                                                                                refine y_iadd (pc := 1344) dL_law_1344 ?_
                                                                                refine y_gd (fun h360 => ?_)
                                                                                refine y_sld (pc := 1345) dL_law_1345 rfl hLs h360 ?_
                                                                                refine y_callVi (pc := 1346) v_X5_row l_L_163 dL_law_1346 (c_X5_row n _ _) rfl rc_X5 rfl (by decide) (by decide) (Nat.le_of_ble_eq_true rfl) (fun r362 M361 _ => ?_)
                                                                                refine y_aload_n (pc := 1349) dL_law_1349 rfl ?_
                                                                                refine y_aload_n (pc := 1350) dL_law_1350 rfl ?_
                                                                                refine y_iload_n (pc := 1351) dL_law_1351 rfl ?_
                                                                                refine y_iconst (pc := 1352) dL_law_1352 ?_
                                                                                refine y_iadd (pc := 1353) dL_law_1353 ?_
                                                                                refine y_sld (pc := 1354) dL_law_1354 rfl hLs h360 ?_
                                                                                refine y_callVi (pc := 1355) v_X6_row l_L_166 dL_law_1355 (c_X6_row n _ _) rfl rc_X6 rfl (by decide) (by decide) (Nat.le_of_ble_eq_true rfl) (fun r364 M363 _ => ?_)
                                                                                refine y_gd (fun h365 => ?_)
                                                                                refine y_gd (fun h366 => ?_)
                                                                                refine y_icmp_eq (off := 123) (tgt := 1481) (pc := 1358) dL_law_1358 (by decide) h365 h366 (fun h367 => ?_) (fun h367 => ?_)
                                                                                · refine y_iinc (L' := [some (rv 158), some (rv 130), some (rv 137), some (iv (a3 + 6))]) (pc := 1481) dL_law_1481 rfl (by decide) rfl rfl ?_
                                                                                  refine y_goto (tgt := 18) (pc := 1484) dL_law_1484 (by decide) ?_
                                                                                  exact y_sub (ls_s (ls_s (ls_s (ls_s ls_0)))) (ih M363 (a3 + 6))
                                                                                · refine y_iconst (pc := 1361) dL_law_1361 ?_
                                                                                  exact y_zret (pc := 1362) dL_law_1362 (by decide)
                                                                              · refine y_br (fun h368 => ?_) (fun h368 => ?_)
                                                                                · refine y_tableIn (off := 1330) (tgt := 1363) (pc := 33) dL_law_33 h368 (by decide) (by decide) (by decide) rfl (by decide) ?_
                                                                                  refine y_aload_n (pc := 1363) dL_law_1363 rfl ?_
                                                                                  refine y_callVi (pc := 1364) v_X5_judge l_L_167 dL_law_1364 (c_X5_judge n _) rfl rc_X5 rfl (by decide) (by decide) (Nat.le_of_ble_eq_true rfl) (fun r370 M369 _ => ?_)
                                                                                  refine y_aload_n (pc := 1367) dL_law_1367 rfl ?_
                                                                                  refine y_callVi (pc := 1368) v_X6_judge l_L_170 dL_law_1368 (c_X6_judge n _) rfl rc_X6 rfl (by decide) (by decide) (Nat.le_of_ble_eq_true rfl) (fun r372 M371 _ => ?_)
                                                                                  refine y_gd (fun h373 => ?_)
                                                                                  refine y_gd (fun h374 => ?_)
                                                                                  refine y_icmp_eq (off := 110) (tgt := 1481) (pc := 1371) dL_law_1371 (by decide) h373 h374 (fun h375 => ?_) (fun h375 => ?_)
                                                                                  · refine y_iinc (L' := [some (rv 158), some (rv 130), some (rv 137), some (iv (a3 + 6))]) (pc := 1481) dL_law_1481 rfl (by decide) rfl rfl ?_
                                                                                    refine y_goto (tgt := 18) (pc := 1484) dL_law_1484 (by decide) ?_
                                                                                    exact y_sub (ls_s (ls_s (ls_s (ls_s ls_0)))) (ih M371 (a3 + 6))
                                                                                  · refine y_iconst (pc := 1374) dL_law_1374 ?_
                                                                                    exact y_zret (pc := 1375) dL_law_1375 (by decide)
                                                                                · refine y_br (fun h376 => ?_) (fun h376 => ?_)
                                                                                  · refine y_tableIn (off := 1343) (tgt := 1376) (pc := 33) dL_law_33 h376 (by decide) (by decide) (by decide) rfl (by decide) ?_
                                                                                    refine y_aload_n (pc := 1376) dL_law_1376 rfl ?_
                                                                                    refine y_callVi (pc := 1377) v_X5_clear l_L_171 dL_law_1377 (c_X5_clear n _) rfl rc_X5 rfl (by decide) (by decide) (Nat.le_of_ble_eq_true rfl) (fun r378 M377 _ => ?_)
                                                                                    refine y_aload_n (pc := 1380) dL_law_1380 rfl ?_
                                                                                    refine y_callVi (pc := 1381) v_X6_clear l_L_174 dL_law_1381 (c_X6_clear n _) rfl rc_X6 rfl (by decide) (by decide) (Nat.le_of_ble_eq_true rfl) (fun r380 M379 _ => ?_)
                                                                                    refine y_gd (fun h381 => ?_)
                                                                                    refine y_gd (fun h382 => ?_)
                                                                                    refine y_icmp_eq (off := 97) (tgt := 1481) (pc := 1384) dL_law_1384 (by decide) h381 h382 (fun h383 => ?_) (fun h383 => ?_)
                                                                                    · refine y_iinc (L' := [some (rv 158), some (rv 130), some (rv 137), some (iv (a3 + 6))]) (pc := 1481) dL_law_1481 rfl (by decide) rfl rfl ?_
                                                                                      refine y_goto (tgt := 18) (pc := 1484) dL_law_1484 (by decide) ?_
                                                                                      exact y_sub (ls_s (ls_s (ls_s (ls_s ls_0)))) (ih M379 (a3 + 6))
                                                                                    · refine y_iconst (pc := 1387) dL_law_1387 ?_
                                                                                      exact y_zret (pc := 1388) dL_law_1388 (by decide)
                                                                                  · refine y_br (fun h384 => ?_) (fun h384 => ?_)
                                                                                    · refine y_tableIn (off := 1356) (tgt := 1389) (pc := 33) dL_law_33 h384 (by decide) (by decide) (by decide) rfl (by decide) ?_
                                                                                      refine y_aload_n (pc := 1389) dL_law_1389 rfl ?_
                                                                                      refine y_aload_n (pc := 1390) dL_law_1390 rfl ?_
                                                                                      refine y_iload_n (pc := 1391) dL_law_1391 rfl ?_
                                                                                      refine y_iconst (pc := 1392) dL_law_1392 ?_
                                                                                      refine y_iadd (pc := 1393) dL_law_1393 ?_
                                                                                      refine y_gd (fun h385 => ?_)
                                                                                      refine y_sld (pc := 1394) dL_law_1394 rfl hLs h385 ?_
                                                                                      refine y_aload_n (pc := 1395) dL_law_1395 rfl ?_
                                                                                      refine y_iload_n (pc := 1396) dL_law_1396 rfl ?_
                                                                                      refine y_iconst (pc := 1397) dL_law_1397 ?_
                                                                                      refine y_iadd (pc := 1398) dL_law_1398 ?_
                                                                                      refine y_gd (fun h386 => ?_)
                                                                                      refine y_sld (pc := 1399) dL_law_1399 rfl hLs h386 ?_
                                                                                      refine y_aload_n (pc := 1400) dL_law_1400 rfl ?_
                                                                                      refine y_iload_n (pc := 1401) dL_law_1401 rfl ?_
                                                                                      refine y_iconst (pc := 1402) dL_law_1402 ?_
                                                                                      refine y_iadd (pc := 1403) dL_law_1403 ?_
                                                                                      refine y_gd (fun h387 => ?_)
                                                                                      refine y_sld (pc := 1404) dL_law_1404 rfl hLs h387 ?_
                                                                                      refine y_callVi (pc := 1405) v_X5_lots l_L_175 dL_law_1405 (c_X5_lots n _ _ _ _) rfl rc_X5 rfl (by decide) (by decide) (Nat.le_of_ble_eq_true rfl) (fun r389 M388 _ => ?_)
                                                                                      refine y_aload_n (pc := 1408) dL_law_1408 rfl ?_
                                                                                      refine y_aload_n (pc := 1409) dL_law_1409 rfl ?_
                                                                                      refine y_iload_n (pc := 1410) dL_law_1410 rfl ?_
                                                                                      refine y_iconst (pc := 1411) dL_law_1411 ?_
                                                                                      refine y_iadd (pc := 1412) dL_law_1412 ?_
                                                                                      refine y_sld (pc := 1413) dL_law_1413 rfl hLs h385 ?_
                                                                                      refine y_aload_n (pc := 1414) dL_law_1414 rfl ?_
                                                                                      refine y_iload_n (pc := 1415) dL_law_1415 rfl ?_
                                                                                      refine y_iconst (pc := 1416) dL_law_1416 ?_
                                                                                      refine y_iadd (pc := 1417) dL_law_1417 ?_
                                                                                      refine y_sld (pc := 1418) dL_law_1418 rfl hLs h386 ?_
                                                                                      refine y_aload_n (pc := 1419) dL_law_1419 rfl ?_
                                                                                      refine y_iload_n (pc := 1420) dL_law_1420 rfl ?_
                                                                                      refine y_iconst (pc := 1421) dL_law_1421 ?_
                                                                                      refine y_iadd (pc := 1422) dL_law_1422 ?_
                                                                                      refine y_sld (pc := 1423) dL_law_1423 rfl hLs h387 ?_
                                                                                      refine y_callVi (pc := 1424) v_X6_lots l_L_178 dL_law_1424 (c_X6_lots n _ _ _ _) rfl rc_X6 rfl (by decide) (by decide) (Nat.le_of_ble_eq_true rfl) (fun r391 M390 _ => ?_)
                                                                                      refine y_gd (fun h392 => ?_)
                                                                                      refine y_gd (fun h393 => ?_)
                                                                                      refine y_icmp_eq (off := 54) (tgt := 1481) (pc := 1427) dL_law_1427 (by decide) h392 h393 (fun h394 => ?_) (fun h394 => ?_)
                                                                                      · refine y_iinc (L' := [some (rv 158), some (rv 130), some (rv 137), some (iv (a3 + 6))]) (pc := 1481) dL_law_1481 rfl (by decide) rfl rfl ?_
                                                                                        refine y_goto (tgt := 18) (pc := 1484) dL_law_1484 (by decide) ?_
                                                                                        exact y_sub (ls_s (ls_s (ls_s (ls_s ls_0)))) (ih M390 (a3 + 6))
                                                                                      · refine y_iconst (pc := 1430) dL_law_1430 ?_
                                                                                        exact y_zret (pc := 1431) dL_law_1431 (by decide)
                                                                                    · refine y_br (fun h395 => ?_) (fun h395 => ?_)
                                                                                      · refine y_tableIn (off := 1399) (tgt := 1432) (pc := 33) dL_law_33 h395 (by decide) (by decide) (by decide) rfl (by decide) ?_
                                                                                        refine y_aload_n (pc := 1432) dL_law_1432 rfl ?_
                                                                                        refine y_callVi (pc := 1433) v_X5_image l_L_179 dL_law_1433 (c_X5_image n _) rfl rc_X5 rfl (by decide) (by decide) (Nat.le_of_ble_eq_true rfl) (fun r397 M396 _ => ?_)
                                                                                        refine y_aload_n (pc := 1436) dL_law_1436 rfl ?_
                                                                                        refine y_callVi (pc := 1437) v_X6_image l_L_182 dL_law_1437 (c_X6_image n _) rfl rc_X6 rfl (by decide) (by decide) (Nat.le_of_ble_eq_true rfl) (fun r399 M398 _ => ?_)
                                                                                        refine y_gd (fun h400 => ?_)
                                                                                        refine y_gd (fun h401 => ?_)
                                                                                        refine y_icmp_eq (off := 41) (tgt := 1481) (pc := 1440) dL_law_1440 (by decide) h400 h401 (fun h402 => ?_) (fun h402 => ?_)
                                                                                        · refine y_iinc (L' := [some (rv 158), some (rv 130), some (rv 137), some (iv (a3 + 6))]) (pc := 1481) dL_law_1481 rfl (by decide) rfl rfl ?_
                                                                                          refine y_goto (tgt := 18) (pc := 1484) dL_law_1484 (by decide) ?_
                                                                                          exact y_sub (ls_s (ls_s (ls_s (ls_s ls_0)))) (ih M398 (a3 + 6))
                                                                                        · refine y_iconst (pc := 1443) dL_law_1443 ?_
                                                                                          exact y_zret (pc := 1444) dL_law_1444 (by decide)
                                                                                      · refine y_br (fun h403 => ?_) (fun h403 => ?_)
                                                                                        · refine y_tableIn (off := 1412) (tgt := 1445) (pc := 33) dL_law_33 h403 (by decide) (by decide) (by decide) rfl (by decide) ?_
                                                                                          refine y_aload_n (pc := 1445) dL_law_1445 rfl ?_
                                                                                          refine y_callVi (pc := 1446) v_X5_restore l_L_183 dL_law_1446 (c_X5_restore n _) rfl rc_X5 rfl (by decide) (by decide) (Nat.le_of_ble_eq_true rfl) (fun r405 M404 _ => ?_)
                                                                                          refine y_aload_n (pc := 1449) dL_law_1449 rfl ?_
                                                                                          refine y_callVi (pc := 1450) v_X6_restore l_L_186 dL_law_1450 (c_X6_restore n _) rfl rc_X6 rfl (by decide) (by decide) (Nat.le_of_ble_eq_true rfl) (fun r407 M406 _ => ?_)
                                                                                          refine y_gd (fun h408 => ?_)
                                                                                          refine y_gd (fun h409 => ?_)
                                                                                          refine y_icmp_eq (off := 28) (tgt := 1481) (pc := 1453) dL_law_1453 (by decide) h408 h409 (fun h410 => ?_) (fun h410 => ?_)
                                                                                          · refine y_iinc (L' := [some (rv 158), some (rv 130), some (rv 137), some (iv (a3 + 6))]) (pc := 1481) dL_law_1481 rfl (by decide) rfl rfl ?_
                                                                                            refine y_goto (tgt := 18) (pc := 1484) dL_law_1484 (by decide) ?_
                                                                                            exact y_sub (ls_s (ls_s (ls_s (ls_s ls_0)))) (ih M406 (a3 + 6))
                                                                                          · refine y_iconst (pc := 1456) dL_law_1456 ?_
                                                                                            exact y_zret (pc := 1457) dL_law_1457 (by decide)
                                                                                        · refine y_br (fun h411 => ?_) (fun h411 => ?_)
                                                                                          · refine y_tableIn (off := 1425) (tgt := 1458) (pc := 33) dL_law_33 h411 (by decide) (by decide) (by decide) rfl (by decide) ?_
                                                                                            refine y_aload_n (pc := 1458) dL_law_1458 rfl ?_
                                                                                            refine y_aload_n (pc := 1459) dL_law_1459 rfl ?_
                                                                                            refine y_iload_n (pc := 1460) dL_law_1460 rfl ?_
                                                                                            refine y_iconst (pc := 1461) dL_law_1461 ?_
                                                                                            refine y_iadd (pc := 1462) dL_law_1462 ?_
                                                                                            refine y_gd (fun h412 => ?_)
                                                                                            refine y_sld (pc := 1463) dL_law_1463 rfl hLs h412 ?_
                                                                                            refine y_callVi (pc := 1464) v_X5_count l_L_187 dL_law_1464 (c_X5_count n _ _) rfl rc_X5 rfl (by decide) (by decide) (Nat.le_of_ble_eq_true rfl) (fun r414 M413 _ => ?_)
                                                                                            refine y_aload_n (pc := 1467) dL_law_1467 rfl ?_
                                                                                            refine y_aload_n (pc := 1468) dL_law_1468 rfl ?_
                                                                                            refine y_iload_n (pc := 1469) dL_law_1469 rfl ?_
                                                                                            refine y_iconst (pc := 1470) dL_law_1470 ?_
                                                                                            refine y_iadd (pc := 1471) dL_law_1471 ?_
                                                                                            refine y_sld (pc := 1472) dL_law_1472 rfl hLs h412 ?_
                                                                                            refine y_callVi (pc := 1473) v_X6_count l_L_190 dL_law_1473 (c_X6_count n _ _) rfl rc_X6 rfl (by decide) (by decide) (Nat.le_of_ble_eq_true rfl) (fun r416 M415 _ => ?_)
                                                                                            refine y_gd (fun h417 => ?_)
                                                                                            refine y_gd (fun h418 => ?_)
                                                                                            refine y_icmp_eq (off := 5) (tgt := 1481) (pc := 1476) dL_law_1476 (by decide) h417 h418 (fun h419 => ?_) (fun h419 => ?_)
                                                                                            · refine y_iinc (L' := [some (rv 158), some (rv 130), some (rv 137), some (iv (a3 + 6))]) (pc := 1481) dL_law_1481 rfl (by decide) rfl rfl ?_
                                                                                              refine y_goto (tgt := 18) (pc := 1484) dL_law_1484 (by decide) ?_
                                                                                              exact y_sub (ls_s (ls_s (ls_s (ls_s ls_0)))) (ih M415 (a3 + 6))
                                                                                            · refine y_iconst (pc := 1479) dL_law_1479 ?_
                                                                                              exact y_zret (pc := 1480) dL_law_1480 (by decide)
                                                                                          · refine y_tableOut (tgt := 1481) (pc := 33) dL_law_33 h5 (by omega) (by decide) ?_
                                                                                            refine y_iinc (L' := [some (rv 158), some (rv 130), some (rv 137), some (iv (a3 + 6))]) (pc := 1481) dL_law_1481 rfl (by decide) rfl rfl ?_
                                                                                            refine y_goto (tgt := 18) (pc := 1484) dL_law_1484 (by decide) ?_
                                                                                            exact y_sub (ls_s (ls_s (ls_s (ls_s ls_0)))) (ih M (a3 + 6))
