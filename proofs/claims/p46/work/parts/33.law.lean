def nwa (E : Mem) (u j N : Nat) (k : Mem → Nat → Rs) : Rs := if u + 1 + N ≤ 500000 then k (ez E j) (u + 1 + N) else none
theorem mn_rng {a b : Int} (ha : I32 a) (hb : I32 b) : I32 (mnZ a b) := by
  unfold mnZ
  by_cases h : a < b
  · rw [if_pos h]; exact ha
  · rw [if_neg h]; exact hb
section XR2
variable {own : String} {cc : ByteArray} {nL d rk : Nat} {sc : SC} {pc : Nat} {L : List (Option AV)} {st : List AV} {M E : Mem} {nx u : Nat} {o o1 o2 : Rs}
theorem x_leti {v : Int} {k : Int → Rs} (kk : ∀ x, X own cc nL d rk sc pc L (iv x :: st) M E nx u (k x)) : X own cc nL d rk sc pc L (iv v :: st) M E nx u (lt v k) := kk v
theorem x_iastw {j N q : Nat} {a v : Int} {k : Mem → Rs} (hd : decode cc pc = .ok (.iastore, 1)) (hj : j < nx) (h5 : j < 5) (hN : eln j = N) (hq : 3000000000 + j = q) (h : 0 ≤ a ∧ a < (N : Int)) (kk : ∀ E1, X own cc nL d rk sc (pc + 1) L st M E1 nx u (k E1)) : X own cc nL d rk sc pc L (iv v :: iv a :: rv q :: st) M E nx u (wr E j (Int.toNat a) v k) := x_iast hd hj h5 hN hq h (kk _)
theorem x_newaw {j N q : Nat} {k : Mem → Nat → Rs} (hd : decode cc pc = .ok (.newarray .int, 2)) (hj : j < 5) (hN : eln j = N) (hq : 3000000000 + j = q) (hL : nopL q L = true) (hst : nopS q st = true) (kk : ∀ E1 u1, X own cc nL d rk sc (pc + 2) L (rv q :: st) M E1 (j + 1) u1 (k E1 u1)) : X own cc nL d rk sc pc L (iv (N : Int) :: st) M E j u (nwa E u j N k) := x_newa hd hj hN hq hL hst (kk _ _)
end XR2
def m_L_law_901 (n : Nat) : Nat → Mem → Mem → Nat → Int → Int → Int → Rs
  | 0, _, _, _, _, _, _ => none
  | t + 1, M, E, u, a2, a4, a8 => if I32 a8 then (if I32 a2 then (if a2 ≤ a8 then (bd (m_X5_back n M) (fun r5 M4 => if I32 r5 then (if r5 < 0 then (some (0, M4)) else (bd (m_X5_count n M4 3) (fun r9 M8 => if I32 r9 then (if I32 (a4 + 11) then (if r9 = (a4 + 11) then (bd (m_X5_restore n M8) (fun r14 M13 => if I32 r14 then (if I32 a4 then (if r14 = a4 then (bd (m_X5_count n M13 3) (fun r19 M18 => if I32 r19 then (if r19 = a4 then (bd (m_X5_count n M18 8) (fun r23 M22 => if I32 r23 then (if r23 = 0 then (some (1, M22)) else (some (0, M22))) else none)) else (some (0, M18))) else none)) else (some (0, M13))) else none) else none)) else (some (0, M8))) else none) else none))) else none)) else (bd (m_X5_stand n M a8 9 0) (fun r27 M26 => bd (m_X5_stand n M26 a8 9 1) (fun r29 M28 => bd (m_X5_stands n M28 a8 r27) (fun r31 M30 => if I32 r31 then (if r31 < 0 then (some (0, M30)) else (bd (m_X5_personThen n M30 a8 9 1) (fun r35 M34 => if I32 r35 then (if I32 r29 then (if r35 = r29 then (bd (m_X5_back n M34) (fun r40 M39 => if I32 r40 then (if r40 < 0 then (some (0, M39)) else (bd (m_X5_person n M39 a8 3) (fun r44 M43 => if I32 r44 then (if r44 = r31 then (bd (m_X5_personThen n M43 a8 9 1) (fun r48 M47 => if I32 r48 then (if r48 ≤ r29 then ((m_L_law_901 n t) M47 E u a2 a4 (a8 + 1)) else (some (0, M47))) else none)) else (some (0, M43))) else none))) else none)) else (some (0, M34))) else none) else none))) else none))))) else none) else none
theorem t_L_law_901 (Ls : Nat) (xs : Nat → Int32) (hLs : Ls < 2147483648) (hLs32 : I32 (Ls : Int)) (n : Nat) : ∀ (t : Nat) (M E : Mem) (u : Nat) (a2 : Int) (a4 : Int) (a8 : Int), X RL code 19 8 1 (some (Ls, xs)) 901 [none, some (rv 130), some (iv a2), none, some (iv a4), none, none, none, some (iv a8), none, none, none, none, none, none, none, none, none, none] [] M E 0 u (m_L_law_901 n t M E u a2 a4 a8) := by
  intro t
  induction t with
  | zero => intro M E u a2 a4 a8; exact x_none
  | succ t ih =>
    intro M E u a2 a4 a8
    rewrite [m_L_law_901]
    refine x_iload (pc := 901) dL_law_901 rfl ?_
    refine x_iload_n (pc := 903) dL_law_903 rfl ?_
    refine x_gd (fun h1 => ?_)
    refine x_gd (fun h2 => ?_)
    refine x_icmp_ge (off := 95) (tgt := 999) (pc := 904) dL_law_904 (by decide) h1 h2 (fun h3 => ?_) (fun h3 => ?_)
    · refine x_aload_n (pc := 999) dL_law_999 rfl ?_
      refine x_callVi (pc := 1000) v_X5_back l_L_111 dL_law_1000 (c_X5_back n _) (fun _ h => nomatch h) rfl rc_X5 rfl (by decide) (by decide) (Nat.le_of_ble_eq_true rfl) (fun r5 M4 _ => ?_)
      refine x_gd (fun h6 => ?_)
      refine x_if_lt (off := 48) (tgt := 1051) (pc := 1003) dL_law_1003 (by decide) h6 (fun h7 => ?_) (fun h7 => ?_)
      · refine x_iconst (pc := 1051) dL_law_1051 ?_
        exact x_ret (pc := 1052) dL_law_1052 (by decide)
      · refine x_aload_n (pc := 1006) dL_law_1006 rfl ?_
        refine x_iconst (pc := 1007) dL_law_1007 ?_
        refine x_callVi (pc := 1008) v_X5_count l_L_47 dL_law_1008 (c_X5_count n _ _) (fun _ h => nomatch h) rfl rc_X5 rfl (by decide) (by decide) (Nat.le_of_ble_eq_true rfl) (fun r9 M8 _ => ?_)
        refine x_iload (pc := 1011) dL_law_1011 rfl ?_
        refine x_bipush (pc := 1013) dL_law_1013 (by decide) ?_
        refine x_iadd (pc := 1015) dL_law_1015 ?_
        refine x_gd (fun h10 => ?_)
        refine x_gd (fun h11 => ?_)
        refine x_icmp_ne (off := 35) (tgt := 1051) (pc := 1016) dL_law_1016 (by decide) h10 h11 (fun h12 => ?_) (fun h12 => ?_)
        · refine x_iconst (pc := 1051) dL_law_1051 ?_
          exact x_ret (pc := 1052) dL_law_1052 (by decide)
        · refine x_aload_n (pc := 1019) dL_law_1019 rfl ?_
          refine x_callVi (pc := 1020) v_X5_restore l_L_114 dL_law_1020 (c_X5_restore n _) (fun _ h => nomatch h) rfl rc_X5 rfl (by decide) (by decide) (Nat.le_of_ble_eq_true rfl) (fun r14 M13 _ => ?_)
          refine x_iload (pc := 1023) dL_law_1023 rfl ?_
          refine x_gd (fun h15 => ?_)
          refine x_gd (fun h16 => ?_)
          refine x_icmp_ne (off := 26) (tgt := 1051) (pc := 1025) dL_law_1025 (by decide) h15 h16 (fun h17 => ?_) (fun h17 => ?_)
          · refine x_iconst (pc := 1051) dL_law_1051 ?_
            exact x_ret (pc := 1052) dL_law_1052 (by decide)
          · refine x_aload_n (pc := 1028) dL_law_1028 rfl ?_
            refine x_iconst (pc := 1029) dL_law_1029 ?_
            refine x_callVi (pc := 1030) v_X5_count l_L_47 dL_law_1030 (c_X5_count n _ _) (fun _ h => nomatch h) rfl rc_X5 rfl (by decide) (by decide) (Nat.le_of_ble_eq_true rfl) (fun r19 M18 _ => ?_)
            refine x_iload (pc := 1033) dL_law_1033 rfl ?_
            refine x_gd (fun h20 => ?_)
            refine x_icmp_ne (off := 16) (tgt := 1051) (pc := 1035) dL_law_1035 (by decide) h20 h16 (fun h21 => ?_) (fun h21 => ?_)
            · refine x_iconst (pc := 1051) dL_law_1051 ?_
              exact x_ret (pc := 1052) dL_law_1052 (by decide)
            · refine x_aload_n (pc := 1038) dL_law_1038 rfl ?_
              refine x_bipush (pc := 1039) dL_law_1039 (by decide) ?_
              refine x_callVi (pc := 1041) v_X5_count l_L_47 dL_law_1041 (c_X5_count n _ _) (fun _ h => nomatch h) rfl rc_X5 rfl (by decide) (by decide) (Nat.le_of_ble_eq_true rfl) (fun r23 M22 _ => ?_)
              refine x_gd (fun h24 => ?_)
              refine x_if_ne (off := 7) (tgt := 1051) (pc := 1044) dL_law_1044 (by decide) h24 (fun h25 => ?_) (fun h25 => ?_)
              · refine x_iconst (pc := 1051) dL_law_1051 ?_
                exact x_ret (pc := 1052) dL_law_1052 (by decide)
              · refine x_iconst (pc := 1047) dL_law_1047 ?_
                refine x_goto (tgt := 1052) (pc := 1048) dL_law_1048 (by decide) ?_
                exact x_ret (pc := 1052) dL_law_1052 (by decide)
    · refine x_aload_n (pc := 907) dL_law_907 rfl ?_
      refine x_iload (pc := 908) dL_law_908 rfl ?_
      refine x_bipush (pc := 910) dL_law_910 (by decide) ?_
      refine x_iconst (pc := 912) dL_law_912 ?_
      refine x_callVi (pc := 913) v_X5_stand l_L_105 dL_law_913 (c_X5_stand n _ _ _ _) (fun _ h => nomatch h) rfl rc_X5 rfl (by decide) (by decide) (Nat.le_of_ble_eq_true rfl) (fun r27 M26 _ => ?_)
      refine x_istore (L' := [none, some (rv 130), some (iv a2), none, some (iv a4), none, none, none, some (iv a8), some (iv r27), none, none, none, none, none, none, none, none, none]) (pc := 916) dL_law_916 (by decide) rfl rfl ?_
      refine x_aload_n (pc := 918) dL_law_918 rfl ?_
      refine x_iload (pc := 919) dL_law_919 rfl ?_
      refine x_bipush (pc := 921) dL_law_921 (by decide) ?_
      refine x_iconst (pc := 923) dL_law_923 ?_
      refine x_callVi (pc := 924) v_X5_stand l_L_105 dL_law_924 (c_X5_stand n _ _ _ _) (fun _ h => nomatch h) rfl rc_X5 rfl (by decide) (by decide) (Nat.le_of_ble_eq_true rfl) (fun r29 M28 _ => ?_)
      refine x_istore (L' := [none, some (rv 130), some (iv a2), none, some (iv a4), none, none, none, some (iv a8), some (iv r27), some (iv r29), none, none, none, none, none, none, none, none]) (pc := 927) dL_law_927 (by decide) rfl rfl ?_
      refine x_aload_n (pc := 929) dL_law_929 rfl ?_
      refine x_iload (pc := 930) dL_law_930 rfl ?_
      refine x_iload (pc := 932) dL_law_932 rfl ?_
      refine x_callVi (pc := 934) v_X5_stands l_L_53 dL_law_934 (c_X5_stands n _ _ _) (fun _ h => nomatch h) rfl rc_X5 rfl (by decide) (by decide) (Nat.le_of_ble_eq_true rfl) (fun r31 M30 _ => ?_)
      refine x_istore (L' := [none, some (rv 130), some (iv a2), none, some (iv a4), none, none, none, some (iv a8), some (iv r27), some (iv r29), some (iv r31), none, none, none, none, none, none, none]) (pc := 937) dL_law_937 (by decide) rfl rfl ?_
      refine x_iload (pc := 939) dL_law_939 rfl ?_
      refine x_gd (fun h32 => ?_)
      refine x_if_lt (off := 50) (tgt := 991) (pc := 941) dL_law_941 (by decide) h32 (fun h33 => ?_) (fun h33 => ?_)
      · refine x_iconst (pc := 991) dL_law_991 ?_
        exact x_ret (pc := 992) dL_law_992 (by decide)
      · refine x_aload_n (pc := 944) dL_law_944 rfl ?_
        refine x_iload (pc := 945) dL_law_945 rfl ?_
        refine x_bipush (pc := 947) dL_law_947 (by decide) ?_
        refine x_iconst (pc := 949) dL_law_949 ?_
        refine x_callVi (pc := 950) v_X5_personThen l_L_108 dL_law_950 (c_X5_personThen n _ _ _ _) (fun _ h => nomatch h) rfl rc_X5 rfl (by decide) (by decide) (Nat.le_of_ble_eq_true rfl) (fun r35 M34 _ => ?_)
        refine x_iload (pc := 953) dL_law_953 rfl ?_
        refine x_gd (fun h36 => ?_)
        refine x_gd (fun h37 => ?_)
        refine x_icmp_ne (off := 36) (tgt := 991) (pc := 955) dL_law_955 (by decide) h36 h37 (fun h38 => ?_) (fun h38 => ?_)
        · refine x_iconst (pc := 991) dL_law_991 ?_
          exact x_ret (pc := 992) dL_law_992 (by decide)
        · refine x_aload_n (pc := 958) dL_law_958 rfl ?_
          refine x_callVi (pc := 959) v_X5_back l_L_111 dL_law_959 (c_X5_back n _) (fun _ h => nomatch h) rfl rc_X5 rfl (by decide) (by decide) (Nat.le_of_ble_eq_true rfl) (fun r40 M39 _ => ?_)
          refine x_gd (fun h41 => ?_)
          refine x_if_lt (off := 29) (tgt := 991) (pc := 962) dL_law_962 (by decide) h41 (fun h42 => ?_) (fun h42 => ?_)
          · refine x_iconst (pc := 991) dL_law_991 ?_
            exact x_ret (pc := 992) dL_law_992 (by decide)
          · refine x_aload_n (pc := 965) dL_law_965 rfl ?_
            refine x_iload (pc := 966) dL_law_966 rfl ?_
            refine x_iconst (pc := 968) dL_law_968 ?_
            refine x_callVi (pc := 969) v_X5_person l_L_72 dL_law_969 (c_X5_person n _ _ _) (fun _ h => nomatch h) rfl rc_X5 rfl (by decide) (by decide) (Nat.le_of_ble_eq_true rfl) (fun r44 M43 _ => ?_)
            refine x_iload (pc := 972) dL_law_972 rfl ?_
            refine x_gd (fun h45 => ?_)
            refine x_icmp_ne (off := 17) (tgt := 991) (pc := 974) dL_law_974 (by decide) h45 h32 (fun h46 => ?_) (fun h46 => ?_)
            · refine x_iconst (pc := 991) dL_law_991 ?_
              exact x_ret (pc := 992) dL_law_992 (by decide)
            · refine x_iload (pc := 977) dL_law_977 rfl ?_
              refine x_aload_n (pc := 979) dL_law_979 rfl ?_
              refine x_iload (pc := 980) dL_law_980 rfl ?_
              refine x_bipush (pc := 982) dL_law_982 (by decide) ?_
              refine x_iconst (pc := 984) dL_law_984 ?_
              refine x_callVi (pc := 985) v_X5_personThen l_L_108 dL_law_985 (c_X5_personThen n _ _ _ _) (fun _ h => nomatch h) rfl rc_X5 rfl (by decide) (by decide) (Nat.le_of_ble_eq_true rfl) (fun r48 M47 _ => ?_)
              refine x_gd (fun h49 => ?_)
              refine x_icmp_ge (off := 5) (tgt := 993) (pc := 988) dL_law_988 (by decide) h37 h49 (fun h50 => ?_) (fun h50 => ?_)
              · refine x_iinc (L' := [none, some (rv 130), some (iv a2), none, some (iv a4), none, none, none, some (iv (a8 + 1)), some (iv r27), some (iv r29), some (iv r31), none, none, none, none, none, none, none]) (pc := 993) dL_law_993 rfl (by decide) rfl rfl ?_
                refine x_goto (tgt := 901) (pc := 996) dL_law_996 (by decide) ?_
                exact x_sub (ls_n (ls_s (ls_s (ls_n (ls_s (ls_n (ls_n (ls_n (ls_s (ls_n (ls_n (ls_n (ls_n (ls_n (ls_n (ls_n (ls_n (ls_n (ls_n ls_0))))))))))))))))))) (ih M47 E u a2 a4 (a8 + 1))
              · refine x_iconst (pc := 991) dL_law_991 ?_
                exact x_ret (pc := 992) dL_law_992 (by decide)
def m_L_law_800 (n : Nat) (k666 : Mem → Mem → Nat → Int → Int → Int → Int → Int → Int → Rs) (M E : Mem) (u : Nat) (a2 : Int) (a4 : Int) (a5 : Int) (a6 : Int) (a7 : Int) (a8 : Int) (s0 : Int) (s1 : Int) : Rs := if I32 s1 then (if I32 s0 then (if s1 = s0 then (if I32 (bAnd (bShr a7 a8) 1) then (if (bAnd (bShr a7 a8) 1) = 0 then (k666 M E u a2 a4 a5 a6 a7 (a8 + 1)) else (bd (m_X5_islands n M a8) (fun r57 M56 => if I32 (bAnd a7 r57) then (if I32 r57 then (if (bAnd a7 r57) = r57 then (if I32 (bAnd (bShr r57 a8) 1) then (if (bAnd (bShr r57 a8) 1) = 1 then (bd (m_J6_bitCount_0f7a4 n M56 r57) (fun r64 M63 => bd (m_X5_islands n M63 (-2)) (fun r66 M65 => if I32 r64 then (if I32 r66 then (if r64 ≤ r66 then (lt (bAnd a7 (bXor r57 (-1))) (fun x70 => k666 M65 E u a2 a4 a5 (a6 + 1) x70 (a8 + 1))) else (some (0, M65))) else none) else none))) else (some (0, M56))) else none) else (some (0, M56))) else none) else none))) else none) else (some (0, M))) else none) else none
theorem t_L_law_800 (Ls : Nat) (xs : Nat → Int32) (hLs : Ls < 2147483648) (hLs32 : I32 (Ls : Int)) (n : Nat) (k666 : Mem → Mem → Nat → Int → Int → Int → Int → Int → Int → Rs) (hk666 : ∀ (M E : Mem) (u : Nat) (a2 : Int) (a4 : Int) (a5 : Int) (a6 : Int) (a7 : Int) (a8 : Int), X RL code 19 8 1 (some (Ls, xs)) 666 [none, some (rv 130), some (iv a2), none, some (iv a4), some (iv a5), some (iv a6), some (iv a7), some (iv a8), none, none, none, none, none, none, none, none, none, none] [] M E 0 u (k666 M E u a2 a4 a5 a6 a7 a8)) (M E : Mem) (u : Nat) (a2 : Int) (a4 : Int) (a5 : Int) (a6 : Int) (a7 : Int) (a8 : Int) (s0 : Int) (s1 : Int) : X RL code 19 8 1 (some (Ls, xs)) 800 [none, some (rv 130), some (iv a2), none, some (iv a4), some (iv a5), some (iv a6), some (iv a7), some (iv a8), none, none, none, none, none, none, none, none, none, none] [iv s0, iv s1] M E 0 u (m_L_law_800 n k666 M E u a2 a4 a5 a6 a7 a8 s0 s1) := by
  unfold m_L_law_800
  refine x_gd (fun h51 => ?_)
  refine x_gd (fun h52 => ?_)
  refine x_icmp_eq (off := 5) (tgt := 805) (pc := 800) dL_law_800 (by decide) h51 h52 (fun h53 => ?_) (fun h53 => ?_)
  · refine x_iload (pc := 805) dL_law_805 rfl ?_
    refine x_iload (pc := 807) dL_law_807 rfl ?_
    refine x_ishr (pc := 809) dL_law_809 ?_
    refine x_iconst (pc := 810) dL_law_810 ?_
    refine x_iand (pc := 811) dL_law_811 ?_
    refine x_gd (fun h54 => ?_)
    refine x_if_ne (off := 6) (tgt := 818) (pc := 812) dL_law_812 (by decide) h54 (fun h55 => ?_) (fun h55 => ?_)
    · refine x_aload_n (pc := 818) dL_law_818 rfl ?_
      refine x_iload (pc := 819) dL_law_819 rfl ?_
      refine x_callVi (pc := 821) v_X5_islands l_L_99 dL_law_821 (c_X5_islands n _ _) (fun _ h => nomatch h) rfl rc_X5 rfl (by decide) (by decide) (Nat.le_of_ble_eq_true rfl) (fun r57 M56 _ => ?_)
      refine x_istore (L' := [none, some (rv 130), some (iv a2), none, some (iv a4), some (iv a5), some (iv a6), some (iv a7), some (iv a8), some (iv r57), none, none, none, none, none, none, none, none, none]) (pc := 824) dL_law_824 (by decide) rfl rfl ?_
      refine x_iload (pc := 826) dL_law_826 rfl ?_
      refine x_iload (pc := 828) dL_law_828 rfl ?_
      refine x_iand (pc := 830) dL_law_830 ?_
      refine x_iload (pc := 831) dL_law_831 rfl ?_
      refine x_gd (fun h58 => ?_)
      refine x_gd (fun h59 => ?_)
      refine x_icmp_ne (off := 28) (tgt := 861) (pc := 833) dL_law_833 (by decide) h58 h59 (fun h60 => ?_) (fun h60 => ?_)
      · refine x_iconst (pc := 861) dL_law_861 ?_
        exact x_ret (pc := 862) dL_law_862 (by decide)
      · refine x_iload (pc := 836) dL_law_836 rfl ?_
        refine x_iload (pc := 838) dL_law_838 rfl ?_
        refine x_ishr (pc := 840) dL_law_840 ?_
        refine x_iconst (pc := 841) dL_law_841 ?_
        refine x_iand (pc := 842) dL_law_842 ?_
        refine x_iconst (pc := 843) dL_law_843 ?_
        refine x_gd (fun h61 => ?_)
        refine x_icmp_ne (off := 17) (tgt := 861) (pc := 844) dL_law_844 (by decide) h61 (by decide) (fun h62 => ?_) (fun h62 => ?_)
        · refine x_iconst (pc := 861) dL_law_861 ?_
          exact x_ret (pc := 862) dL_law_862 (by decide)
        · refine x_iload (pc := 847) dL_law_847 rfl ?_
          refine x_callSi (pc := 849) s_J6_bitCount_0f7a4 l_L_81 dL_law_849 (c_J6_bitCount_0f7a4 n _ _) (fun _ h => nomatch h) rfl rfl (by decide) (by decide) (Nat.le_of_ble_eq_true rfl) (fun r64 M63 _ => ?_)
          refine x_aload_n (pc := 852) dL_law_852 rfl ?_
          refine x_bipush (pc := 853) dL_law_853 (by decide) ?_
          refine x_callVi (pc := 855) v_X5_islands l_L_99 dL_law_855 (c_X5_islands n _ _) (fun _ h => nomatch h) rfl rc_X5 rfl (by decide) (by decide) (Nat.le_of_ble_eq_true rfl) (fun r66 M65 _ => ?_)
          refine x_gd (fun h67 => ?_)
          refine x_gd (fun h68 => ?_)
          refine x_icmp_le (off := 5) (tgt := 863) (pc := 858) dL_law_858 (by decide) h67 h68 (fun h69 => ?_) (fun h69 => ?_)
          · refine x_iload (pc := 863) dL_law_863 rfl ?_
            refine x_iload (pc := 865) dL_law_865 rfl ?_
            refine x_iconst (pc := 867) dL_law_867 ?_
            refine x_ixor (pc := 868) dL_law_868 ?_
            refine x_iand (pc := 869) dL_law_869 ?_
            refine x_leti (fun x70 => ?_)
            refine x_istore (L' := [none, some (rv 130), some (iv a2), none, some (iv a4), some (iv a5), some (iv a6), some (iv x70), some (iv a8), some (iv r57), none, none, none, none, none, none, none, none, none]) (pc := 870) dL_law_870 (by decide) rfl rfl ?_
            refine x_iinc (L' := [none, some (rv 130), some (iv a2), none, some (iv a4), some (iv a5), some (iv (a6 + 1)), some (iv x70), some (iv a8), some (iv r57), none, none, none, none, none, none, none, none, none]) (pc := 872) dL_law_872 rfl (by decide) rfl rfl ?_
            refine x_iinc (L' := [none, some (rv 130), some (iv a2), none, some (iv a4), some (iv a5), some (iv (a6 + 1)), some (iv x70), some (iv (a8 + 1)), some (iv r57), none, none, none, none, none, none, none, none, none]) (pc := 875) dL_law_875 rfl (by decide) rfl rfl ?_
            refine x_goto (tgt := 666) (pc := 878) dL_law_878 (by decide) ?_
            exact x_sub (ls_n (ls_s (ls_s (ls_n (ls_s (ls_s (ls_s (ls_s (ls_s (ls_n (ls_n (ls_n (ls_n (ls_n (ls_n (ls_n (ls_n (ls_n (ls_n ls_0))))))))))))))))))) (hk666 M65 E u a2 a4 a5 (a6 + 1) x70 (a8 + 1))
          · refine x_iconst (pc := 861) dL_law_861 ?_
            exact x_ret (pc := 862) dL_law_862 (by decide)
    · refine x_goto (tgt := 875) (pc := 815) dL_law_815 (by decide) ?_
      refine x_iinc (L' := [none, some (rv 130), some (iv a2), none, some (iv a4), some (iv a5), some (iv a6), some (iv a7), some (iv (a8 + 1)), none, none, none, none, none, none, none, none, none, none]) (pc := 875) dL_law_875 rfl (by decide) rfl rfl ?_
      refine x_goto (tgt := 666) (pc := 878) dL_law_878 (by decide) ?_
      exact x_sub (ls_n (ls_s (ls_s (ls_n (ls_s (ls_s (ls_s (ls_s (ls_s (ls_n (ls_n (ls_n (ls_n (ls_n (ls_n (ls_n (ls_n (ls_n (ls_n ls_0))))))))))))))))))) (hk666 M E u a2 a4 a5 a6 a7 (a8 + 1))
  · refine x_iconst (pc := 803) dL_law_803 ?_
    exact x_ret (pc := 804) dL_law_804 (by decide)
def m_L_law_758 (n : Nat) (k666 : Mem → Mem → Nat → Int → Int → Int → Int → Int → Int → Rs) (M E : Mem) (u : Nat) (a2 : Int) (a4 : Int) (a5 : Int) (a6 : Int) (a7 : Int) (a8 : Int) (s0 : Int) (s1 : Int) : Rs := if I32 s1 then (if I32 s0 then (if s1 = s0 then (bd (m_X5_islands n M a8) (fun r75 M74 => if I32 (bAnd r75 (bXor a5 (-1))) then (if (bAnd r75 (bXor a5 (-1))) = 0 then (bd (m_X5_way n M74 a8 a8) (fun r79 M78 => if I32 (bAnd (bShr a5 a8) 1) then (if (bAnd (bShr a5 a8) 1) = 1 then (m_L_law_800 n k666 M78 E u a2 a4 a5 a6 a7 a8 0 r79) else (m_L_law_800 n k666 M78 E u a2 a4 a5 a6 a7 a8 (-9) r79)) else none)) else (some (0, M74))) else none)) else (some (0, M))) else none) else none
theorem t_L_law_758 (Ls : Nat) (xs : Nat → Int32) (hLs : Ls < 2147483648) (hLs32 : I32 (Ls : Int)) (n : Nat) (k666 : Mem → Mem → Nat → Int → Int → Int → Int → Int → Int → Rs) (hk666 : ∀ (M E : Mem) (u : Nat) (a2 : Int) (a4 : Int) (a5 : Int) (a6 : Int) (a7 : Int) (a8 : Int), X RL code 19 8 1 (some (Ls, xs)) 666 [none, some (rv 130), some (iv a2), none, some (iv a4), some (iv a5), some (iv a6), some (iv a7), some (iv a8), none, none, none, none, none, none, none, none, none, none] [] M E 0 u (k666 M E u a2 a4 a5 a6 a7 a8)) (M E : Mem) (u : Nat) (a2 : Int) (a4 : Int) (a5 : Int) (a6 : Int) (a7 : Int) (a8 : Int) (s0 : Int) (s1 : Int) : X RL code 19 8 1 (some (Ls, xs)) 758 [none, some (rv 130), some (iv a2), none, some (iv a4), some (iv a5), some (iv a6), some (iv a7), some (iv a8), none, none, none, none, none, none, none, none, none, none] [iv s0, iv s1] M E 0 u (m_L_law_758 n k666 M E u a2 a4 a5 a6 a7 a8 s0 s1) := by
  unfold m_L_law_758
  refine x_gd (fun h71 => ?_)
  refine x_gd (fun h72 => ?_)
  refine x_icmp_ne (off := 45) (tgt := 803) (pc := 758) dL_law_758 (by decide) h71 h72 (fun h73 => ?_) (fun h73 => ?_)
  · refine x_iconst (pc := 803) dL_law_803 ?_
    exact x_ret (pc := 804) dL_law_804 (by decide)
  · refine x_aload_n (pc := 761) dL_law_761 rfl ?_
    refine x_iload (pc := 762) dL_law_762 rfl ?_
    refine x_callVi (pc := 764) v_X5_islands l_L_99 dL_law_764 (c_X5_islands n _ _) (fun _ h => nomatch h) rfl rc_X5 rfl (by decide) (by decide) (Nat.le_of_ble_eq_true rfl) (fun r75 M74 _ => ?_)
    refine x_iload (pc := 767) dL_law_767 rfl ?_
    refine x_iconst (pc := 769) dL_law_769 ?_
    refine x_ixor (pc := 770) dL_law_770 ?_
    refine x_iand (pc := 771) dL_law_771 ?_
    refine x_gd (fun h76 => ?_)
    refine x_if_ne (off := 31) (tgt := 803) (pc := 772) dL_law_772 (by decide) h76 (fun h77 => ?_) (fun h77 => ?_)
    · refine x_iconst (pc := 803) dL_law_803 ?_
      exact x_ret (pc := 804) dL_law_804 (by decide)
    · refine x_aload_n (pc := 775) dL_law_775 rfl ?_
      refine x_iload (pc := 776) dL_law_776 rfl ?_
      refine x_iload (pc := 778) dL_law_778 rfl ?_
      refine x_callVi (pc := 780) v_X5_way l_L_102 dL_law_780 (c_X5_way n _ _ _) (fun _ h => nomatch h) rfl rc_X5 rfl (by decide) (by decide) (Nat.le_of_ble_eq_true rfl) (fun r79 M78 _ => ?_)
      refine x_iload (pc := 783) dL_law_783 rfl ?_
      refine x_iload (pc := 785) dL_law_785 rfl ?_
      refine x_ishr (pc := 787) dL_law_787 ?_
      refine x_iconst (pc := 788) dL_law_788 ?_
      refine x_iand (pc := 789) dL_law_789 ?_
      refine x_iconst (pc := 790) dL_law_790 ?_
      refine x_gd (fun h80 => ?_)
      refine x_icmp_ne (off := 7) (tgt := 798) (pc := 791) dL_law_791 (by decide) h80 (by decide) (fun h81 => ?_) (fun h81 => ?_)
      · refine x_bipush (pc := 798) dL_law_798 (by decide) ?_
        exact x_sub (ls_n (ls_s (ls_s (ls_n (ls_s (ls_s (ls_s (ls_s (ls_s (ls_n (ls_n (ls_n (ls_n (ls_n (ls_n (ls_n (ls_n (ls_n (ls_n ls_0))))))))))))))))))) (t_L_law_800 Ls xs hLs hLs32 n k666 hk666 M78 E u a2 a4 a5 a6 a7 a8 (-9) r79)
      · refine x_iconst (pc := 794) dL_law_794 ?_
        refine x_goto (tgt := 800) (pc := 795) dL_law_795 (by decide) ?_
        exact x_sub (ls_n (ls_s (ls_s (ls_n (ls_s (ls_s (ls_s (ls_s (ls_s (ls_n (ls_n (ls_n (ls_n (ls_n (ls_n (ls_n (ls_n (ls_n (ls_n ls_0))))))))))))))))))) (t_L_law_800 Ls xs hLs hLs32 n k666 hk666 M78 E u a2 a4 a5 a6 a7 a8 0 r79)
def m_L_law_743 (n : Nat) (k666 : Mem → Mem → Nat → Int → Int → Int → Int → Int → Int → Rs) (M E : Mem) (u : Nat) (a2 : Int) (a4 : Int) (a5 : Int) (a6 : Int) (a7 : Int) (a8 : Int) (s0 : Int) : Rs := if I32 (bAnd (bShr a5 a8) 1) then (if (bAnd (bShr a5 a8) 1) = 0 then (m_L_law_758 n k666 M E u a2 a4 a5 a6 a7 a8 1 s0) else (m_L_law_758 n k666 M E u a2 a4 a5 a6 a7 a8 0 s0)) else none
theorem t_L_law_743 (Ls : Nat) (xs : Nat → Int32) (hLs : Ls < 2147483648) (hLs32 : I32 (Ls : Int)) (n : Nat) (k666 : Mem → Mem → Nat → Int → Int → Int → Int → Int → Int → Rs) (hk666 : ∀ (M E : Mem) (u : Nat) (a2 : Int) (a4 : Int) (a5 : Int) (a6 : Int) (a7 : Int) (a8 : Int), X RL code 19 8 1 (some (Ls, xs)) 666 [none, some (rv 130), some (iv a2), none, some (iv a4), some (iv a5), some (iv a6), some (iv a7), some (iv a8), none, none, none, none, none, none, none, none, none, none] [] M E 0 u (k666 M E u a2 a4 a5 a6 a7 a8)) (M E : Mem) (u : Nat) (a2 : Int) (a4 : Int) (a5 : Int) (a6 : Int) (a7 : Int) (a8 : Int) (s0 : Int) : X RL code 19 8 1 (some (Ls, xs)) 743 [none, some (rv 130), some (iv a2), none, some (iv a4), some (iv a5), some (iv a6), some (iv a7), some (iv a8), none, none, none, none, none, none, none, none, none, none] [iv s0] M E 0 u (m_L_law_743 n k666 M E u a2 a4 a5 a6 a7 a8 s0) := by
  unfold m_L_law_743
  refine x_iload (pc := 743) dL_law_743 rfl ?_
  refine x_iload (pc := 745) dL_law_745 rfl ?_
  refine x_ishr (pc := 747) dL_law_747 ?_
  refine x_iconst (pc := 748) dL_law_748 ?_
  refine x_iand (pc := 749) dL_law_749 ?_
  refine x_gd (fun h82 => ?_)
  refine x_if_ne (off := 7) (tgt := 757) (pc := 750) dL_law_750 (by decide) h82 (fun h83 => ?_) (fun h83 => ?_)
  · refine x_iconst (pc := 757) dL_law_757 ?_
    exact x_sub (ls_n (ls_s (ls_s (ls_n (ls_s (ls_s (ls_s (ls_s (ls_s (ls_n (ls_n (ls_n (ls_n (ls_n (ls_n (ls_n (ls_n (ls_n (ls_n ls_0))))))))))))))))))) (t_L_law_758 Ls xs hLs hLs32 n k666 hk666 M E u a2 a4 a5 a6 a7 a8 0 s0)
  · refine x_iconst (pc := 753) dL_law_753 ?_
    refine x_goto (tgt := 758) (pc := 754) dL_law_754 (by decide) ?_
    exact x_sub (ls_n (ls_s (ls_s (ls_n (ls_s (ls_s (ls_s (ls_s (ls_s (ls_n (ls_n (ls_n (ls_n (ls_n (ls_n (ls_n (ls_n (ls_n (ls_n ls_0))))))))))))))))))) (t_L_law_758 Ls xs hLs hLs32 n k666 hk666 M E u a2 a4 a5 a6 a7 a8 1 s0)
def m_L_law_709 (n : Nat) (k666 : Mem → Mem → Nat → Int → Int → Int → Int → Int → Int → Rs) (M E : Mem) (u : Nat) (a2 : Int) (a4 : Int) (a5 : Int) (a6 : Int) (a7 : Int) (a8 : Int) (s0 : Int) (s1 : Int) : Rs := if I32 s1 then (if I32 s0 then (if s1 = s0 then (bd (m_X5_cell n M a8 0) (fun r88 M87 => bd (m_X5_cell n M87 a8 1) (fun r90 M89 => if I32 r88 then (if I32 r90 then (if r90 < r88 then (some (0, M89)) else (bd (m_X5_clears n M89 a8) (fun r95 M94 => if I32 r95 then (if r95 = 0 then (m_L_law_743 n k666 M94 E u a2 a4 a5 a6 a7 a8 1) else (m_L_law_743 n k666 M94 E u a2 a4 a5 a6 a7 a8 0)) else none))) else none) else none))) else (some (0, M))) else none) else none
theorem t_L_law_709 (Ls : Nat) (xs : Nat → Int32) (hLs : Ls < 2147483648) (hLs32 : I32 (Ls : Int)) (n : Nat) (k666 : Mem → Mem → Nat → Int → Int → Int → Int → Int → Int → Rs) (hk666 : ∀ (M E : Mem) (u : Nat) (a2 : Int) (a4 : Int) (a5 : Int) (a6 : Int) (a7 : Int) (a8 : Int), X RL code 19 8 1 (some (Ls, xs)) 666 [none, some (rv 130), some (iv a2), none, some (iv a4), some (iv a5), some (iv a6), some (iv a7), some (iv a8), none, none, none, none, none, none, none, none, none, none] [] M E 0 u (k666 M E u a2 a4 a5 a6 a7 a8)) (M E : Mem) (u : Nat) (a2 : Int) (a4 : Int) (a5 : Int) (a6 : Int) (a7 : Int) (a8 : Int) (s0 : Int) (s1 : Int) : X RL code 19 8 1 (some (Ls, xs)) 709 [none, some (rv 130), some (iv a2), none, some (iv a4), some (iv a5), some (iv a6), some (iv a7), some (iv a8), none, none, none, none, none, none, none, none, none, none] [iv s0, iv s1] M E 0 u (m_L_law_709 n k666 M E u a2 a4 a5 a6 a7 a8 s0 s1) := by
  unfold m_L_law_709
  refine x_gd (fun h84 => ?_)
  refine x_gd (fun h85 => ?_)
  refine x_icmp_ne (off := 94) (tgt := 803) (pc := 709) dL_law_709 (by decide) h84 h85 (fun h86 => ?_) (fun h86 => ?_)
  · refine x_iconst (pc := 803) dL_law_803 ?_
    exact x_ret (pc := 804) dL_law_804 (by decide)
  · refine x_aload_n (pc := 712) dL_law_712 rfl ?_
    refine x_iload (pc := 713) dL_law_713 rfl ?_
    refine x_iconst (pc := 715) dL_law_715 ?_
    refine x_callVi (pc := 716) v_X5_cell l_L_94 dL_law_716 (c_X5_cell n _ _ _) (fun _ h => nomatch h) rfl rc_X5 rfl (by decide) (by decide) (Nat.le_of_ble_eq_true rfl) (fun r88 M87 _ => ?_)
    refine x_aload_n (pc := 719) dL_law_719 rfl ?_
    refine x_iload (pc := 720) dL_law_720 rfl ?_
    refine x_iconst (pc := 722) dL_law_722 ?_
    refine x_callVi (pc := 723) v_X5_cell l_L_94 dL_law_723 (c_X5_cell n _ _ _) (fun _ h => nomatch h) rfl rc_X5 rfl (by decide) (by decide) (Nat.le_of_ble_eq_true rfl) (fun r90 M89 _ => ?_)
    refine x_gd (fun h91 => ?_)
    refine x_gd (fun h92 => ?_)
    refine x_icmp_gt (off := 77) (tgt := 803) (pc := 726) dL_law_726 (by decide) h91 h92 (fun h93 => ?_) (fun h93 => ?_)
    · refine x_iconst (pc := 803) dL_law_803 ?_
      exact x_ret (pc := 804) dL_law_804 (by decide)
    · refine x_aload_n (pc := 729) dL_law_729 rfl ?_
      refine x_iload (pc := 730) dL_law_730 rfl ?_
      refine x_callVi (pc := 732) v_X5_clears l_L_96 dL_law_732 (c_X5_clears n _ _) (fun _ h => nomatch h) rfl rc_X5 rfl (by decide) (by decide) (Nat.le_of_ble_eq_true rfl) (fun r95 M94 _ => ?_)
      refine x_gd (fun h96 => ?_)
      refine x_if_ne (off := 7) (tgt := 742) (pc := 735) dL_law_735 (by decide) h96 (fun h97 => ?_) (fun h97 => ?_)
      · refine x_iconst (pc := 742) dL_law_742 ?_
        exact x_sub (ls_n (ls_s (ls_s (ls_n (ls_s (ls_s (ls_s (ls_s (ls_s (ls_n (ls_n (ls_n (ls_n (ls_n (ls_n (ls_n (ls_n (ls_n (ls_n ls_0))))))))))))))))))) (t_L_law_743 Ls xs hLs hLs32 n k666 hk666 M94 E u a2 a4 a5 a6 a7 a8 0)
      · refine x_iconst (pc := 738) dL_law_738 ?_
        refine x_goto (tgt := 743) (pc := 739) dL_law_739 (by decide) ?_
        exact x_sub (ls_n (ls_s (ls_s (ls_n (ls_s (ls_s (ls_s (ls_s (ls_s (ls_n (ls_n (ls_n (ls_n (ls_n (ls_n (ls_n (ls_n (ls_n (ls_n ls_0))))))))))))))))))) (t_L_law_743 Ls xs hLs hLs32 n k666 hk666 M94 E u a2 a4 a5 a6 a7 a8 1)
def m_L_law_693 (n : Nat) (k666 : Mem → Mem → Nat → Int → Int → Int → Int → Int → Int → Rs) (M E : Mem) (u : Nat) (a2 : Int) (a4 : Int) (a5 : Int) (a6 : Int) (a7 : Int) (a8 : Int) (s0 : Int) : Rs := if I32 (bAnd (bShr a5 a8) 1) then (if (bAnd (bShr a5 a8) 1) = 1 then (m_L_law_709 n k666 M E u a2 a4 a5 a6 a7 a8 1 s0) else (m_L_law_709 n k666 M E u a2 a4 a5 a6 a7 a8 0 s0)) else none
theorem t_L_law_693 (Ls : Nat) (xs : Nat → Int32) (hLs : Ls < 2147483648) (hLs32 : I32 (Ls : Int)) (n : Nat) (k666 : Mem → Mem → Nat → Int → Int → Int → Int → Int → Int → Rs) (hk666 : ∀ (M E : Mem) (u : Nat) (a2 : Int) (a4 : Int) (a5 : Int) (a6 : Int) (a7 : Int) (a8 : Int), X RL code 19 8 1 (some (Ls, xs)) 666 [none, some (rv 130), some (iv a2), none, some (iv a4), some (iv a5), some (iv a6), some (iv a7), some (iv a8), none, none, none, none, none, none, none, none, none, none] [] M E 0 u (k666 M E u a2 a4 a5 a6 a7 a8)) (M E : Mem) (u : Nat) (a2 : Int) (a4 : Int) (a5 : Int) (a6 : Int) (a7 : Int) (a8 : Int) (s0 : Int) : X RL code 19 8 1 (some (Ls, xs)) 693 [none, some (rv 130), some (iv a2), none, some (iv a4), some (iv a5), some (iv a6), some (iv a7), some (iv a8), none, none, none, none, none, none, none, none, none, none] [iv s0] M E 0 u (m_L_law_693 n k666 M E u a2 a4 a5 a6 a7 a8 s0) := by
  unfold m_L_law_693
  refine x_iload (pc := 693) dL_law_693 rfl ?_
  refine x_iload (pc := 695) dL_law_695 rfl ?_
  refine x_ishr (pc := 697) dL_law_697 ?_
  refine x_iconst (pc := 698) dL_law_698 ?_
  refine x_iand (pc := 699) dL_law_699 ?_
  refine x_iconst (pc := 700) dL_law_700 ?_
  refine x_gd (fun h98 => ?_)
  refine x_icmp_ne (off := 7) (tgt := 708) (pc := 701) dL_law_701 (by decide) h98 (by decide) (fun h99 => ?_) (fun h99 => ?_)
  · refine x_iconst (pc := 708) dL_law_708 ?_
    exact x_sub (ls_n (ls_s (ls_s (ls_n (ls_s (ls_s (ls_s (ls_s (ls_s (ls_n (ls_n (ls_n (ls_n (ls_n (ls_n (ls_n (ls_n (ls_n (ls_n ls_0))))))))))))))))))) (t_L_law_709 Ls xs hLs hLs32 n k666 hk666 M E u a2 a4 a5 a6 a7 a8 0 s0)
  · refine x_iconst (pc := 704) dL_law_704 ?_
    refine x_goto (tgt := 709) (pc := 705) dL_law_705 (by decide) ?_
    exact x_sub (ls_n (ls_s (ls_s (ls_n (ls_s (ls_s (ls_s (ls_s (ls_s (ls_n (ls_n (ls_n (ls_n (ls_n (ls_n (ls_n (ls_n (ls_n (ls_n ls_0))))))))))))))))))) (t_L_law_709 Ls xs hLs hLs32 n k666 hk666 M E u a2 a4 a5 a6 a7 a8 1 s0)
def m_L_law_666 (n : Nat) : Nat → Mem → Mem → Nat → Int → Int → Int → Int → Int → Int → Rs
  | 0, _, _, _, _, _, _, _, _, _ => none
  | t + 1, M, E, u, a2, a4, a5, a6, a7, a8 => if I32 a8 then (if 24 ≤ a8 then (if I32 a7 then (if a7 = 0 then (bd (m_X5_islands n M (-1)) (fun r105 M104 => if I32 a6 then (if I32 r105 then (if a6 = r105 then (m_L_law_901 n n M104 E u a2 a4 0) else (some (0, M104))) else none) else none)) else (some (0, M))) else none) else (bd (m_X5_cell n M a8 1) (fun r110 M109 => bd (m_X5_count n M109 4) (fun r112 M111 => if I32 r110 then (if I32 r112 then (if r110 < r112 then (m_L_law_693 n (m_L_law_666 n t) M111 E u a2 a4 a5 a6 a7 a8 0) else (m_L_law_693 n (m_L_law_666 n t) M111 E u a2 a4 a5 a6 a7 a8 1)) else none) else none)))) else none
theorem t_L_law_666 (Ls : Nat) (xs : Nat → Int32) (hLs : Ls < 2147483648) (hLs32 : I32 (Ls : Int)) (n : Nat) : ∀ (t : Nat) (M E : Mem) (u : Nat) (a2 : Int) (a4 : Int) (a5 : Int) (a6 : Int) (a7 : Int) (a8 : Int), X RL code 19 8 1 (some (Ls, xs)) 666 [none, some (rv 130), some (iv a2), none, some (iv a4), some (iv a5), some (iv a6), some (iv a7), some (iv a8), none, none, none, none, none, none, none, none, none, none] [] M E 0 u (m_L_law_666 n t M E u a2 a4 a5 a6 a7 a8) := by
  intro t
  induction t with
  | zero => intro M E u a2 a4 a5 a6 a7 a8; exact x_none
  | succ t ih =>
    intro M E u a2 a4 a5 a6 a7 a8
    rewrite [m_L_law_666]
    refine x_iload (pc := 666) dL_law_666 rfl ?_
    refine x_bipush (pc := 668) dL_law_668 (by decide) ?_
    refine x_gd (fun h100 => ?_)
    refine x_icmp_ge (off := 211) (tgt := 881) (pc := 670) dL_law_670 (by decide) h100 (by decide) (fun h101 => ?_) (fun h101 => ?_)
    · refine x_iload (pc := 881) dL_law_881 rfl ?_
      refine x_gd (fun h102 => ?_)
      refine x_if_ne (off := 13) (tgt := 896) (pc := 883) dL_law_883 (by decide) h102 (fun h103 => ?_) (fun h103 => ?_)
      · refine x_iconst (pc := 896) dL_law_896 ?_
        exact x_ret (pc := 897) dL_law_897 (by decide)
      · refine x_iload (pc := 886) dL_law_886 rfl ?_
        refine x_aload_n (pc := 888) dL_law_888 rfl ?_
        refine x_iconst (pc := 889) dL_law_889 ?_
        refine x_callVi (pc := 890) v_X5_islands l_L_99 dL_law_890 (c_X5_islands n _ _) (fun _ h => nomatch h) rfl rc_X5 rfl (by decide) (by decide) (Nat.le_of_ble_eq_true rfl) (fun r105 M104 _ => ?_)
        refine x_gd (fun h106 => ?_)
        refine x_gd (fun h107 => ?_)
        refine x_icmp_eq (off := 5) (tgt := 898) (pc := 893) dL_law_893 (by decide) h106 h107 (fun h108 => ?_) (fun h108 => ?_)
        · refine x_iconst (pc := 898) dL_law_898 ?_
          refine x_istore (L' := [none, some (rv 130), some (iv a2), none, some (iv a4), some (iv a5), some (iv a6), some (iv a7), some (iv 0), none, none, none, none, none, none, none, none, none, none]) (pc := 899) dL_law_899 (by decide) rfl rfl ?_
          exact x_sub (ls_n (ls_s (ls_s (ls_n (ls_s (ls_n (ls_n (ls_n (ls_s (ls_n (ls_n (ls_n (ls_n (ls_n (ls_n (ls_n (ls_n (ls_n (ls_n ls_0))))))))))))))))))) (t_L_law_901 Ls xs hLs hLs32 n n M104 E u a2 a4 0)
        · refine x_iconst (pc := 896) dL_law_896 ?_
          exact x_ret (pc := 897) dL_law_897 (by decide)
    · refine x_aload_n (pc := 673) dL_law_673 rfl ?_
      refine x_iload (pc := 674) dL_law_674 rfl ?_
      refine x_iconst (pc := 676) dL_law_676 ?_
      refine x_callVi (pc := 677) v_X5_cell l_L_94 dL_law_677 (c_X5_cell n _ _ _) (fun _ h => nomatch h) rfl rc_X5 rfl (by decide) (by decide) (Nat.le_of_ble_eq_true rfl) (fun r110 M109 _ => ?_)
      refine x_aload_n (pc := 680) dL_law_680 rfl ?_
      refine x_iconst (pc := 681) dL_law_681 ?_
      refine x_callVi (pc := 682) v_X5_count l_L_47 dL_law_682 (c_X5_count n _ _) (fun _ h => nomatch h) rfl rc_X5 rfl (by decide) (by decide) (Nat.le_of_ble_eq_true rfl) (fun r112 M111 _ => ?_)
      refine x_gd (fun h113 => ?_)
      refine x_gd (fun h114 => ?_)
      refine x_icmp_lt (off := 7) (tgt := 692) (pc := 685) dL_law_685 (by decide) h113 h114 (fun h115 => ?_) (fun h115 => ?_)
      · refine x_iconst (pc := 692) dL_law_692 ?_
        exact x_sub (ls_n (ls_s (ls_s (ls_n (ls_s (ls_s (ls_s (ls_s (ls_s (ls_n (ls_n (ls_n (ls_n (ls_n (ls_n (ls_n (ls_n (ls_n (ls_n ls_0))))))))))))))))))) (t_L_law_693 Ls xs hLs hLs32 n (m_L_law_666 n t) ih M111 E u a2 a4 a5 a6 a7 a8 0)
      · refine x_iconst (pc := 688) dL_law_688 ?_
        refine x_goto (tgt := 693) (pc := 689) dL_law_689 (by decide) ?_
        exact x_sub (ls_n (ls_s (ls_s (ls_n (ls_s (ls_s (ls_s (ls_s (ls_s (ls_n (ls_n (ls_n (ls_n (ls_n (ls_n (ls_n (ls_n (ls_n (ls_n ls_0))))))))))))))))))) (t_L_law_693 Ls xs hLs hLs32 n (m_L_law_666 n t) ih M111 E u a2 a4 a5 a6 a7 a8 1)
def m_L_law_591 (n : Nat) (k562 : Mem → Mem → Nat → Int → Int → Int → Int → Int → Int → Int → Rs) (M E : Mem) (u : Nat) (a2 : Int) (a3 : Int) (a4 : Int) (a5 : Int) (a14 : Int) (a18 : Int) (s0 : Int) (s1 : Int) : Rs := k562 M E u a2 a3 a4 a5 a14 (s1 + s0) (a18 + 1)
theorem t_L_law_591 (Ls : Nat) (xs : Nat → Int32) (hLs : Ls < 2147483648) (hLs32 : I32 (Ls : Int)) (n : Nat) (k562 : Mem → Mem → Nat → Int → Int → Int → Int → Int → Int → Int → Rs) (hk562 : ∀ (M E : Mem) (u : Nat) (a2 : Int) (a3 : Int) (a4 : Int) (a5 : Int) (a14 : Int) (a17 : Int) (a18 : Int), X RL code 19 8 1 (some (Ls, xs)) 562 [none, some (rv 130), some (iv a2), some (iv a3), some (iv a4), some (iv a5), none, some (rv 3000000001), some (rv 3000000002), some (rv 3000000003), none, none, none, some (rv 3000000004), some (iv a14), none, none, some (iv a17), some (iv a18)] [] M E 5 u (k562 M E u a2 a3 a4 a5 a14 a17 a18)) (M E : Mem) (u : Nat) (a2 : Int) (a3 : Int) (a4 : Int) (a5 : Int) (a14 : Int) (a18 : Int) (s0 : Int) (s1 : Int) : X RL code 19 8 1 (some (Ls, xs)) 591 [none, some (rv 130), some (iv a2), some (iv a3), some (iv a4), some (iv a5), none, some (rv 3000000001), some (rv 3000000002), some (rv 3000000003), none, none, none, some (rv 3000000004), some (iv a14), none, none, none, some (iv a18)] [iv s0, iv s1] M E 5 u (m_L_law_591 n k562 M E u a2 a3 a4 a5 a14 a18 s0 s1) := by
  unfold m_L_law_591
  refine x_iadd (pc := 591) dL_law_591 ?_
  refine x_istore (L' := [none, some (rv 130), some (iv a2), some (iv a3), some (iv a4), some (iv a5), none, some (rv 3000000001), some (rv 3000000002), some (rv 3000000003), none, none, none, some (rv 3000000004), some (iv a14), none, none, some (iv (s1 + s0)), some (iv a18)]) (pc := 592) dL_law_592 (by decide) rfl rfl ?_
  refine x_iinc (L' := [none, some (rv 130), some (iv a2), some (iv a3), some (iv a4), some (iv a5), none, some (rv 3000000001), some (rv 3000000002), some (rv 3000000003), none, none, none, some (rv 3000000004), some (iv a14), none, none, some (iv (s1 + s0)), some (iv (a18 + 1))]) (pc := 594) dL_law_594 rfl (by decide) rfl rfl ?_
  refine x_goto (tgt := 562) (pc := 597) dL_law_597 (by decide) ?_
  exact x_sub (ls_n (ls_s (ls_s (ls_s (ls_s (ls_s (ls_n (ls_s (ls_s (ls_s (ls_n (ls_n (ls_n (ls_s (ls_s (ls_n (ls_n (ls_s (ls_s ls_0))))))))))))))))))) (hk562 M E u a2 a3 a4 a5 a14 (s1 + s0) (a18 + 1))
def m_L_law_562 (n : Nat) (k347 : Mem → Mem → Nat → Int → Int → Int → Int → Int → Rs) : Nat → Mem → Mem → Nat → Int → Int → Int → Int → Int → Int → Int → Rs
  | 0, _, _, _, _, _, _, _, _, _, _ => none
  | t + 1, M, E, u, a2, a3, a4, a5, a14, a17, a18 => if I32 a18 then (if I32 a3 then (if a3 ≤ a18 then (bd (m_X5_person n M a14 8) (fun r120 M119 => if I32 r120 then (if I32 a17 then (if r120 = a17 then (bd (m_X5_person n M119 a14 3) (fun r125 M124 => bd (m_X5_cell n M124 r125 3) (fun r127 M126 => if I32 (bAnd (bShr r127 a14) 1) then (if (bAnd (bShr r127 a14) 1) = 1 then (k347 M126 E u a2 a3 a4 a5 (a14 + 1)) else (some (0, M126))) else none))) else (some (0, M119))) else none) else none)) else (bd (m_X5_thing n M a18 2) (fun r131 M130 => if I32 r131 then (if I32 a14 then (if r131 = a14 then (if 0 ≤ a18 ∧ a18 < 8 then (m_L_law_591 n (m_L_law_562 n k347 t) M130 E u a2 a3 a4 a5 a14 a18 (rd E 1 (Int.toNat a18)) a17) else none) else (m_L_law_591 n (m_L_law_562 n k347 t) M130 E u a2 a3 a4 a5 a14 a18 0 a17)) else none) else none))) else none) else none
theorem t_L_law_562 (Ls : Nat) (xs : Nat → Int32) (hLs : Ls < 2147483648) (hLs32 : I32 (Ls : Int)) (n : Nat) (k347 : Mem → Mem → Nat → Int → Int → Int → Int → Int → Rs) (hk347 : ∀ (M E : Mem) (u : Nat) (a2 : Int) (a3 : Int) (a4 : Int) (a5 : Int) (a14 : Int), X RL code 19 8 1 (some (Ls, xs)) 347 [none, some (rv 130), some (iv a2), some (iv a3), some (iv a4), some (iv a5), none, some (rv 3000000001), some (rv 3000000002), some (rv 3000000003), none, none, none, some (rv 3000000004), some (iv a14), none, none, none, none] [] M E 5 u (k347 M E u a2 a3 a4 a5 a14)) : ∀ (t : Nat) (M E : Mem) (u : Nat) (a2 : Int) (a3 : Int) (a4 : Int) (a5 : Int) (a14 : Int) (a17 : Int) (a18 : Int), X RL code 19 8 1 (some (Ls, xs)) 562 [none, some (rv 130), some (iv a2), some (iv a3), some (iv a4), some (iv a5), none, some (rv 3000000001), some (rv 3000000002), some (rv 3000000003), none, none, none, some (rv 3000000004), some (iv a14), none, none, some (iv a17), some (iv a18)] [] M E 5 u (m_L_law_562 n k347 t M E u a2 a3 a4 a5 a14 a17 a18) := by
  intro t
  induction t with
  | zero => intro M E u a2 a3 a4 a5 a14 a17 a18; exact x_none
  | succ t ih =>
    intro M E u a2 a3 a4 a5 a14 a17 a18
    rewrite [m_L_law_562]
    refine x_iload (pc := 562) dL_law_562 rfl ?_
    refine x_iload_n (pc := 564) dL_law_564 rfl ?_
    refine x_gd (fun h116 => ?_)
    refine x_gd (fun h117 => ?_)
    refine x_icmp_ge (off := 35) (tgt := 600) (pc := 565) dL_law_565 (by decide) h116 h117 (fun h118 => ?_) (fun h118 => ?_)
    · refine x_aload_n (pc := 600) dL_law_600 rfl ?_
      refine x_iload (pc := 601) dL_law_601 rfl ?_
      refine x_bipush (pc := 603) dL_law_603 (by decide) ?_
      refine x_callVi (pc := 605) v_X5_person l_L_72 dL_law_605 (c_X5_person n _ _ _) (fun _ h => nomatch h) rfl rc_X5 rfl (by decide) (by decide) (Nat.le_of_ble_eq_true rfl) (fun r120 M119 _ => ?_)
      refine x_iload (pc := 608) dL_law_608 rfl ?_
      refine x_gd (fun h121 => ?_)
      refine x_gd (fun h122 => ?_)
      refine x_icmp_ne (off := 24) (tgt := 634) (pc := 610) dL_law_610 (by decide) h121 h122 (fun h123 => ?_) (fun h123 => ?_)
      · refine x_iconst (pc := 634) dL_law_634 ?_
        exact x_ret (pc := 635) dL_law_635 (by decide)
      · refine x_aload_n (pc := 613) dL_law_613 rfl ?_
        refine x_aload_n (pc := 614) dL_law_614 rfl ?_
        refine x_iload (pc := 615) dL_law_615 rfl ?_
        refine x_iconst (pc := 617) dL_law_617 ?_
        refine x_callVi (pc := 618) v_X5_person l_L_72 dL_law_618 (c_X5_person n _ _ _) (fun _ h => nomatch h) rfl rc_X5 rfl (by decide) (by decide) (Nat.le_of_ble_eq_true rfl) (fun r125 M124 _ => ?_)
        refine x_iconst (pc := 621) dL_law_621 ?_
        refine x_callVi (pc := 622) v_X5_cell l_L_94 dL_law_622 (c_X5_cell n _ _ _) (fun _ h => nomatch h) rfl rc_X5 rfl (by decide) (by decide) (Nat.le_of_ble_eq_true rfl) (fun r127 M126 _ => ?_)
        refine x_iload (pc := 625) dL_law_625 rfl ?_
        refine x_ishr (pc := 627) dL_law_627 ?_
        refine x_iconst (pc := 628) dL_law_628 ?_
        refine x_iand (pc := 629) dL_law_629 ?_
        refine x_iconst (pc := 630) dL_law_630 ?_
        refine x_gd (fun h128 => ?_)
        refine x_icmp_eq (off := 5) (tgt := 636) (pc := 631) dL_law_631 (by decide) h128 (by decide) (fun h129 => ?_) (fun h129 => ?_)
        · refine x_iinc (L' := [none, some (rv 130), some (iv a2), some (iv a3), some (iv a4), some (iv a5), none, some (rv 3000000001), some (rv 3000000002), some (rv 3000000003), none, none, none, some (rv 3000000004), some (iv (a14 + 1)), none, none, some (iv a17), some (iv a18)]) (pc := 636) dL_law_636 rfl (by decide) rfl rfl ?_
          refine x_goto (tgt := 347) (pc := 639) dL_law_639 (by decide) ?_
          exact x_sub (ls_n (ls_s (ls_s (ls_s (ls_s (ls_s (ls_n (ls_s (ls_s (ls_s (ls_n (ls_n (ls_n (ls_s (ls_s (ls_n (ls_n (ls_n (ls_n ls_0))))))))))))))))))) (hk347 M126 E u a2 a3 a4 a5 (a14 + 1))
        · refine x_iconst (pc := 634) dL_law_634 ?_
          exact x_ret (pc := 635) dL_law_635 (by decide)
    · refine x_iload (pc := 568) dL_law_568 rfl ?_
      refine x_aload_n (pc := 570) dL_law_570 rfl ?_
      refine x_iload (pc := 571) dL_law_571 rfl ?_
      refine x_iconst (pc := 573) dL_law_573 ?_
      refine x_callVi (pc := 574) v_X5_thing l_L_69 dL_law_574 (c_X5_thing n _ _ _) (fun _ h => nomatch h) rfl rc_X5 rfl (by decide) (by decide) (Nat.le_of_ble_eq_true rfl) (fun r131 M130 _ => ?_)
      refine x_iload (pc := 577) dL_law_577 rfl ?_
      refine x_gd (fun h132 => ?_)
      refine x_gd (fun h133 => ?_)
      refine x_icmp_ne (off := 11) (tgt := 590) (pc := 579) dL_law_579 (by decide) h132 h133 (fun h134 => ?_) (fun h134 => ?_)
      · refine x_iconst (pc := 590) dL_law_590 ?_
        exact x_sub (ls_n (ls_s (ls_s (ls_s (ls_s (ls_s (ls_n (ls_s (ls_s (ls_s (ls_n (ls_n (ls_n (ls_s (ls_s (ls_n (ls_n (ls_n (ls_s ls_0))))))))))))))))))) (t_L_law_591 Ls xs hLs hLs32 n (m_L_law_562 n k347 t) ih M130 E u a2 a3 a4 a5 a14 a18 0 a17)
      · refine x_aload (pc := 582) dL_law_582 rfl ?_
        refine x_iload (pc := 584) dL_law_584 rfl ?_
        refine x_gd (fun h135 => ?_)
        refine x_iald (j := 1) (N := 8) (pc := 586) dL_law_586 (by decide) (by decide) rfl rfl h135 ?_
        refine x_goto (tgt := 591) (pc := 587) dL_law_587 (by decide) ?_
        exact x_sub (ls_n (ls_s (ls_s (ls_s (ls_s (ls_s (ls_n (ls_s (ls_s (ls_s (ls_n (ls_n (ls_n (ls_s (ls_s (ls_n (ls_n (ls_n (ls_s ls_0))))))))))))))))))) (t_L_law_591 Ls xs hLs hLs32 n (m_L_law_562 n k347 t) ih M130 E u a2 a3 a4 a5 a14 a18 (rd E 1 (Int.toNat a18)) a17)
def m_L_law_556 (n : Nat) (k347 : Mem → Mem → Nat → Int → Int → Int → Int → Int → Rs) (M E : Mem) (u : Nat) (a2 : Int) (a3 : Int) (a4 : Int) (a5 : Int) (a14 : Int) : Rs := m_L_law_562 n k347 n M E u a2 a3 a4 a5 a14 0 0
theorem t_L_law_556 (Ls : Nat) (xs : Nat → Int32) (hLs : Ls < 2147483648) (hLs32 : I32 (Ls : Int)) (n : Nat) (k347 : Mem → Mem → Nat → Int → Int → Int → Int → Int → Rs) (hk347 : ∀ (M E : Mem) (u : Nat) (a2 : Int) (a3 : Int) (a4 : Int) (a5 : Int) (a14 : Int), X RL code 19 8 1 (some (Ls, xs)) 347 [none, some (rv 130), some (iv a2), some (iv a3), some (iv a4), some (iv a5), none, some (rv 3000000001), some (rv 3000000002), some (rv 3000000003), none, none, none, some (rv 3000000004), some (iv a14), none, none, none, none] [] M E 5 u (k347 M E u a2 a3 a4 a5 a14)) (M E : Mem) (u : Nat) (a2 : Int) (a3 : Int) (a4 : Int) (a5 : Int) (a14 : Int) : X RL code 19 8 1 (some (Ls, xs)) 556 [none, some (rv 130), some (iv a2), some (iv a3), some (iv a4), some (iv a5), none, some (rv 3000000001), some (rv 3000000002), some (rv 3000000003), none, none, none, some (rv 3000000004), some (iv a14), none, none, none, none] [] M E 5 u (m_L_law_556 n k347 M E u a2 a3 a4 a5 a14) := by
  unfold m_L_law_556
  refine x_iconst (pc := 556) dL_law_556 ?_
  refine x_istore (L' := [none, some (rv 130), some (iv a2), some (iv a3), some (iv a4), some (iv a5), none, some (rv 3000000001), some (rv 3000000002), some (rv 3000000003), none, none, none, some (rv 3000000004), some (iv a14), none, none, some (iv 0), none]) (pc := 557) dL_law_557 (by decide) rfl rfl ?_
  refine x_iconst (pc := 559) dL_law_559 ?_
  refine x_istore (L' := [none, some (rv 130), some (iv a2), some (iv a3), some (iv a4), some (iv a5), none, some (rv 3000000001), some (rv 3000000002), some (rv 3000000003), none, none, none, some (rv 3000000004), some (iv a14), none, none, some (iv 0), some (iv 0)]) (pc := 560) dL_law_560 (by decide) rfl rfl ?_
  exact x_sub (ls_n (ls_s (ls_s (ls_s (ls_s (ls_s (ls_n (ls_s (ls_s (ls_s (ls_n (ls_n (ls_n (ls_s (ls_s (ls_n (ls_n (ls_s (ls_s ls_0))))))))))))))))))) (t_L_law_562 Ls xs hLs hLs32 n k347 hk347 n M E u a2 a3 a4 a5 a14 0 0)
def m_L_law_470 (n : Nat) (k347 : Mem → Mem → Nat → Int → Int → Int → Int → Int → Rs) (M E : Mem) (u : Nat) (a2 : Int) (a3 : Int) (a4 : Int) (a5 : Int) (a14 : Int) (a15 : Int) (a16 : Int) : Rs := if I32 a14 then (if a14 = 0 then (if I32 a16 then (if a16 = 7 then (m_L_law_556 n k347 M E u a2 a3 a4 a5 a14) else (if 0 ≤ a14 ∧ a14 < 5 then (if I32 ((Int.tdiv (rd E 3 (Int.toNat a14)) 6) - (Int.tdiv (rd E 2 (Int.toNat a14)) 6)) then (if I32 ((Int.tmod (rd E 3 (Int.toNat a14)) 6) - (Int.tmod (rd E 2 (Int.toNat a14)) 6)) then (lt ((abZ ((Int.tdiv (rd E 3 (Int.toNat a14)) 6) - (Int.tdiv (rd E 2 (Int.toNat a14)) 6))) + (abZ ((Int.tmod (rd E 3 (Int.toNat a14)) 6) - (Int.tmod (rd E 2 (Int.toNat a14)) 6)))) (fun x143 => if a16 = 1 then (m_L_law_556 n k347 M E u a2 a3 a4 a5 a14) else (if a16 = 2 then (m_L_law_556 n k347 M E u a2 a3 a4 a5 a14) else (bd (m_X5_person n M a14 4) (fun r147 M146 => if I32 x143 then (if I32 r147 then (if I32 a15 then (if a15 = (mnZ r147 x143) then (m_L_law_556 n k347 M146 E u a2 a3 a4 a5 a14) else (some (0, M146))) else none) else none) else none))))) else none) else none) else none)) else none) else (m_L_law_556 n k347 M E u a2 a3 a4 a5 a14)) else none
theorem t_L_law_470 (Ls : Nat) (xs : Nat → Int32) (hLs : Ls < 2147483648) (hLs32 : I32 (Ls : Int)) (n : Nat) (k347 : Mem → Mem → Nat → Int → Int → Int → Int → Int → Rs) (hk347 : ∀ (M E : Mem) (u : Nat) (a2 : Int) (a3 : Int) (a4 : Int) (a5 : Int) (a14 : Int), X RL code 19 8 1 (some (Ls, xs)) 347 [none, some (rv 130), some (iv a2), some (iv a3), some (iv a4), some (iv a5), none, some (rv 3000000001), some (rv 3000000002), some (rv 3000000003), none, none, none, some (rv 3000000004), some (iv a14), none, none, none, none] [] M E 5 u (k347 M E u a2 a3 a4 a5 a14)) (M E : Mem) (u : Nat) (a2 : Int) (a3 : Int) (a4 : Int) (a5 : Int) (a14 : Int) (a15 : Int) (a16 : Int) : X RL code 19 8 1 (some (Ls, xs)) 470 [none, some (rv 130), some (iv a2), some (iv a3), some (iv a4), some (iv a5), none, some (rv 3000000001), some (rv 3000000002), some (rv 3000000003), none, none, none, some (rv 3000000004), some (iv a14), some (iv a15), some (iv a16), none, none] [] M E 5 u (m_L_law_470 n k347 M E u a2 a3 a4 a5 a14 a15 a16) := by
  unfold m_L_law_470
  refine x_iload (pc := 470) dL_law_470 rfl ?_
  refine x_gd (fun h136 => ?_)
  refine x_if_ne (off := 84) (tgt := 556) (pc := 472) dL_law_472 (by decide) h136 (fun h137 => ?_) (fun h137 => ?_)
  · exact x_sub (ls_n (ls_s (ls_s (ls_s (ls_s (ls_s (ls_n (ls_s (ls_s (ls_s (ls_n (ls_n (ls_n (ls_s (ls_s (ls_n (ls_n (ls_n (ls_n ls_0))))))))))))))))))) (t_L_law_556 Ls xs hLs hLs32 n k347 hk347 M E u a2 a3 a4 a5 a14)
  · refine x_iload (pc := 475) dL_law_475 rfl ?_
    refine x_bipush (pc := 477) dL_law_477 (by decide) ?_
    refine x_gd (fun h138 => ?_)
    refine x_icmp_eq (off := 77) (tgt := 556) (pc := 479) dL_law_479 (by decide) h138 (by decide) (fun h139 => ?_) (fun h139 => ?_)
    · exact x_sub (ls_n (ls_s (ls_s (ls_s (ls_s (ls_s (ls_n (ls_s (ls_s (ls_s (ls_n (ls_n (ls_n (ls_s (ls_s (ls_n (ls_n (ls_n (ls_n ls_0))))))))))))))))))) (t_L_law_556 Ls xs hLs hLs32 n k347 hk347 M E u a2 a3 a4 a5 a14)
    · refine x_aload (pc := 482) dL_law_482 rfl ?_
      refine x_iload (pc := 484) dL_law_484 rfl ?_
      refine x_gd (fun h140 => ?_)
      refine x_iald (j := 3) (N := 5) (pc := 486) dL_law_486 (by decide) (by decide) rfl rfl h140 ?_
      refine x_bipush (pc := 487) dL_law_487 (by decide) ?_
      refine x_idiv (pc := 489) dL_law_489 (rd_rng _ _ _) (by decide) (by decide) ?_
      refine x_aload (pc := 490) dL_law_490 rfl ?_
      refine x_iload (pc := 492) dL_law_492 rfl ?_
      refine x_iald (j := 2) (N := 5) (pc := 494) dL_law_494 (by decide) (by decide) rfl rfl h140 ?_
      refine x_bipush (pc := 495) dL_law_495 (by decide) ?_
      refine x_idiv (pc := 497) dL_law_497 (rd_rng _ _ _) (by decide) (by decide) ?_
      refine x_isub (pc := 498) dL_law_498 ?_
      refine x_gd (fun h141 => ?_)
      refine x_mabs (pc := 499) h141 l_L_86 dL_law_499 (Nat.le_of_ble_eq_true rfl) (by decide) ?_
      refine x_aload (pc := 502) dL_law_502 rfl ?_
      refine x_iload (pc := 504) dL_law_504 rfl ?_
      refine x_iald (j := 3) (N := 5) (pc := 506) dL_law_506 (by decide) (by decide) rfl rfl h140 ?_
      refine x_bipush (pc := 507) dL_law_507 (by decide) ?_
      refine x_irem (pc := 509) dL_law_509 (rd_rng _ _ _) (by decide) (by decide) ?_
      refine x_aload (pc := 510) dL_law_510 rfl ?_
      refine x_iload (pc := 512) dL_law_512 rfl ?_
      refine x_iald (j := 2) (N := 5) (pc := 514) dL_law_514 (by decide) (by decide) rfl rfl h140 ?_
      refine x_bipush (pc := 515) dL_law_515 (by decide) ?_
      refine x_irem (pc := 517) dL_law_517 (rd_rng _ _ _) (by decide) (by decide) ?_
      refine x_isub (pc := 518) dL_law_518 ?_
      refine x_gd (fun h142 => ?_)
      refine x_mabs (pc := 519) h142 l_L_86 dL_law_519 (Nat.le_of_ble_eq_true rfl) (by decide) ?_
      refine x_iadd (pc := 522) dL_law_522 ?_
      refine x_leti (fun x143 => ?_)
      refine x_istore (L' := [none, some (rv 130), some (iv a2), some (iv a3), some (iv a4), some (iv a5), none, some (rv 3000000001), some (rv 3000000002), some (rv 3000000003), none, none, none, some (rv 3000000004), some (iv a14), some (iv a15), some (iv a16), some (iv x143), none]) (pc := 523) dL_law_523 (by decide) rfl rfl ?_
      refine x_iload (pc := 525) dL_law_525 rfl ?_
      refine x_iconst (pc := 527) dL_law_527 ?_
      refine x_icmp_eq (off := 28) (tgt := 556) (pc := 528) dL_law_528 (by decide) h138 (by decide) (fun h144 => ?_) (fun h144 => ?_)
      · exact x_sub (ls_n (ls_s (ls_s (ls_s (ls_s (ls_s (ls_n (ls_s (ls_s (ls_s (ls_n (ls_n (ls_n (ls_s (ls_s (ls_n (ls_n (ls_n (ls_n ls_0))))))))))))))))))) (t_L_law_556 Ls xs hLs hLs32 n k347 hk347 M E u a2 a3 a4 a5 a14)
      · refine x_iload (pc := 531) dL_law_531 rfl ?_
        refine x_iconst (pc := 533) dL_law_533 ?_
        refine x_icmp_eq (off := 22) (tgt := 556) (pc := 534) dL_law_534 (by decide) h138 (by decide) (fun h145 => ?_) (fun h145 => ?_)
        · exact x_sub (ls_n (ls_s (ls_s (ls_s (ls_s (ls_s (ls_n (ls_s (ls_s (ls_s (ls_n (ls_n (ls_n (ls_s (ls_s (ls_n (ls_n (ls_n (ls_n ls_0))))))))))))))))))) (t_L_law_556 Ls xs hLs hLs32 n k347 hk347 M E u a2 a3 a4 a5 a14)
        · refine x_iload (pc := 537) dL_law_537 rfl ?_
          refine x_iload (pc := 539) dL_law_539 rfl ?_
          refine x_aload_n (pc := 541) dL_law_541 rfl ?_
          refine x_iload (pc := 542) dL_law_542 rfl ?_
          refine x_iconst (pc := 544) dL_law_544 ?_
          refine x_callVi (pc := 545) v_X5_person l_L_72 dL_law_545 (c_X5_person n _ _ _) (fun _ h => nomatch h) rfl rc_X5 rfl (by decide) (by decide) (Nat.le_of_ble_eq_true rfl) (fun r147 M146 _ => ?_)
          refine x_gd (fun h148 => ?_)
          refine x_gd (fun h149 => ?_)
          refine x_mmin (pc := 548) h148 h149 l_L_91 dL_law_548 (Nat.le_of_ble_eq_true rfl) (by decide) ?_
          refine x_gd (fun h150 => ?_)
          refine x_icmp_eq (off := 5) (tgt := 556) (pc := 551) dL_law_551 (by decide) h150 (mn_rng h149 h148) (fun h151 => ?_) (fun h151 => ?_)
          · exact x_sub (ls_n (ls_s (ls_s (ls_s (ls_s (ls_s (ls_n (ls_s (ls_s (ls_s (ls_n (ls_n (ls_n (ls_s (ls_s (ls_n (ls_n (ls_n (ls_n ls_0))))))))))))))))))) (t_L_law_556 Ls xs hLs hLs32 n k347 hk347 M146 E u a2 a3 a4 a5 a14)
          · refine x_iconst (pc := 554) dL_law_554 ?_
            exact x_ret (pc := 555) dL_law_555 (by decide)
def m_L_law_453 (n : Nat) (k347 : Mem → Mem → Nat → Int → Int → Int → Int → Int → Rs) (M E : Mem) (u : Nat) (a2 : Int) (a3 : Int) (a4 : Int) (a5 : Int) (a14 : Int) (a15 : Int) (a16 : Int) : Rs := if 0 ≤ a14 ∧ a14 < 5 then (bd (m_X5_person n M a14 2) (fun r154 M153 => if I32 r154 then (if (rd E 3 (Int.toNat a14)) = r154 then (m_L_law_470 n k347 M153 E u a2 a3 a4 a5 a14 a15 a16) else (some (0, M153))) else none)) else none
theorem t_L_law_453 (Ls : Nat) (xs : Nat → Int32) (hLs : Ls < 2147483648) (hLs32 : I32 (Ls : Int)) (n : Nat) (k347 : Mem → Mem → Nat → Int → Int → Int → Int → Int → Rs) (hk347 : ∀ (M E : Mem) (u : Nat) (a2 : Int) (a3 : Int) (a4 : Int) (a5 : Int) (a14 : Int), X RL code 19 8 1 (some (Ls, xs)) 347 [none, some (rv 130), some (iv a2), some (iv a3), some (iv a4), some (iv a5), none, some (rv 3000000001), some (rv 3000000002), some (rv 3000000003), none, none, none, some (rv 3000000004), some (iv a14), none, none, none, none] [] M E 5 u (k347 M E u a2 a3 a4 a5 a14)) (M E : Mem) (u : Nat) (a2 : Int) (a3 : Int) (a4 : Int) (a5 : Int) (a14 : Int) (a15 : Int) (a16 : Int) : X RL code 19 8 1 (some (Ls, xs)) 453 [none, some (rv 130), some (iv a2), some (iv a3), some (iv a4), some (iv a5), none, some (rv 3000000001), some (rv 3000000002), some (rv 3000000003), none, none, none, some (rv 3000000004), some (iv a14), some (iv a15), some (iv a16), none, none] [] M E 5 u (m_L_law_453 n k347 M E u a2 a3 a4 a5 a14 a15 a16) := by
  unfold m_L_law_453
  refine x_aload (pc := 453) dL_law_453 rfl ?_
  refine x_iload (pc := 455) dL_law_455 rfl ?_
  refine x_gd (fun h152 => ?_)
  refine x_iald (j := 3) (N := 5) (pc := 457) dL_law_457 (by decide) (by decide) rfl rfl h152 ?_
  refine x_aload_n (pc := 458) dL_law_458 rfl ?_
  refine x_iload (pc := 459) dL_law_459 rfl ?_
  refine x_iconst (pc := 461) dL_law_461 ?_
  refine x_callVi (pc := 462) v_X5_person l_L_72 dL_law_462 (c_X5_person n _ _ _) (fun _ h => nomatch h) rfl rc_X5 rfl (by decide) (by decide) (Nat.le_of_ble_eq_true rfl) (fun r154 M153 _ => ?_)
  refine x_gd (fun h155 => ?_)
  refine x_icmp_eq (off := 5) (tgt := 470) (pc := 465) dL_law_465 (by decide) (rd_rng _ _ _) h155 (fun h156 => ?_) (fun h156 => ?_)
  · exact x_sub (ls_n (ls_s (ls_s (ls_s (ls_s (ls_s (ls_n (ls_s (ls_s (ls_s (ls_n (ls_n (ls_n (ls_s (ls_s (ls_s (ls_s (ls_n (ls_n ls_0))))))))))))))))))) (t_L_law_470 Ls xs hLs hLs32 n k347 hk347 M153 E u a2 a3 a4 a5 a14 a15 a16)
  · refine x_iconst (pc := 468) dL_law_468 ?_
    exact x_ret (pc := 469) dL_law_469 (by decide)
def m_L_law_347 (n : Nat) (k35 : Mem → Mem → Nat → Int → Int → Int → Int → Rs) : Nat → Mem → Mem → Nat → Int → Int → Int → Int → Int → Rs
  | 0, _, _, _, _, _, _, _, _ => none
  | t + 1, M, E, u, a2, a3, a4, a5, a14 => if I32 a14 then (if I32 a2 then (if a2 ≤ a14 then (k35 M E u a2 a3 a4 (a5 + 1)) else (bd (m_X5_person n M a14 3) (fun r161 M160 => if I32 r161 then (if 0 ≤ a14 ∧ a14 < 5 then (if I32 ((Int.tdiv r161 6) - (Int.tdiv (rd E 2 (Int.toNat a14)) 6)) then (bd (m_X5_person n M160 a14 3) (fun r166 M165 => if I32 r166 then (if I32 ((Int.tmod r166 6) - (Int.tmod (rd E 2 (Int.toNat a14)) 6)) then (lt ((abZ ((Int.tdiv r161 6) - (Int.tdiv (rd E 2 (Int.toNat a14)) 6))) + (abZ ((Int.tmod r166 6) - (Int.tmod (rd E 2 (Int.toNat a14)) 6)))) (fun x169 => bd (m_X5_person n M165 a14 0) (fun r171 M170 => bd (m_X5_person n M170 a14 5) (fun r173 M172 => if I32 r173 then (if r173 < (rd E 4 (Int.toNat a14)) then (some (0, M172)) else (bd (m_X5_person n M172 a14 4) (fun r177 M176 => if I32 x169 then (if I32 r177 then (if r177 < x169 then (some (0, M176)) else (if I32 r171 then (if r171 = 0 then (m_L_law_453 n (m_L_law_347 n k35 t) M176 E u a2 a3 a4 a5 a14 x169 r171) else (if r171 = 3 then (m_L_law_453 n (m_L_law_347 n k35 t) M176 E u a2 a3 a4 a5 a14 x169 r171) else (if r171 = 4 then (m_L_law_453 n (m_L_law_347 n k35 t) M176 E u a2 a3 a4 a5 a14 x169 r171) else (m_L_law_470 n (m_L_law_347 n k35 t) M176 E u a2 a3 a4 a5 a14 x169 r171)))) else none)) else none) else none))) else none)))) else none) else none)) else none) else none) else none))) else none) else none
theorem t_L_law_347 (Ls : Nat) (xs : Nat → Int32) (hLs : Ls < 2147483648) (hLs32 : I32 (Ls : Int)) (n : Nat) (k35 : Mem → Mem → Nat → Int → Int → Int → Int → Rs) (hk35 : ∀ (M E : Mem) (u : Nat) (a2 : Int) (a3 : Int) (a4 : Int) (a5 : Int), X RL code 19 8 1 (some (Ls, xs)) 35 [none, some (rv 130), some (iv a2), some (iv a3), some (iv a4), some (iv a5), none, none, none, none, none, none, none, none, none, none, none, none, none] [] M E 0 u (k35 M E u a2 a3 a4 a5)) : ∀ (t : Nat) (M E : Mem) (u : Nat) (a2 : Int) (a3 : Int) (a4 : Int) (a5 : Int) (a14 : Int), X RL code 19 8 1 (some (Ls, xs)) 347 [none, some (rv 130), some (iv a2), some (iv a3), some (iv a4), some (iv a5), none, some (rv 3000000001), some (rv 3000000002), some (rv 3000000003), none, none, none, some (rv 3000000004), some (iv a14), none, none, none, none] [] M E 5 u (m_L_law_347 n k35 t M E u a2 a3 a4 a5 a14) := by
  intro t
  induction t with
  | zero => intro M E u a2 a3 a4 a5 a14; exact x_none
  | succ t ih =>
    intro M E u a2 a3 a4 a5 a14
    rewrite [m_L_law_347]
    refine x_iload (pc := 347) dL_law_347 rfl ?_
    refine x_iload_n (pc := 349) dL_law_349 rfl ?_
    refine x_gd (fun h157 => ?_)
    refine x_gd (fun h158 => ?_)
    refine x_icmp_ge (off := 292) (tgt := 642) (pc := 350) dL_law_350 (by decide) h157 h158 (fun h159 => ?_) (fun h159 => ?_)
    · refine x_iinc (L' := [none, some (rv 130), some (iv a2), some (iv a3), some (iv a4), some (iv (a5 + 1)), none, some (rv 3000000001), some (rv 3000000002), some (rv 3000000003), none, none, none, some (rv 3000000004), some (iv a14), none, none, none, none]) (pc := 642) dL_law_642 rfl (by decide) rfl rfl ?_
      refine x_goto (tgt := 35) (pc := 645) dL_law_645 (by decide) ?_
      refine x_less (nx' := 0) (by decide) ?_
      exact x_sub (ls_n (ls_s (ls_s (ls_s (ls_s (ls_s (ls_n (ls_n (ls_n (ls_n (ls_n (ls_n (ls_n (ls_n (ls_n (ls_n (ls_n (ls_n (ls_n ls_0))))))))))))))))))) (hk35 M E u a2 a3 a4 (a5 + 1))
    · refine x_aload_n (pc := 353) dL_law_353 rfl ?_
      refine x_iload (pc := 354) dL_law_354 rfl ?_
      refine x_iconst (pc := 356) dL_law_356 ?_
      refine x_callVi (pc := 357) v_X5_person l_L_72 dL_law_357 (c_X5_person n _ _ _) (fun _ h => nomatch h) rfl rc_X5 rfl (by decide) (by decide) (Nat.le_of_ble_eq_true rfl) (fun r161 M160 _ => ?_)
      refine x_bipush (pc := 360) dL_law_360 (by decide) ?_
      refine x_gd (fun h162 => ?_)
      refine x_idiv (pc := 362) dL_law_362 h162 (by decide) (by decide) ?_
      refine x_aload (pc := 363) dL_law_363 rfl ?_
      refine x_iload (pc := 365) dL_law_365 rfl ?_
      refine x_gd (fun h163 => ?_)
      refine x_iald (j := 2) (N := 5) (pc := 367) dL_law_367 (by decide) (by decide) rfl rfl h163 ?_
      refine x_bipush (pc := 368) dL_law_368 (by decide) ?_
      refine x_idiv (pc := 370) dL_law_370 (rd_rng _ _ _) (by decide) (by decide) ?_
      refine x_isub (pc := 371) dL_law_371 ?_
      refine x_gd (fun h164 => ?_)
      refine x_mabs (pc := 372) h164 l_L_86 dL_law_372 (Nat.le_of_ble_eq_true rfl) (by decide) ?_
      refine x_aload_n (pc := 375) dL_law_375 rfl ?_
      refine x_iload (pc := 376) dL_law_376 rfl ?_
      refine x_iconst (pc := 378) dL_law_378 ?_
      refine x_callVi (pc := 379) v_X5_person l_L_72 dL_law_379 (c_X5_person n _ _ _) (fun _ h => nomatch h) rfl rc_X5 rfl (by decide) (by decide) (Nat.le_of_ble_eq_true rfl) (fun r166 M165 _ => ?_)
      refine x_bipush (pc := 382) dL_law_382 (by decide) ?_
      refine x_gd (fun h167 => ?_)
      refine x_irem (pc := 384) dL_law_384 h167 (by decide) (by decide) ?_
      refine x_aload (pc := 385) dL_law_385 rfl ?_
      refine x_iload (pc := 387) dL_law_387 rfl ?_
      refine x_iald (j := 2) (N := 5) (pc := 389) dL_law_389 (by decide) (by decide) rfl rfl h163 ?_
      refine x_bipush (pc := 390) dL_law_390 (by decide) ?_
      refine x_irem (pc := 392) dL_law_392 (rd_rng _ _ _) (by decide) (by decide) ?_
      refine x_isub (pc := 393) dL_law_393 ?_
      refine x_gd (fun h168 => ?_)
      refine x_mabs (pc := 394) h168 l_L_86 dL_law_394 (Nat.le_of_ble_eq_true rfl) (by decide) ?_
      refine x_iadd (pc := 397) dL_law_397 ?_
      refine x_leti (fun x169 => ?_)
      refine x_istore (L' := [none, some (rv 130), some (iv a2), some (iv a3), some (iv a4), some (iv a5), none, some (rv 3000000001), some (rv 3000000002), some (rv 3000000003), none, none, none, some (rv 3000000004), some (iv a14), some (iv x169), none, none, none]) (pc := 398) dL_law_398 (by decide) rfl rfl ?_
      refine x_aload_n (pc := 400) dL_law_400 rfl ?_
      refine x_iload (pc := 401) dL_law_401 rfl ?_
      refine x_iconst (pc := 403) dL_law_403 ?_
      refine x_callVi (pc := 404) v_X5_person l_L_72 dL_law_404 (c_X5_person n _ _ _) (fun _ h => nomatch h) rfl rc_X5 rfl (by decide) (by decide) (Nat.le_of_ble_eq_true rfl) (fun r171 M170 _ => ?_)
      refine x_istore (L' := [none, some (rv 130), some (iv a2), some (iv a3), some (iv a4), some (iv a5), none, some (rv 3000000001), some (rv 3000000002), some (rv 3000000003), none, none, none, some (rv 3000000004), some (iv a14), some (iv x169), some (iv r171), none, none]) (pc := 407) dL_law_407 (by decide) rfl rfl ?_
      refine x_aload (pc := 409) dL_law_409 rfl ?_
      refine x_iload (pc := 411) dL_law_411 rfl ?_
      refine x_iald (j := 4) (N := 5) (pc := 413) dL_law_413 (by decide) (by decide) rfl rfl h163 ?_
      refine x_aload_n (pc := 414) dL_law_414 rfl ?_
      refine x_iload (pc := 415) dL_law_415 rfl ?_
      refine x_iconst (pc := 417) dL_law_417 ?_
      refine x_callVi (pc := 418) v_X5_person l_L_72 dL_law_418 (c_X5_person n _ _ _) (fun _ h => nomatch h) rfl rc_X5 rfl (by decide) (by decide) (Nat.le_of_ble_eq_true rfl) (fun r173 M172 _ => ?_)
      refine x_gd (fun h174 => ?_)
      refine x_icmp_gt (off := 47) (tgt := 468) (pc := 421) dL_law_421 (by decide) (rd_rng _ _ _) h174 (fun h175 => ?_) (fun h175 => ?_)
      · refine x_iconst (pc := 468) dL_law_468 ?_
        exact x_ret (pc := 469) dL_law_469 (by decide)
      · refine x_iload (pc := 424) dL_law_424 rfl ?_
        refine x_aload_n (pc := 426) dL_law_426 rfl ?_
        refine x_iload (pc := 427) dL_law_427 rfl ?_
        refine x_iconst (pc := 429) dL_law_429 ?_
        refine x_callVi (pc := 430) v_X5_person l_L_72 dL_law_430 (c_X5_person n _ _ _) (fun _ h => nomatch h) rfl rc_X5 rfl (by decide) (by decide) (Nat.le_of_ble_eq_true rfl) (fun r177 M176 _ => ?_)
        refine x_gd (fun h178 => ?_)
        refine x_gd (fun h179 => ?_)
        refine x_icmp_gt (off := 35) (tgt := 468) (pc := 433) dL_law_433 (by decide) h178 h179 (fun h180 => ?_) (fun h180 => ?_)
        · refine x_iconst (pc := 468) dL_law_468 ?_
          exact x_ret (pc := 469) dL_law_469 (by decide)
        · refine x_iload (pc := 436) dL_law_436 rfl ?_
          refine x_gd (fun h181 => ?_)
          refine x_if_eq (off := 15) (tgt := 453) (pc := 438) dL_law_438 (by decide) h181 (fun h182 => ?_) (fun h182 => ?_)
          · exact x_sub (ls_n (ls_s (ls_s (ls_s (ls_s (ls_s (ls_n (ls_s (ls_s (ls_s (ls_n (ls_n (ls_n (ls_s (ls_s (ls_s (ls_s (ls_n (ls_n ls_0))))))))))))))))))) (t_L_law_453 Ls xs hLs hLs32 n (m_L_law_347 n k35 t) ih M176 E u a2 a3 a4 a5 a14 x169 r171)
          · refine x_iload (pc := 441) dL_law_441 rfl ?_
            refine x_iconst (pc := 443) dL_law_443 ?_
            refine x_icmp_eq (off := 9) (tgt := 453) (pc := 444) dL_law_444 (by decide) h181 (by decide) (fun h183 => ?_) (fun h183 => ?_)
            · exact x_sub (ls_n (ls_s (ls_s (ls_s (ls_s (ls_s (ls_n (ls_s (ls_s (ls_s (ls_n (ls_n (ls_n (ls_s (ls_s (ls_s (ls_s (ls_n (ls_n ls_0))))))))))))))))))) (t_L_law_453 Ls xs hLs hLs32 n (m_L_law_347 n k35 t) ih M176 E u a2 a3 a4 a5 a14 x169 r171)
            · refine x_iload (pc := 447) dL_law_447 rfl ?_
              refine x_iconst (pc := 449) dL_law_449 ?_
              refine x_icmp_ne (off := 20) (tgt := 470) (pc := 450) dL_law_450 (by decide) h181 (by decide) (fun h184 => ?_) (fun h184 => ?_)
              · exact x_sub (ls_n (ls_s (ls_s (ls_s (ls_s (ls_s (ls_n (ls_s (ls_s (ls_s (ls_n (ls_n (ls_n (ls_s (ls_s (ls_s (ls_s (ls_n (ls_n ls_0))))))))))))))))))) (t_L_law_470 Ls xs hLs hLs32 n (m_L_law_347 n k35 t) ih M176 E u a2 a3 a4 a5 a14 x169 r171)
              · exact x_sub (ls_n (ls_s (ls_s (ls_s (ls_s (ls_s (ls_n (ls_s (ls_s (ls_s (ls_n (ls_n (ls_n (ls_s (ls_s (ls_s (ls_s (ls_n (ls_n ls_0))))))))))))))))))) (t_L_law_453 Ls xs hLs hLs32 n (m_L_law_347 n k35 t) ih M176 E u a2 a3 a4 a5 a14 x169 r171)
def m_L_law_245 (n : Nat) (k35 : Mem → Mem → Nat → Int → Int → Int → Int → Rs) : Nat → Mem → Mem → Nat → Int → Int → Int → Int → Int → Rs
  | 0, _, _, _, _, _, _, _, _ => none
  | t + 1, M, E, u, a2, a3, a4, a5, a14 => if I32 a14 then (if I32 a3 then (if a3 ≤ a14 then (m_L_law_347 n k35 n M E u a2 a3 a4 a5 0) else (bd (m_X5_thing n M a14 2) (fun r189 M188 => bd (m_X5_thing n M188 a14 1) (fun r191 M190 => bd (m_X5_thing n M190 a14 0) (fun r193 M192 => if 0 ≤ a14 ∧ a14 < 8 then (if I32 r193 then (if r193 = (rd E 1 (Int.toNat a14)) then (if I32 r189 then (if r189 < 0 then ((m_L_law_245 n k35 t) M192 E u a2 a3 a4 a5 (a14 + 1)) else (if r189 = (rd E 0 (Int.toNat a14)) then ((m_L_law_245 n k35 t) M192 E u a2 a3 a4 a5 (a14 + 1)) else (if 0 ≤ r189 ∧ r189 < 5 then (wr E 4 (Int.toNat r189) ((rd E 4 (Int.toNat r189)) + 1) (fun E201 => bd (m_X5_person n M192 r189 3) (fun r203 M202 => if I32 r203 then (if I32 r191 then (if r203 = r191 then (bd (m_X5_person n M202 r189 5) (fun r208 M207 => if I32 r208 then (if 1 ≤ r208 then ((m_L_law_245 n k35 t) M207 E201 u a2 a3 a4 a5 (a14 + 1)) else (some (0, M207))) else none)) else (some (0, M202))) else none) else none))) else none))) else none) else (some (0, M192))) else none) else none))))) else none) else none
theorem t_L_law_245 (Ls : Nat) (xs : Nat → Int32) (hLs : Ls < 2147483648) (hLs32 : I32 (Ls : Int)) (n : Nat) (k35 : Mem → Mem → Nat → Int → Int → Int → Int → Rs) (hk35 : ∀ (M E : Mem) (u : Nat) (a2 : Int) (a3 : Int) (a4 : Int) (a5 : Int), X RL code 19 8 1 (some (Ls, xs)) 35 [none, some (rv 130), some (iv a2), some (iv a3), some (iv a4), some (iv a5), none, none, none, none, none, none, none, none, none, none, none, none, none] [] M E 0 u (k35 M E u a2 a3 a4 a5)) : ∀ (t : Nat) (M E : Mem) (u : Nat) (a2 : Int) (a3 : Int) (a4 : Int) (a5 : Int) (a14 : Int), X RL code 19 8 1 (some (Ls, xs)) 245 [none, some (rv 130), some (iv a2), some (iv a3), some (iv a4), some (iv a5), some (rv 3000000000), some (rv 3000000001), some (rv 3000000002), some (rv 3000000003), none, none, none, some (rv 3000000004), some (iv a14), none, none, none, none] [] M E 5 u (m_L_law_245 n k35 t M E u a2 a3 a4 a5 a14) := by
  intro t
  induction t with
  | zero => intro M E u a2 a3 a4 a5 a14; exact x_none
  | succ t ih =>
    intro M E u a2 a3 a4 a5 a14
    rewrite [m_L_law_245]
    refine x_iload (pc := 245) dL_law_245 rfl ?_
    refine x_iload_n (pc := 247) dL_law_247 rfl ?_
    refine x_gd (fun h185 => ?_)
    refine x_gd (fun h186 => ?_)
    refine x_icmp_ge (off := 96) (tgt := 344) (pc := 248) dL_law_248 (by decide) h185 h186 (fun h187 => ?_) (fun h187 => ?_)
    · refine x_iconst (pc := 344) dL_law_344 ?_
      refine x_istore (L' := [none, some (rv 130), some (iv a2), some (iv a3), some (iv a4), some (iv a5), some (rv 3000000000), some (rv 3000000001), some (rv 3000000002), some (rv 3000000003), none, none, none, some (rv 3000000004), some (iv 0), none, none, none, none]) (pc := 345) dL_law_345 (by decide) rfl rfl ?_
      exact x_sub (ls_n (ls_s (ls_s (ls_s (ls_s (ls_s (ls_n (ls_s (ls_s (ls_s (ls_n (ls_n (ls_n (ls_s (ls_s (ls_n (ls_n (ls_n (ls_n ls_0))))))))))))))))))) (t_L_law_347 Ls xs hLs hLs32 n k35 hk35 n M E u a2 a3 a4 a5 0)
    · refine x_aload_n (pc := 251) dL_law_251 rfl ?_
      refine x_iload (pc := 252) dL_law_252 rfl ?_
      refine x_iconst (pc := 254) dL_law_254 ?_
      refine x_callVi (pc := 255) v_X5_thing l_L_69 dL_law_255 (c_X5_thing n _ _ _) (fun _ h => nomatch h) rfl rc_X5 rfl (by decide) (by decide) (Nat.le_of_ble_eq_true rfl) (fun r189 M188 _ => ?_)
      refine x_istore (L' := [none, some (rv 130), some (iv a2), some (iv a3), some (iv a4), some (iv a5), some (rv 3000000000), some (rv 3000000001), some (rv 3000000002), some (rv 3000000003), none, none, none, some (rv 3000000004), some (iv a14), some (iv r189), none, none, none]) (pc := 258) dL_law_258 (by decide) rfl rfl ?_
      refine x_aload_n (pc := 260) dL_law_260 rfl ?_
      refine x_iload (pc := 261) dL_law_261 rfl ?_
      refine x_iconst (pc := 263) dL_law_263 ?_
      refine x_callVi (pc := 264) v_X5_thing l_L_69 dL_law_264 (c_X5_thing n _ _ _) (fun _ h => nomatch h) rfl rc_X5 rfl (by decide) (by decide) (Nat.le_of_ble_eq_true rfl) (fun r191 M190 _ => ?_)
      refine x_istore (L' := [none, some (rv 130), some (iv a2), some (iv a3), some (iv a4), some (iv a5), some (rv 3000000000), some (rv 3000000001), some (rv 3000000002), some (rv 3000000003), none, none, none, some (rv 3000000004), some (iv a14), some (iv r189), some (iv r191), none, none]) (pc := 267) dL_law_267 (by decide) rfl rfl ?_
      refine x_aload_n (pc := 269) dL_law_269 rfl ?_
      refine x_iload (pc := 270) dL_law_270 rfl ?_
      refine x_iconst (pc := 272) dL_law_272 ?_
      refine x_callVi (pc := 273) v_X5_thing l_L_69 dL_law_273 (c_X5_thing n _ _ _) (fun _ h => nomatch h) rfl rc_X5 rfl (by decide) (by decide) (Nat.le_of_ble_eq_true rfl) (fun r193 M192 _ => ?_)
      refine x_aload (pc := 276) dL_law_276 rfl ?_
      refine x_iload (pc := 278) dL_law_278 rfl ?_
      refine x_gd (fun h194 => ?_)
      refine x_iald (j := 1) (N := 8) (pc := 280) dL_law_280 (by decide) (by decide) rfl rfl h194 ?_
      refine x_gd (fun h195 => ?_)
      refine x_icmp_eq (off := 5) (tgt := 286) (pc := 281) dL_law_281 (by decide) h195 (rd_rng _ _ _) (fun h196 => ?_) (fun h196 => ?_)
      · refine x_iload (pc := 286) dL_law_286 rfl ?_
        refine x_gd (fun h197 => ?_)
        refine x_if_lt (off := 50) (tgt := 338) (pc := 288) dL_law_288 (by decide) h197 (fun h198 => ?_) (fun h198 => ?_)
        · refine x_iinc (L' := [none, some (rv 130), some (iv a2), some (iv a3), some (iv a4), some (iv a5), some (rv 3000000000), some (rv 3000000001), some (rv 3000000002), some (rv 3000000003), none, none, none, some (rv 3000000004), some (iv (a14 + 1)), some (iv r189), some (iv r191), none, none]) (pc := 338) dL_law_338 rfl (by decide) rfl rfl ?_
          refine x_goto (tgt := 245) (pc := 341) dL_law_341 (by decide) ?_
          exact x_sub (ls_n (ls_s (ls_s (ls_s (ls_s (ls_s (ls_s (ls_s (ls_s (ls_s (ls_n (ls_n (ls_n (ls_s (ls_s (ls_n (ls_n (ls_n (ls_n ls_0))))))))))))))))))) (ih M192 E u a2 a3 a4 a5 (a14 + 1))
        · refine x_iload (pc := 291) dL_law_291 rfl ?_
          refine x_aload (pc := 293) dL_law_293 rfl ?_
          refine x_iload (pc := 295) dL_law_295 rfl ?_
          refine x_iald (j := 0) (N := 8) (pc := 297) dL_law_297 (by decide) (by decide) rfl rfl h194 ?_
          refine x_icmp_ne (off := 6) (tgt := 304) (pc := 298) dL_law_298 (by decide) h197 (rd_rng _ _ _) (fun h199 => ?_) (fun h199 => ?_)
          · refine x_aload (pc := 304) dL_law_304 rfl ?_
            refine x_iload (pc := 306) dL_law_306 rfl ?_
            refine x_dup2 (pc := 308) dL_law_308 rfl rfl ?_
            refine x_gd (fun h200 => ?_)
            refine x_iald (j := 4) (N := 5) (pc := 309) dL_law_309 (by decide) (by decide) rfl rfl h200 ?_
            refine x_iconst (pc := 310) dL_law_310 ?_
            refine x_iadd (pc := 311) dL_law_311 ?_
            refine x_iastw (j := 4) (N := 5) (pc := 312) dL_law_312 (by decide) (by decide) rfl rfl h200 (fun E201 => ?_)
            refine x_aload_n (pc := 313) dL_law_313 rfl ?_
            refine x_iload (pc := 314) dL_law_314 rfl ?_
            refine x_iconst (pc := 316) dL_law_316 ?_
            refine x_callVi (pc := 317) v_X5_person l_L_72 dL_law_317 (c_X5_person n _ _ _) (fun _ h => nomatch h) rfl rc_X5 rfl (by decide) (by decide) (Nat.le_of_ble_eq_true rfl) (fun r203 M202 _ => ?_)
            refine x_iload (pc := 320) dL_law_320 rfl ?_
            refine x_gd (fun h204 => ?_)
            refine x_gd (fun h205 => ?_)
            refine x_icmp_ne (off := 14) (tgt := 336) (pc := 322) dL_law_322 (by decide) h204 h205 (fun h206 => ?_) (fun h206 => ?_)
            · refine x_iconst (pc := 336) dL_law_336 ?_
              exact x_ret (pc := 337) dL_law_337 (by decide)
            · refine x_aload_n (pc := 325) dL_law_325 rfl ?_
              refine x_iload (pc := 326) dL_law_326 rfl ?_
              refine x_iconst (pc := 328) dL_law_328 ?_
              refine x_callVi (pc := 329) v_X5_person l_L_72 dL_law_329 (c_X5_person n _ _ _) (fun _ h => nomatch h) rfl rc_X5 rfl (by decide) (by decide) (Nat.le_of_ble_eq_true rfl) (fun r208 M207 _ => ?_)
              refine x_iconst (pc := 332) dL_law_332 ?_
              refine x_gd (fun h209 => ?_)
              refine x_icmp_ge (off := 5) (tgt := 338) (pc := 333) dL_law_333 (by decide) h209 (by decide) (fun h210 => ?_) (fun h210 => ?_)
              · refine x_iinc (L' := [none, some (rv 130), some (iv a2), some (iv a3), some (iv a4), some (iv a5), some (rv 3000000000), some (rv 3000000001), some (rv 3000000002), some (rv 3000000003), none, none, none, some (rv 3000000004), some (iv (a14 + 1)), some (iv r189), some (iv r191), none, none]) (pc := 338) dL_law_338 rfl (by decide) rfl rfl ?_
                refine x_goto (tgt := 245) (pc := 341) dL_law_341 (by decide) ?_
                exact x_sub (ls_n (ls_s (ls_s (ls_s (ls_s (ls_s (ls_s (ls_s (ls_s (ls_s (ls_n (ls_n (ls_n (ls_s (ls_s (ls_n (ls_n (ls_n (ls_n ls_0))))))))))))))))))) (ih M207 E201 u a2 a3 a4 a5 (a14 + 1))
              · refine x_iconst (pc := 336) dL_law_336 ?_
                exact x_ret (pc := 337) dL_law_337 (by decide)
          · refine x_goto (tgt := 338) (pc := 301) dL_law_301 (by decide) ?_
            refine x_iinc (L' := [none, some (rv 130), some (iv a2), some (iv a3), some (iv a4), some (iv a5), some (rv 3000000000), some (rv 3000000001), some (rv 3000000002), some (rv 3000000003), none, none, none, some (rv 3000000004), some (iv (a14 + 1)), some (iv r189), some (iv r191), none, none]) (pc := 338) dL_law_338 rfl (by decide) rfl rfl ?_
            refine x_goto (tgt := 245) (pc := 341) dL_law_341 (by decide) ?_
            exact x_sub (ls_n (ls_s (ls_s (ls_s (ls_s (ls_s (ls_s (ls_s (ls_s (ls_s (ls_n (ls_n (ls_n (ls_s (ls_s (ls_n (ls_n (ls_n (ls_n ls_0))))))))))))))))))) (ih M192 E u a2 a3 a4 a5 (a14 + 1))
      · refine x_iconst (pc := 284) dL_law_284 ?_
        exact x_ret (pc := 285) dL_law_285 (by decide)
def m_L_law_106 (n : Nat) (k35 : Mem → Mem → Nat → Int → Int → Int → Int → Rs) : Nat → Mem → Mem → Nat → Int → Int → Int → Int → Int → Rs
  | 0, _, _, _, _, _, _, _, _ => none
  | t + 1, M, E, u, a2, a3, a4, a5, a10 => if I32 a10 then (if I32 a2 then (if a2 ≤ a10 then (bd (m_X5_then n M 1 0) (fun r215 M214 => bd (m_X5_then n M214 1 1) (fun r217 M216 => bd (m_X5_then n M216 1 2) (fun r219 M218 => bd (m_X5_hours n M218 1) (fun r221 M220 => if I32 r221 then (if I32 r217 then (if r221 = r217 then (bd (m_X5_count n M220 3) (fun r226 M225 => if I32 r226 then (if I32 ((a4 + a5) + 1) then (if r226 = ((a4 + a5) + 1) then (bd (m_X5_count n M225 9) (fun r231 M230 => if I32 r231 then (if I32 r215 then (if r231 = r215 then (bd (m_X5_sight n M230 1) (fun r236 M235 => if I32 r236 then (if I32 r219 then (if r236 = r219 then (bd (m_X5_count n M235 5) (fun r241 M240 => if I32 r241 then (if r241 = r217 then (bd (m_J6_bitCount_0f7a4 n M240 r219) (fun r245 M244 => if I32 (a3 - r245) then (if (a3 - r245) = r217 then (nwa E u 4 5 (fun E248 u249 => m_L_law_245 n k35 n M244 E248 u249 a2 a3 a4 a5 0)) else (some (0, M244))) else none)) else (some (0, M240))) else none)) else (some (0, M235))) else none) else none)) else (some (0, M230))) else none) else none)) else (some (0, M225))) else none) else none)) else (some (0, M220))) else none) else none))))) else (bd (m_X5_person n M a10 3) (fun r251 M250 => if 0 ≤ a10 ∧ a10 < 5 then (wr E 2 (Int.toNat a10) r251 (fun E253 => bd (m_X5_person n M250 a10 7) (fun r255 M254 => wr E253 3 (Int.toNat a10) r255 (fun E256 => (m_L_law_106 n k35 t) M254 E256 u a2 a3 a4 a5 (a10 + 1))))) else none))) else none) else none
theorem t_L_law_106 (Ls : Nat) (xs : Nat → Int32) (hLs : Ls < 2147483648) (hLs32 : I32 (Ls : Int)) (n : Nat) (k35 : Mem → Mem → Nat → Int → Int → Int → Int → Rs) (hk35 : ∀ (M E : Mem) (u : Nat) (a2 : Int) (a3 : Int) (a4 : Int) (a5 : Int), X RL code 19 8 1 (some (Ls, xs)) 35 [none, some (rv 130), some (iv a2), some (iv a3), some (iv a4), some (iv a5), none, none, none, none, none, none, none, none, none, none, none, none, none] [] M E 0 u (k35 M E u a2 a3 a4 a5)) : ∀ (t : Nat) (M E : Mem) (u : Nat) (a2 : Int) (a3 : Int) (a4 : Int) (a5 : Int) (a10 : Int), X RL code 19 8 1 (some (Ls, xs)) 106 [none, some (rv 130), some (iv a2), some (iv a3), some (iv a4), some (iv a5), some (rv 3000000000), some (rv 3000000001), some (rv 3000000002), some (rv 3000000003), some (iv a10), none, none, none, none, none, none, none, none] [] M E 4 u (m_L_law_106 n k35 t M E u a2 a3 a4 a5 a10) := by
  intro t
  induction t with
  | zero => intro M E u a2 a3 a4 a5 a10; exact x_none
  | succ t ih =>
    intro M E u a2 a3 a4 a5 a10
    rewrite [m_L_law_106]
    refine x_iload (pc := 106) dL_law_106 rfl ?_
    refine x_iload_n (pc := 108) dL_law_108 rfl ?_
    refine x_gd (fun h211 => ?_)
    refine x_gd (fun h212 => ?_)
    refine x_icmp_ge (off := 34) (tgt := 143) (pc := 109) dL_law_109 (by decide) h211 h212 (fun h213 => ?_) (fun h213 => ?_)
    · refine x_aload_n (pc := 143) dL_law_143 rfl ?_
      refine x_iconst (pc := 144) dL_law_144 ?_
      refine x_iconst (pc := 145) dL_law_145 ?_
      refine x_callVi (pc := 146) v_X5_then l_L_75 dL_law_146 (c_X5_then n _ _ _) (fun _ h => nomatch h) rfl rc_X5 rfl (by decide) (by decide) (Nat.le_of_ble_eq_true rfl) (fun r215 M214 _ => ?_)
      refine x_istore (L' := [none, some (rv 130), some (iv a2), some (iv a3), some (iv a4), some (iv a5), some (rv 3000000000), some (rv 3000000001), some (rv 3000000002), some (rv 3000000003), some (iv r215), none, none, none, none, none, none, none, none]) (pc := 149) dL_law_149 (by decide) rfl rfl ?_
      refine x_aload_n (pc := 151) dL_law_151 rfl ?_
      refine x_iconst (pc := 152) dL_law_152 ?_
      refine x_iconst (pc := 153) dL_law_153 ?_
      refine x_callVi (pc := 154) v_X5_then l_L_75 dL_law_154 (c_X5_then n _ _ _) (fun _ h => nomatch h) rfl rc_X5 rfl (by decide) (by decide) (Nat.le_of_ble_eq_true rfl) (fun r217 M216 _ => ?_)
      refine x_istore (L' := [none, some (rv 130), some (iv a2), some (iv a3), some (iv a4), some (iv a5), some (rv 3000000000), some (rv 3000000001), some (rv 3000000002), some (rv 3000000003), some (iv r215), some (iv r217), none, none, none, none, none, none, none]) (pc := 157) dL_law_157 (by decide) rfl rfl ?_
      refine x_aload_n (pc := 159) dL_law_159 rfl ?_
      refine x_iconst (pc := 160) dL_law_160 ?_
      refine x_iconst (pc := 161) dL_law_161 ?_
      refine x_callVi (pc := 162) v_X5_then l_L_75 dL_law_162 (c_X5_then n _ _ _) (fun _ h => nomatch h) rfl rc_X5 rfl (by decide) (by decide) (Nat.le_of_ble_eq_true rfl) (fun r219 M218 _ => ?_)
      refine x_istore (L' := [none, some (rv 130), some (iv a2), some (iv a3), some (iv a4), some (iv a5), some (rv 3000000000), some (rv 3000000001), some (rv 3000000002), some (rv 3000000003), some (iv r215), some (iv r217), some (iv r219), none, none, none, none, none, none]) (pc := 165) dL_law_165 (by decide) rfl rfl ?_
      refine x_aload_n (pc := 167) dL_law_167 rfl ?_
      refine x_iconst (pc := 168) dL_law_168 ?_
      refine x_callVi (pc := 169) v_X5_hours l_L_59 dL_law_169 (c_X5_hours n _ _) (fun _ h => nomatch h) rfl rc_X5 rfl (by decide) (by decide) (Nat.le_of_ble_eq_true rfl) (fun r221 M220 _ => ?_)
      refine x_iload (pc := 172) dL_law_172 rfl ?_
      refine x_gd (fun h222 => ?_)
      refine x_gd (fun h223 => ?_)
      refine x_icmp_ne (off := 61) (tgt := 235) (pc := 174) dL_law_174 (by decide) h222 h223 (fun h224 => ?_) (fun h224 => ?_)
      · refine x_iconst (pc := 235) dL_law_235 ?_
        exact x_ret (pc := 236) dL_law_236 (by decide)
      · refine x_aload_n (pc := 177) dL_law_177 rfl ?_
        refine x_iconst (pc := 178) dL_law_178 ?_
        refine x_callVi (pc := 179) v_X5_count l_L_47 dL_law_179 (c_X5_count n _ _) (fun _ h => nomatch h) rfl rc_X5 rfl (by decide) (by decide) (Nat.le_of_ble_eq_true rfl) (fun r226 M225 _ => ?_)
        refine x_iload (pc := 182) dL_law_182 rfl ?_
        refine x_iload (pc := 184) dL_law_184 rfl ?_
        refine x_iadd (pc := 186) dL_law_186 ?_
        refine x_iconst (pc := 187) dL_law_187 ?_
        refine x_iadd (pc := 188) dL_law_188 ?_
        refine x_gd (fun h227 => ?_)
        refine x_gd (fun h228 => ?_)
        refine x_icmp_ne (off := 46) (tgt := 235) (pc := 189) dL_law_189 (by decide) h227 h228 (fun h229 => ?_) (fun h229 => ?_)
        · refine x_iconst (pc := 235) dL_law_235 ?_
          exact x_ret (pc := 236) dL_law_236 (by decide)
        · refine x_aload_n (pc := 192) dL_law_192 rfl ?_
          refine x_bipush (pc := 193) dL_law_193 (by decide) ?_
          refine x_callVi (pc := 195) v_X5_count l_L_47 dL_law_195 (c_X5_count n _ _) (fun _ h => nomatch h) rfl rc_X5 rfl (by decide) (by decide) (Nat.le_of_ble_eq_true rfl) (fun r231 M230 _ => ?_)
          refine x_iload (pc := 198) dL_law_198 rfl ?_
          refine x_gd (fun h232 => ?_)
          refine x_gd (fun h233 => ?_)
          refine x_icmp_ne (off := 35) (tgt := 235) (pc := 200) dL_law_200 (by decide) h232 h233 (fun h234 => ?_) (fun h234 => ?_)
          · refine x_iconst (pc := 235) dL_law_235 ?_
            exact x_ret (pc := 236) dL_law_236 (by decide)
          · refine x_aload_n (pc := 203) dL_law_203 rfl ?_
            refine x_iconst (pc := 204) dL_law_204 ?_
            refine x_callVi (pc := 205) v_X5_sight l_L_78 dL_law_205 (c_X5_sight n _ _) (fun _ h => nomatch h) rfl rc_X5 rfl (by decide) (by decide) (Nat.le_of_ble_eq_true rfl) (fun r236 M235 _ => ?_)
            refine x_iload (pc := 208) dL_law_208 rfl ?_
            refine x_gd (fun h237 => ?_)
            refine x_gd (fun h238 => ?_)
            refine x_icmp_ne (off := 25) (tgt := 235) (pc := 210) dL_law_210 (by decide) h237 h238 (fun h239 => ?_) (fun h239 => ?_)
            · refine x_iconst (pc := 235) dL_law_235 ?_
              exact x_ret (pc := 236) dL_law_236 (by decide)
            · refine x_aload_n (pc := 213) dL_law_213 rfl ?_
              refine x_iconst (pc := 214) dL_law_214 ?_
              refine x_callVi (pc := 215) v_X5_count l_L_47 dL_law_215 (c_X5_count n _ _) (fun _ h => nomatch h) rfl rc_X5 rfl (by decide) (by decide) (Nat.le_of_ble_eq_true rfl) (fun r241 M240 _ => ?_)
              refine x_iload (pc := 218) dL_law_218 rfl ?_
              refine x_gd (fun h242 => ?_)
              refine x_icmp_ne (off := 15) (tgt := 235) (pc := 220) dL_law_220 (by decide) h242 h223 (fun h243 => ?_) (fun h243 => ?_)
              · refine x_iconst (pc := 235) dL_law_235 ?_
                exact x_ret (pc := 236) dL_law_236 (by decide)
              · refine x_iload_n (pc := 223) dL_law_223 rfl ?_
                refine x_iload (pc := 224) dL_law_224 rfl ?_
                refine x_callSi (pc := 226) s_J6_bitCount_0f7a4 l_L_81 dL_law_226 (c_J6_bitCount_0f7a4 n _ _) (fun _ h => nomatch h) rfl rfl (by decide) (by decide) (Nat.le_of_ble_eq_true rfl) (fun r245 M244 _ => ?_)
                refine x_isub (pc := 229) dL_law_229 ?_
                refine x_iload (pc := 230) dL_law_230 rfl ?_
                refine x_gd (fun h246 => ?_)
                refine x_icmp_eq (off := 5) (tgt := 237) (pc := 232) dL_law_232 (by decide) h246 h223 (fun h247 => ?_) (fun h247 => ?_)
                · refine x_iconst (pc := 237) dL_law_237 ?_
                  refine x_newaw (j := 4) (N := 5) (q := 3000000004) (pc := 238) dL_law_238 (by decide) rfl rfl rfl rfl (fun E248 u249 => ?_)
                  refine x_astore (L' := [none, some (rv 130), some (iv a2), some (iv a3), some (iv a4), some (iv a5), some (rv 3000000000), some (rv 3000000001), some (rv 3000000002), some (rv 3000000003), some (iv r215), some (iv r217), some (iv r219), some (rv 3000000004), none, none, none, none, none]) (pc := 240) dL_law_240 (by decide) rfl rfl ?_
                  refine x_iconst (pc := 242) dL_law_242 ?_
                  refine x_istore (L' := [none, some (rv 130), some (iv a2), some (iv a3), some (iv a4), some (iv a5), some (rv 3000000000), some (rv 3000000001), some (rv 3000000002), some (rv 3000000003), some (iv r215), some (iv r217), some (iv r219), some (rv 3000000004), some (iv 0), none, none, none, none]) (pc := 243) dL_law_243 (by decide) rfl rfl ?_
                  exact x_sub (ls_n (ls_s (ls_s (ls_s (ls_s (ls_s (ls_s (ls_s (ls_s (ls_s (ls_n (ls_n (ls_n (ls_s (ls_s (ls_n (ls_n (ls_n (ls_n ls_0))))))))))))))))))) (t_L_law_245 Ls xs hLs hLs32 n k35 hk35 n M244 E248 u249 a2 a3 a4 a5 0)
                · refine x_iconst (pc := 235) dL_law_235 ?_
                  exact x_ret (pc := 236) dL_law_236 (by decide)
    · refine x_aload (pc := 112) dL_law_112 rfl ?_
      refine x_iload (pc := 114) dL_law_114 rfl ?_
      refine x_aload_n (pc := 116) dL_law_116 rfl ?_
      refine x_iload (pc := 117) dL_law_117 rfl ?_
      refine x_iconst (pc := 119) dL_law_119 ?_
      refine x_callVi (pc := 120) v_X5_person l_L_72 dL_law_120 (c_X5_person n _ _ _) (fun _ h => nomatch h) rfl rc_X5 rfl (by decide) (by decide) (Nat.le_of_ble_eq_true rfl) (fun r251 M250 _ => ?_)
      refine x_gd (fun h252 => ?_)
      refine x_iastw (j := 2) (N := 5) (pc := 123) dL_law_123 (by decide) (by decide) rfl rfl h252 (fun E253 => ?_)
      refine x_aload (pc := 124) dL_law_124 rfl ?_
      refine x_iload (pc := 126) dL_law_126 rfl ?_
      refine x_aload_n (pc := 128) dL_law_128 rfl ?_
      refine x_iload (pc := 129) dL_law_129 rfl ?_
      refine x_bipush (pc := 131) dL_law_131 (by decide) ?_
      refine x_callVi (pc := 133) v_X5_person l_L_72 dL_law_133 (c_X5_person n _ _ _) (fun _ h => nomatch h) rfl rc_X5 rfl (by decide) (by decide) (Nat.le_of_ble_eq_true rfl) (fun r255 M254 _ => ?_)
      refine x_iastw (j := 3) (N := 5) (pc := 136) dL_law_136 (by decide) (by decide) rfl rfl h252 (fun E256 => ?_)
      refine x_iinc (L' := [none, some (rv 130), some (iv a2), some (iv a3), some (iv a4), some (iv a5), some (rv 3000000000), some (rv 3000000001), some (rv 3000000002), some (rv 3000000003), some (iv (a10 + 1)), none, none, none, none, none, none, none, none]) (pc := 137) dL_law_137 rfl (by decide) rfl rfl ?_
      refine x_goto (tgt := 106) (pc := 140) dL_law_140 (by decide) ?_
      exact x_sub (ls_n (ls_s (ls_s (ls_s (ls_s (ls_s (ls_s (ls_s (ls_s (ls_s (ls_s (ls_n (ls_n (ls_n (ls_n (ls_n (ls_n (ls_n (ls_n ls_0))))))))))))))))))) (ih M254 E256 u a2 a3 a4 a5 (a10 + 1))
def m_L_law_67 (n : Nat) (k35 : Mem → Mem → Nat → Int → Int → Int → Int → Rs) : Nat → Mem → Mem → Nat → Int → Int → Int → Int → Int → Rs
  | 0, _, _, _, _, _, _, _, _ => none
  | t + 1, M, E, u, a2, a3, a4, a5, a10 => if I32 a10 then (if I32 a3 then (if a3 ≤ a10 then (m_L_law_106 n k35 n M E u a2 a3 a4 a5 0) else (bd (m_X5_thing n M a10 2) (fun r261 M260 => if 0 ≤ a10 ∧ a10 < 8 then (wr E 0 (Int.toNat a10) r261 (fun E263 => bd (m_X5_thing n M260 a10 0) (fun r265 M264 => wr E263 1 (Int.toNat a10) r265 (fun E266 => (m_L_law_67 n k35 t) M264 E266 u a2 a3 a4 a5 (a10 + 1))))) else none))) else none) else none
theorem t_L_law_67 (Ls : Nat) (xs : Nat → Int32) (hLs : Ls < 2147483648) (hLs32 : I32 (Ls : Int)) (n : Nat) (k35 : Mem → Mem → Nat → Int → Int → Int → Int → Rs) (hk35 : ∀ (M E : Mem) (u : Nat) (a2 : Int) (a3 : Int) (a4 : Int) (a5 : Int), X RL code 19 8 1 (some (Ls, xs)) 35 [none, some (rv 130), some (iv a2), some (iv a3), some (iv a4), some (iv a5), none, none, none, none, none, none, none, none, none, none, none, none, none] [] M E 0 u (k35 M E u a2 a3 a4 a5)) : ∀ (t : Nat) (M E : Mem) (u : Nat) (a2 : Int) (a3 : Int) (a4 : Int) (a5 : Int) (a10 : Int), X RL code 19 8 1 (some (Ls, xs)) 67 [none, some (rv 130), some (iv a2), some (iv a3), some (iv a4), some (iv a5), some (rv 3000000000), some (rv 3000000001), some (rv 3000000002), some (rv 3000000003), some (iv a10), none, none, none, none, none, none, none, none] [] M E 4 u (m_L_law_67 n k35 t M E u a2 a3 a4 a5 a10) := by
  intro t
  induction t with
  | zero => intro M E u a2 a3 a4 a5 a10; exact x_none
  | succ t ih =>
    intro M E u a2 a3 a4 a5 a10
    rewrite [m_L_law_67]
    refine x_iload (pc := 67) dL_law_67 rfl ?_
    refine x_iload_n (pc := 69) dL_law_69 rfl ?_
    refine x_gd (fun h257 => ?_)
    refine x_gd (fun h258 => ?_)
    refine x_icmp_ge (off := 33) (tgt := 103) (pc := 70) dL_law_70 (by decide) h257 h258 (fun h259 => ?_) (fun h259 => ?_)
    · refine x_iconst (pc := 103) dL_law_103 ?_
      refine x_istore (L' := [none, some (rv 130), some (iv a2), some (iv a3), some (iv a4), some (iv a5), some (rv 3000000000), some (rv 3000000001), some (rv 3000000002), some (rv 3000000003), some (iv 0), none, none, none, none, none, none, none, none]) (pc := 104) dL_law_104 (by decide) rfl rfl ?_
      exact x_sub (ls_n (ls_s (ls_s (ls_s (ls_s (ls_s (ls_s (ls_s (ls_s (ls_s (ls_s (ls_n (ls_n (ls_n (ls_n (ls_n (ls_n (ls_n (ls_n ls_0))))))))))))))))))) (t_L_law_106 Ls xs hLs hLs32 n k35 hk35 n M E u a2 a3 a4 a5 0)
    · refine x_aload (pc := 73) dL_law_73 rfl ?_
      refine x_iload (pc := 75) dL_law_75 rfl ?_
      refine x_aload_n (pc := 77) dL_law_77 rfl ?_
      refine x_iload (pc := 78) dL_law_78 rfl ?_
      refine x_iconst (pc := 80) dL_law_80 ?_
      refine x_callVi (pc := 81) v_X5_thing l_L_69 dL_law_81 (c_X5_thing n _ _ _) (fun _ h => nomatch h) rfl rc_X5 rfl (by decide) (by decide) (Nat.le_of_ble_eq_true rfl) (fun r261 M260 _ => ?_)
      refine x_gd (fun h262 => ?_)
      refine x_iastw (j := 0) (N := 8) (pc := 84) dL_law_84 (by decide) (by decide) rfl rfl h262 (fun E263 => ?_)
      refine x_aload (pc := 85) dL_law_85 rfl ?_
      refine x_iload (pc := 87) dL_law_87 rfl ?_
      refine x_aload_n (pc := 89) dL_law_89 rfl ?_
      refine x_iload (pc := 90) dL_law_90 rfl ?_
      refine x_iconst (pc := 92) dL_law_92 ?_
      refine x_callVi (pc := 93) v_X5_thing l_L_69 dL_law_93 (c_X5_thing n _ _ _) (fun _ h => nomatch h) rfl rc_X5 rfl (by decide) (by decide) (Nat.le_of_ble_eq_true rfl) (fun r265 M264 _ => ?_)
      refine x_iastw (j := 1) (N := 8) (pc := 96) dL_law_96 (by decide) (by decide) rfl rfl h262 (fun E266 => ?_)
      refine x_iinc (L' := [none, some (rv 130), some (iv a2), some (iv a3), some (iv a4), some (iv a5), some (rv 3000000000), some (rv 3000000001), some (rv 3000000002), some (rv 3000000003), some (iv (a10 + 1)), none, none, none, none, none, none, none, none]) (pc := 97) dL_law_97 rfl (by decide) rfl rfl ?_
      refine x_goto (tgt := 67) (pc := 100) dL_law_100 (by decide) ?_
      exact x_sub (ls_n (ls_s (ls_s (ls_s (ls_s (ls_s (ls_s (ls_s (ls_s (ls_s (ls_s (ls_n (ls_n (ls_n (ls_n (ls_n (ls_n (ls_n (ls_n ls_0))))))))))))))))))) (ih M264 E266 u a2 a3 a4 a5 (a10 + 1))
def m_L_law_35 (n : Nat) : Nat → Mem → Mem → Nat → Int → Int → Int → Int → Rs
  | 0, _, _, _, _, _, _, _ => none
  | t + 1, M, E, u, a2, a3, a4, a5 => if I32 a5 then (if 12 ≤ a5 then (bd (m_X5_count n M 9) (fun r270 M269 => m_L_law_666 n n M269 E u a2 a4 r270 0 r270 0)) else (nwa E u 0 8 (fun E271 u272 => nwa E271 u272 1 8 (fun E273 u274 => nwa E273 u274 2 5 (fun E275 u276 => nwa E275 u276 3 5 (fun E277 u278 => m_L_law_67 n (m_L_law_35 n t) n M E277 u278 a2 a3 a4 a5 0)))))) else none
theorem t_L_law_35 (Ls : Nat) (xs : Nat → Int32) (hLs : Ls < 2147483648) (hLs32 : I32 (Ls : Int)) (n : Nat) : ∀ (t : Nat) (M E : Mem) (u : Nat) (a2 : Int) (a3 : Int) (a4 : Int) (a5 : Int), X RL code 19 8 1 (some (Ls, xs)) 35 [none, some (rv 130), some (iv a2), some (iv a3), some (iv a4), some (iv a5), none, none, none, none, none, none, none, none, none, none, none, none, none] [] M E 0 u (m_L_law_35 n t M E u a2 a3 a4 a5) := by
  intro t
  induction t with
  | zero => intro M E u a2 a3 a4 a5; exact x_none
  | succ t ih =>
    intro M E u a2 a3 a4 a5
    rewrite [m_L_law_35]
    refine x_iload (pc := 35) dL_law_35 rfl ?_
    refine x_bipush (pc := 37) dL_law_37 (by decide) ?_
    refine x_gd (fun h267 => ?_)
    refine x_icmp_ge (off := 609) (tgt := 648) (pc := 39) dL_law_39 (by decide) h267 (by decide) (fun h268 => ?_) (fun h268 => ?_)
    · refine x_aload_n (pc := 648) dL_law_648 rfl ?_
      refine x_bipush (pc := 649) dL_law_649 (by decide) ?_
      refine x_callVi (pc := 651) v_X5_count l_L_47 dL_law_651 (c_X5_count n _ _) (fun _ h => nomatch h) rfl rc_X5 rfl (by decide) (by decide) (Nat.le_of_ble_eq_true rfl) (fun r270 M269 _ => ?_)
      refine x_istore (L' := [none, some (rv 130), some (iv a2), some (iv a3), some (iv a4), some (iv r270), none, none, none, none, none, none, none, none, none, none, none, none, none]) (pc := 654) dL_law_654 (by decide) rfl rfl ?_
      refine x_iconst (pc := 656) dL_law_656 ?_
      refine x_istore (L' := [none, some (rv 130), some (iv a2), some (iv a3), some (iv a4), some (iv r270), some (iv 0), none, none, none, none, none, none, none, none, none, none, none, none]) (pc := 657) dL_law_657 (by decide) rfl rfl ?_
      refine x_iload (pc := 659) dL_law_659 rfl ?_
      refine x_istore (L' := [none, some (rv 130), some (iv a2), some (iv a3), some (iv a4), some (iv r270), some (iv 0), some (iv r270), none, none, none, none, none, none, none, none, none, none, none]) (pc := 661) dL_law_661 (by decide) rfl rfl ?_
      refine x_iconst (pc := 663) dL_law_663 ?_
      refine x_istore (L' := [none, some (rv 130), some (iv a2), some (iv a3), some (iv a4), some (iv r270), some (iv 0), some (iv r270), some (iv 0), none, none, none, none, none, none, none, none, none, none]) (pc := 664) dL_law_664 (by decide) rfl rfl ?_
      exact x_sub (ls_n (ls_s (ls_s (ls_n (ls_s (ls_s (ls_s (ls_s (ls_s (ls_n (ls_n (ls_n (ls_n (ls_n (ls_n (ls_n (ls_n (ls_n (ls_n ls_0))))))))))))))))))) (t_L_law_666 Ls xs hLs hLs32 n n M269 E u a2 a4 r270 0 r270 0)
    · refine x_bipush (pc := 42) dL_law_42 (by decide) ?_
      refine x_newaw (j := 0) (N := 8) (q := 3000000000) (pc := 44) dL_law_44 (by decide) rfl rfl rfl rfl (fun E271 u272 => ?_)
      refine x_astore (L' := [none, some (rv 130), some (iv a2), some (iv a3), some (iv a4), some (iv a5), some (rv 3000000000), none, none, none, none, none, none, none, none, none, none, none, none]) (pc := 46) dL_law_46 (by decide) rfl rfl ?_
      refine x_bipush (pc := 48) dL_law_48 (by decide) ?_
      refine x_newaw (j := 1) (N := 8) (q := 3000000001) (pc := 50) dL_law_50 (by decide) rfl rfl rfl rfl (fun E273 u274 => ?_)
      refine x_astore (L' := [none, some (rv 130), some (iv a2), some (iv a3), some (iv a4), some (iv a5), some (rv 3000000000), some (rv 3000000001), none, none, none, none, none, none, none, none, none, none, none]) (pc := 52) dL_law_52 (by decide) rfl rfl ?_
      refine x_iconst (pc := 54) dL_law_54 ?_
      refine x_newaw (j := 2) (N := 5) (q := 3000000002) (pc := 55) dL_law_55 (by decide) rfl rfl rfl rfl (fun E275 u276 => ?_)
      refine x_astore (L' := [none, some (rv 130), some (iv a2), some (iv a3), some (iv a4), some (iv a5), some (rv 3000000000), some (rv 3000000001), some (rv 3000000002), none, none, none, none, none, none, none, none, none, none]) (pc := 57) dL_law_57 (by decide) rfl rfl ?_
      refine x_iconst (pc := 59) dL_law_59 ?_
      refine x_newaw (j := 3) (N := 5) (q := 3000000003) (pc := 60) dL_law_60 (by decide) rfl rfl rfl rfl (fun E277 u278 => ?_)
      refine x_astore (L' := [none, some (rv 130), some (iv a2), some (iv a3), some (iv a4), some (iv a5), some (rv 3000000000), some (rv 3000000001), some (rv 3000000002), some (rv 3000000003), none, none, none, none, none, none, none, none, none]) (pc := 62) dL_law_62 (by decide) rfl rfl ?_
      refine x_iconst (pc := 64) dL_law_64 ?_
      refine x_istore (L' := [none, some (rv 130), some (iv a2), some (iv a3), some (iv a4), some (iv a5), some (rv 3000000000), some (rv 3000000001), some (rv 3000000002), some (rv 3000000003), some (iv 0), none, none, none, none, none, none, none, none]) (pc := 65) dL_law_65 (by decide) rfl rfl ?_
      exact x_sub (ls_n (ls_s (ls_s (ls_s (ls_s (ls_s (ls_s (ls_s (ls_s (ls_s (ls_s (ls_n (ls_n (ls_n (ls_n (ls_n (ls_n (ls_n (ls_n ls_0))))))))))))))))))) (t_L_law_67 Ls xs hLs hLs32 n (m_L_law_35 n t) ih n M E277 u278 a2 a3 a4 a5 0)
def m_L_law_8 (Ls : Nat) (xs : Nat → Int32) (n : Nat) (M E : Mem) (u : Nat) : Rs := bd (m_L_coast Ls xs n M 5) (fun _ M279 => bd (m_X5_count n M279 0) (fun r281 M280 => bd (m_X5_count n M280 1) (fun r283 M282 => bd (m_X5_image n M282) (fun r285 M284 => m_L_law_35 n n M284 E u r281 r283 r285 0))))
theorem t_L_law_8 (Ls : Nat) (xs : Nat → Int32) (hLs : Ls < 2147483648) (hLs32 : I32 (Ls : Int)) (n : Nat) (M E : Mem) (u : Nat) : X RL code 19 8 1 (some (Ls, xs)) 8 [some (rv 158), some (rv 130), none, none, none, none, none, none, none, none, none, none, none, none, none, none, none, none, none] [] M E 0 u (m_L_law_8 Ls xs n M E u) := by
  unfold m_L_law_8
  refine x_aload_n (pc := 8) dL_law_8 rfl ?_
  refine x_aload_n (pc := 9) dL_law_9 rfl ?_
  refine x_iconst (pc := 10) dL_law_10 ?_
  refine x_callSv (pc := 11) s_L_coast l_L_63 dL_law_11 (c_L_coast Ls xs hLs hLs32 n _ _) (fun _ h => h) rfl rfl (by decide) (by decide) (Nat.le_of_ble_eq_true rfl) (fun _ M279 _ => ?_)
  refine x_aload_n (pc := 14) dL_law_14 rfl ?_
  refine x_iconst (pc := 15) dL_law_15 ?_
  refine x_callVi (pc := 16) v_X5_count l_L_47 dL_law_16 (c_X5_count n _ _) (fun _ h => nomatch h) rfl rc_X5 rfl (by decide) (by decide) (Nat.le_of_ble_eq_true rfl) (fun r281 M280 _ => ?_)
  refine x_istore_n (L' := [some (rv 158), some (rv 130), some (iv r281), none, none, none, none, none, none, none, none, none, none, none, none, none, none, none, none]) (pc := 19) dL_law_19 (by decide) rfl rfl ?_
  refine x_aload_n (pc := 20) dL_law_20 rfl ?_
  refine x_iconst (pc := 21) dL_law_21 ?_
  refine x_callVi (pc := 22) v_X5_count l_L_47 dL_law_22 (c_X5_count n _ _) (fun _ h => nomatch h) rfl rc_X5 rfl (by decide) (by decide) (Nat.le_of_ble_eq_true rfl) (fun r283 M282 _ => ?_)
  refine x_istore_n (L' := [some (rv 158), some (rv 130), some (iv r281), some (iv r283), none, none, none, none, none, none, none, none, none, none, none, none, none, none, none]) (pc := 25) dL_law_25 (by decide) rfl rfl ?_
  refine x_aload_n (pc := 26) dL_law_26 rfl ?_
  refine x_callVi (pc := 27) v_X5_image l_L_66 dL_law_27 (c_X5_image n _) (fun _ h => nomatch h) rfl rc_X5 rfl (by decide) (by decide) (Nat.le_of_ble_eq_true rfl) (fun r285 M284 _ => ?_)
  refine x_istore (L' := [some (rv 158), some (rv 130), some (iv r281), some (iv r283), some (iv r285), none, none, none, none, none, none, none, none, none, none, none, none, none, none]) (pc := 30) dL_law_30 (by decide) rfl rfl ?_
  refine x_iconst (pc := 32) dL_law_32 ?_
  refine x_istore (L' := [some (rv 158), some (rv 130), some (iv r281), some (iv r283), some (iv r285), some (iv 0), none, none, none, none, none, none, none, none, none, none, none, none, none]) (pc := 33) dL_law_33 (by decide) rfl rfl ?_
  exact x_sub (ls_n (ls_s (ls_s (ls_s (ls_s (ls_s (ls_n (ls_n (ls_n (ls_n (ls_n (ls_n (ls_n (ls_n (ls_n (ls_n (ls_n (ls_n (ls_n ls_0))))))))))))))))))) (t_L_law_35 Ls xs hLs hLs32 n n M284 E u r281 r283 r285 0)
