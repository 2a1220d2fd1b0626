def lw_g : List Cond := lw_tbl.filter goodWord
theorem gm {w : Cond} {i : Nat} (h : lw_tbl[i]? = some w) (hg : goodWord w = true) : w ∈ lw_g := List.mem_filter.mpr ⟨List.mem_of_getElem? h, hg⟩
abbrev kcl : List vw_C := [(RX0, TX0, 5), (RX3, TX3, 8), (RX4, TX4, 15), (RX5, TX5, 13), (RX6, TX6, 38)]
theorem u_in_of {C : String} {T : u_T} {N : Nat} (h : ∀ k, k < N → u_lay C T k ∈ lw_g) : ∀ w ∈ u_ws C T N, w ∈ lw_g := by
  intro w hw
  obtain ⟨k, hk, rfl⟩ := List.mem_map.mp hw
  exact h k (List.mem_range.mp hk)
def FLk (own : String) (index ci k : Nat) : Prop := ∃ (C : String) (T : u_T) (N : Nat), kcl[ci]? = some (C, T, N) ∧ (∀ w ∈ u_ws C T N, w ∈ lw_g) ∧ k < N ∧ Cond.fieldLink own index (T k).1 (T k).2.1 (T k).2.2.1 ∈ lw_g
def FPk (own : String) (index ci k : Nat) (ft : FieldType) : Prop := ∃ (C : String) (T : u_T) (N : Nat) (ty : Nat → FieldType), kcl[ci]? = some (C, T, N) ∧ (∀ w ∈ u_ws C T N, w ∈ lw_g) ∧ k < N ∧ Cond.fieldLink own index (T k).1 (T k).2.1 (T k).2.2.1 ∈ lw_g ∧ (∀ j, j < N → parseFieldDescriptor (T j).2.2.1 = some (ty j)) ∧ (∀ a, a < N → ∀ b, b < N → a ≠ b → (T a).2.1 ≠ (T b).2.1) ∧ (T k).2.2.2 = false ∧ ty k = ft
def MY (y : MethodName) (b : ByteArray) (n : Nat) (ret : Option FieldType) (np : Nat) : Prop := Cond.initialized y.cls ∈ lw_g ∧ Cond.code y b n ret ∈ lw_g ∧ y.cls ≠ "java/lang/invoke/MethodHandle" ∧ y.cls ≠ "java/lang/invoke/VarHandle" ∧ (parseMethodDescriptor y.desc).map (fun d => d.parameters.length) = some np
def VY (y : MethodName) (b : ByteArray) (n : Nat) (ret : Option FieldType) (np : Nat) : Prop := MY y b n ret np ∧ Cond.instanceMethod y ∈ lw_g ∧ Cond.selects y.cls y y ∈ lw_g
def SY (y : MethodName) (b : ByteArray) (n : Nat) (ret : Option FieldType) (np : Nat) : Prop := MY y b n ret np ∧ Cond.static y ∈ lw_g
theorem fw_X0 : ∀ w ∈ u_ws RX0 TX0 5, w ∈ lw_g := u_in_of (fun k hk => by
  match k, hk with
  | 0, _ => exact gm (i := 235) (by decide +kernel) rfl
  | 1, _ => exact gm (i := 237) (by decide +kernel) rfl
  | 2, _ => exact gm (i := 239) (by decide +kernel) rfl
  | 3, _ => exact gm (i := 241) (by decide +kernel) rfl
  | 4, _ => exact gm (i := 243) (by decide +kernel) rfl
  | k + 5, hk => exact absurd hk (by omega))
theorem fw_X3 : ∀ w ∈ u_ws RX3 TX3 8, w ∈ lw_g := u_in_of (fun k hk => by
  match k, hk with
  | 0, _ => exact gm (i := 210) (by decide +kernel) rfl
  | 1, _ => exact gm (i := 212) (by decide +kernel) rfl
  | 2, _ => exact gm (i := 214) (by decide +kernel) rfl
  | 3, _ => exact gm (i := 216) (by decide +kernel) rfl
  | 4, _ => exact gm (i := 218) (by decide +kernel) rfl
  | 5, _ => exact gm (i := 220) (by decide +kernel) rfl
  | 6, _ => exact gm (i := 222) (by decide +kernel) rfl
  | 7, _ => exact gm (i := 224) (by decide +kernel) rfl
  | k + 8, hk => exact absurd hk (by omega))
theorem fw_X4 : ∀ w ∈ u_ws RX4 TX4 15, w ∈ lw_g := u_in_of (fun k hk => by
  match k, hk with
  | 0, _ => exact gm (i := 154) (by decide +kernel) rfl
  | 1, _ => exact gm (i := 156) (by decide +kernel) rfl
  | 2, _ => exact gm (i := 158) (by decide +kernel) rfl
  | 3, _ => exact gm (i := 160) (by decide +kernel) rfl
  | 4, _ => exact gm (i := 162) (by decide +kernel) rfl
  | 5, _ => exact gm (i := 164) (by decide +kernel) rfl
  | 6, _ => exact gm (i := 166) (by decide +kernel) rfl
  | 7, _ => exact gm (i := 168) (by decide +kernel) rfl
  | 8, _ => exact gm (i := 170) (by decide +kernel) rfl
  | 9, _ => exact gm (i := 172) (by decide +kernel) rfl
  | 10, _ => exact gm (i := 174) (by decide +kernel) rfl
  | 11, _ => exact gm (i := 176) (by decide +kernel) rfl
  | 12, _ => exact gm (i := 178) (by decide +kernel) rfl
  | 13, _ => exact gm (i := 180) (by decide +kernel) rfl
  | 14, _ => exact gm (i := 182) (by decide +kernel) rfl
  | k + 15, hk => exact absurd hk (by omega))
theorem fw_X5 : ∀ w ∈ u_ws RX5 TX5 13, w ∈ lw_g := u_in_of (fun k hk => by
  match k, hk with
  | 0, _ => exact gm (i := 259) (by decide +kernel) rfl
  | 1, _ => exact gm (i := 261) (by decide +kernel) rfl
  | 2, _ => exact gm (i := 263) (by decide +kernel) rfl
  | 3, _ => exact gm (i := 265) (by decide +kernel) rfl
  | 4, _ => exact gm (i := 267) (by decide +kernel) rfl
  | 5, _ => exact gm (i := 269) (by decide +kernel) rfl
  | 6, _ => exact gm (i := 271) (by decide +kernel) rfl
  | 7, _ => exact gm (i := 273) (by decide +kernel) rfl
  | 8, _ => exact gm (i := 275) (by decide +kernel) rfl
  | 9, _ => exact gm (i := 277) (by decide +kernel) rfl
  | 10, _ => exact gm (i := 279) (by decide +kernel) rfl
  | 11, _ => exact gm (i := 281) (by decide +kernel) rfl
  | 12, _ => exact gm (i := 283) (by decide +kernel) rfl
  | k + 13, hk => exact absurd hk (by omega))
theorem fw_X6 : ∀ w ∈ u_ws RX6 TX6 38, w ∈ lw_g := u_in_of (fun k hk => by
  match k, hk with
  | 0, _ => exact gm (i := 809) (by decide +kernel) rfl
  | 1, _ => exact gm (i := 811) (by decide +kernel) rfl
  | 2, _ => exact gm (i := 813) (by decide +kernel) rfl
  | 3, _ => exact gm (i := 815) (by decide +kernel) rfl
  | 4, _ => exact gm (i := 817) (by decide +kernel) rfl
  | 5, _ => exact gm (i := 819) (by decide +kernel) rfl
  | 6, _ => exact gm (i := 821) (by decide +kernel) rfl
  | 7, _ => exact gm (i := 823) (by decide +kernel) rfl
  | 8, _ => exact gm (i := 825) (by decide +kernel) rfl
  | 9, _ => exact gm (i := 827) (by decide +kernel) rfl
  | 10, _ => exact gm (i := 829) (by decide +kernel) rfl
  | 11, _ => exact gm (i := 831) (by decide +kernel) rfl
  | 12, _ => exact gm (i := 833) (by decide +kernel) rfl
  | 13, _ => exact gm (i := 835) (by decide +kernel) rfl
  | 14, _ => exact gm (i := 837) (by decide +kernel) rfl
  | 15, _ => exact gm (i := 839) (by decide +kernel) rfl
  | 16, _ => exact gm (i := 841) (by decide +kernel) rfl
  | 17, _ => exact gm (i := 843) (by decide +kernel) rfl
  | 18, _ => exact gm (i := 845) (by decide +kernel) rfl
  | 19, _ => exact gm (i := 847) (by decide +kernel) rfl
  | 20, _ => exact gm (i := 849) (by decide +kernel) rfl
  | 21, _ => exact gm (i := 851) (by decide +kernel) rfl
  | 22, _ => exact gm (i := 853) (by decide +kernel) rfl
  | 23, _ => exact gm (i := 855) (by decide +kernel) rfl
  | 24, _ => exact gm (i := 857) (by decide +kernel) rfl
  | 25, _ => exact gm (i := 859) (by decide +kernel) rfl
  | 26, _ => exact gm (i := 861) (by decide +kernel) rfl
  | 27, _ => exact gm (i := 863) (by decide +kernel) rfl
  | 28, _ => exact gm (i := 865) (by decide +kernel) rfl
  | 29, _ => exact gm (i := 867) (by decide +kernel) rfl
  | 30, _ => exact gm (i := 869) (by decide +kernel) rfl
  | 31, _ => exact gm (i := 871) (by decide +kernel) rfl
  | 32, _ => exact gm (i := 873) (by decide +kernel) rfl
  | 33, _ => exact gm (i := 875) (by decide +kernel) rfl
  | 34, _ => exact gm (i := 877) (by decide +kernel) rfl
  | 35, _ => exact gm (i := 879) (by decide +kernel) rfl
  | 36, _ => exact gm (i := 881) (by decide +kernel) rfl
  | 37, _ => exact gm (i := 883) (by decide +kernel) rfl
  | k + 38, hk => exact absurd hk (by omega))
theorem f_X4_9 : FLk RX4 9 2 0 := ⟨RX4, TX4, 15, rfl, fw_X4, by decide, gm (i := 109) (by decide +kernel) rfl⟩
theorem f_X3_52 : FLk RX3 52 2 0 := ⟨RX4, TX4, 15, rfl, fw_X4, by decide, gm (i := 110) (by decide +kernel) rfl⟩
theorem f_X5_177 : FLk RX5 177 2 0 := ⟨RX4, TX4, 15, rfl, fw_X4, by decide, gm (i := 111) (by decide +kernel) rfl⟩
theorem f_X4_15 : FLk RX4 15 2 1 := ⟨RX4, TX4, 15, rfl, fw_X4, by decide, gm (i := 112) (by decide +kernel) rfl⟩
theorem f_X3_53 : FLk RX3 53 2 1 := ⟨RX4, TX4, 15, rfl, fw_X4, by decide, gm (i := 113) (by decide +kernel) rfl⟩
theorem f_X5_180 : FLk RX5 180 2 1 := ⟨RX4, TX4, 15, rfl, fw_X4, by decide, gm (i := 114) (by decide +kernel) rfl⟩
theorem f_X4_18 : FLk RX4 18 2 2 := ⟨RX4, TX4, 15, rfl, fw_X4, by decide, gm (i := 115) (by decide +kernel) rfl⟩
theorem f_X3_54 : FLk RX3 54 2 2 := ⟨RX4, TX4, 15, rfl, fw_X4, by decide, gm (i := 116) (by decide +kernel) rfl⟩
theorem f_X5_183 : FLk RX5 183 2 2 := ⟨RX4, TX4, 15, rfl, fw_X4, by decide, gm (i := 117) (by decide +kernel) rfl⟩
theorem f_X4_21 : FLk RX4 21 2 3 := ⟨RX4, TX4, 15, rfl, fw_X4, by decide, gm (i := 118) (by decide +kernel) rfl⟩
theorem p_X4_21 : FPk RX4 21 2 3 .int := ⟨RX4, TX4, 15, tyX4, rfl, fw_X4, by decide, gm (i := 118) (by decide +kernel) rfl, tyX4_ok, nmX4, rfl, rfl⟩
theorem f_X3_49 : FLk RX3 49 2 3 := ⟨RX4, TX4, 15, rfl, fw_X4, by decide, gm (i := 119) (by decide +kernel) rfl⟩
theorem p_X3_49 : FPk RX3 49 2 3 .int := ⟨RX4, TX4, 15, tyX4, rfl, fw_X4, by decide, gm (i := 119) (by decide +kernel) rfl, tyX4_ok, nmX4, rfl, rfl⟩
theorem f_X5_210 : FLk RX5 210 2 3 := ⟨RX4, TX4, 15, rfl, fw_X4, by decide, gm (i := 120) (by decide +kernel) rfl⟩
theorem p_X5_210 : FPk RX5 210 2 3 .int := ⟨RX4, TX4, 15, tyX4, rfl, fw_X4, by decide, gm (i := 120) (by decide +kernel) rfl, tyX4_ok, nmX4, rfl, rfl⟩
theorem f_X4_25 : FLk RX4 25 2 4 := ⟨RX4, TX4, 15, rfl, fw_X4, by decide, gm (i := 121) (by decide +kernel) rfl⟩
theorem f_X0_120 : FLk RX0 120 2 4 := ⟨RX4, TX4, 15, rfl, fw_X4, by decide, gm (i := 122) (by decide +kernel) rfl⟩
theorem f_X5_162 : FLk RX5 162 2 4 := ⟨RX4, TX4, 15, rfl, fw_X4, by decide, gm (i := 123) (by decide +kernel) rfl⟩
theorem f_X4_28 : FLk RX4 28 2 5 := ⟨RX4, TX4, 15, rfl, fw_X4, by decide, gm (i := 124) (by decide +kernel) rfl⟩
theorem f_X0_108 : FLk RX0 108 2 5 := ⟨RX4, TX4, 15, rfl, fw_X4, by decide, gm (i := 125) (by decide +kernel) rfl⟩
theorem f_X5_165 : FLk RX5 165 2 5 := ⟨RX4, TX4, 15, rfl, fw_X4, by decide, gm (i := 126) (by decide +kernel) rfl⟩
theorem f_X4_31 : FLk RX4 31 2 6 := ⟨RX4, TX4, 15, rfl, fw_X4, by decide, gm (i := 127) (by decide +kernel) rfl⟩
theorem f_X0_111 : FLk RX0 111 2 6 := ⟨RX4, TX4, 15, rfl, fw_X4, by decide, gm (i := 128) (by decide +kernel) rfl⟩
theorem f_X5_168 : FLk RX5 168 2 6 := ⟨RX4, TX4, 15, rfl, fw_X4, by decide, gm (i := 129) (by decide +kernel) rfl⟩
theorem f_X4_34 : FLk RX4 34 2 7 := ⟨RX4, TX4, 15, rfl, fw_X4, by decide, gm (i := 130) (by decide +kernel) rfl⟩
theorem p_X4_34 : FPk RX4 34 2 7 .int := ⟨RX4, TX4, 15, tyX4, rfl, fw_X4, by decide, gm (i := 130) (by decide +kernel) rfl, tyX4_ok, nmX4, rfl, rfl⟩
theorem f_X0_105 : FLk RX0 105 2 7 := ⟨RX4, TX4, 15, rfl, fw_X4, by decide, gm (i := 131) (by decide +kernel) rfl⟩
theorem p_X0_105 : FPk RX0 105 2 7 .int := ⟨RX4, TX4, 15, tyX4, rfl, fw_X4, by decide, gm (i := 131) (by decide +kernel) rfl, tyX4_ok, nmX4, rfl, rfl⟩
theorem f_X5_207 : FLk RX5 207 2 7 := ⟨RX4, TX4, 15, rfl, fw_X4, by decide, gm (i := 132) (by decide +kernel) rfl⟩
theorem p_X5_207 : FPk RX5 207 2 7 .int := ⟨RX4, TX4, 15, tyX4, rfl, fw_X4, by decide, gm (i := 132) (by decide +kernel) rfl, tyX4_ok, nmX4, rfl, rfl⟩
theorem f_X4_37 : FLk RX4 37 2 8 := ⟨RX4, TX4, 15, rfl, fw_X4, by decide, gm (i := 133) (by decide +kernel) rfl⟩
theorem f_X0_64 : FLk RX0 64 2 8 := ⟨RX4, TX4, 15, rfl, fw_X4, by decide, gm (i := 134) (by decide +kernel) rfl⟩
theorem f_X5_126 : FLk RX5 126 2 8 := ⟨RX4, TX4, 15, rfl, fw_X4, by decide, gm (i := 135) (by decide +kernel) rfl⟩
theorem f_X4_40 : FLk RX4 40 2 9 := ⟨RX4, TX4, 15, rfl, fw_X4, by decide, gm (i := 136) (by decide +kernel) rfl⟩
theorem f_X0_67 : FLk RX0 67 2 9 := ⟨RX4, TX4, 15, rfl, fw_X4, by decide, gm (i := 137) (by decide +kernel) rfl⟩
theorem f_X5_129 : FLk RX5 129 2 9 := ⟨RX4, TX4, 15, rfl, fw_X4, by decide, gm (i := 138) (by decide +kernel) rfl⟩
theorem f_X4_43 : FLk RX4 43 2 10 := ⟨RX4, TX4, 15, rfl, fw_X4, by decide, gm (i := 139) (by decide +kernel) rfl⟩
theorem f_X5_132 : FLk RX5 132 2 10 := ⟨RX4, TX4, 15, rfl, fw_X4, by decide, gm (i := 140) (by decide +kernel) rfl⟩
theorem f_X0_137 : FLk RX0 137 2 10 := ⟨RX4, TX4, 15, rfl, fw_X4, by decide, gm (i := 141) (by decide +kernel) rfl⟩
theorem f_X4_46 : FLk RX4 46 2 11 := ⟨RX4, TX4, 15, rfl, fw_X4, by decide, gm (i := 142) (by decide +kernel) rfl⟩
theorem f_X0_61 : FLk RX0 61 2 11 := ⟨RX4, TX4, 15, rfl, fw_X4, by decide, gm (i := 143) (by decide +kernel) rfl⟩
theorem f_X5_135 : FLk RX5 135 2 11 := ⟨RX4, TX4, 15, rfl, fw_X4, by decide, gm (i := 144) (by decide +kernel) rfl⟩
theorem f_X4_49 : FLk RX4 49 2 12 := ⟨RX4, TX4, 15, rfl, fw_X4, by decide, gm (i := 145) (by decide +kernel) rfl⟩
theorem p_X4_49 : FPk RX4 49 2 12 .int := ⟨RX4, TX4, 15, tyX4, rfl, fw_X4, by decide, gm (i := 145) (by decide +kernel) rfl, tyX4_ok, nmX4, rfl, rfl⟩
theorem f_X0_58 : FLk RX0 58 2 12 := ⟨RX4, TX4, 15, rfl, fw_X4, by decide, gm (i := 146) (by decide +kernel) rfl⟩
theorem p_X0_58 : FPk RX0 58 2 12 .int := ⟨RX4, TX4, 15, tyX4, rfl, fw_X4, by decide, gm (i := 146) (by decide +kernel) rfl, tyX4_ok, nmX4, rfl, rfl⟩
theorem f_X5_204 : FLk RX5 204 2 12 := ⟨RX4, TX4, 15, rfl, fw_X4, by decide, gm (i := 147) (by decide +kernel) rfl⟩
theorem p_X5_204 : FPk RX5 204 2 12 .int := ⟨RX4, TX4, 15, tyX4, rfl, fw_X4, by decide, gm (i := 147) (by decide +kernel) rfl, tyX4_ok, nmX4, rfl, rfl⟩
theorem f_X4_52 : FLk RX4 52 2 13 := ⟨RX4, TX4, 15, rfl, fw_X4, by decide, gm (i := 148) (by decide +kernel) rfl⟩
theorem p_X4_52 : FPk RX4 52 2 13 .int := ⟨RX4, TX4, 15, tyX4, rfl, fw_X4, by decide, gm (i := 148) (by decide +kernel) rfl, tyX4_ok, nmX4, rfl, rfl⟩
theorem f_X0_43 : FLk RX0 43 2 13 := ⟨RX4, TX4, 15, rfl, fw_X4, by decide, gm (i := 149) (by decide +kernel) rfl⟩
theorem p_X0_43 : FPk RX0 43 2 13 .int := ⟨RX4, TX4, 15, tyX4, rfl, fw_X4, by decide, gm (i := 149) (by decide +kernel) rfl, tyX4_ok, nmX4, rfl, rfl⟩
theorem f_X5_116 : FLk RX5 116 2 13 := ⟨RX4, TX4, 15, rfl, fw_X4, by decide, gm (i := 150) (by decide +kernel) rfl⟩
theorem p_X5_116 : FPk RX5 116 2 13 .int := ⟨RX4, TX4, 15, tyX4, rfl, fw_X4, by decide, gm (i := 150) (by decide +kernel) rfl, tyX4_ok, nmX4, rfl, rfl⟩
theorem f_X4_55 : FLk RX4 55 2 14 := ⟨RX4, TX4, 15, rfl, fw_X4, by decide, gm (i := 151) (by decide +kernel) rfl⟩
theorem p_X4_55 : FPk RX4 55 2 14 .int := ⟨RX4, TX4, 15, tyX4, rfl, fw_X4, by decide, gm (i := 151) (by decide +kernel) rfl, tyX4_ok, nmX4, rfl, rfl⟩
theorem f_X0_84 : FLk RX0 84 2 14 := ⟨RX4, TX4, 15, rfl, fw_X4, by decide, gm (i := 152) (by decide +kernel) rfl⟩
theorem p_X0_84 : FPk RX0 84 2 14 .int := ⟨RX4, TX4, 15, tyX4, rfl, fw_X4, by decide, gm (i := 152) (by decide +kernel) rfl, tyX4_ok, nmX4, rfl, rfl⟩
theorem f_X5_107 : FLk RX5 107 2 14 := ⟨RX4, TX4, 15, rfl, fw_X4, by decide, gm (i := 153) (by decide +kernel) rfl⟩
theorem p_X5_107 : FPk RX5 107 2 14 .int := ⟨RX4, TX4, 15, tyX4, rfl, fw_X4, by decide, gm (i := 153) (by decide +kernel) rfl, tyX4_ok, nmX4, rfl, rfl⟩
theorem f_X3_9 : FLk RX3 9 1 0 := ⟨RX3, TX3, 8, rfl, fw_X3, by decide, gm (i := 201) (by decide +kernel) rfl⟩
theorem f_X3_15 : FLk RX3 15 1 1 := ⟨RX3, TX3, 8, rfl, fw_X3, by decide, gm (i := 202) (by decide +kernel) rfl⟩
theorem f_X3_18 : FLk RX3 18 1 2 := ⟨RX3, TX3, 8, rfl, fw_X3, by decide, gm (i := 203) (by decide +kernel) rfl⟩
theorem f_X3_21 : FLk RX3 21 1 3 := ⟨RX3, TX3, 8, rfl, fw_X3, by decide, gm (i := 204) (by decide +kernel) rfl⟩
theorem p_X3_21 : FPk RX3 21 1 3 .int := ⟨RX3, TX3, 8, tyX3, rfl, fw_X3, by decide, gm (i := 204) (by decide +kernel) rfl, tyX3_ok, nmX3, rfl, rfl⟩
theorem f_X3_25 : FLk RX3 25 1 4 := ⟨RX3, TX3, 8, rfl, fw_X3, by decide, gm (i := 205) (by decide +kernel) rfl⟩
theorem f_X0_50 : FLk RX0 50 1 4 := ⟨RX3, TX3, 8, rfl, fw_X3, by decide, gm (i := 206) (by decide +kernel) rfl⟩
theorem f_X3_28 : FLk RX3 28 1 5 := ⟨RX3, TX3, 8, rfl, fw_X3, by decide, gm (i := 207) (by decide +kernel) rfl⟩
theorem f_X3_31 : FLk RX3 31 1 6 := ⟨RX3, TX3, 8, rfl, fw_X3, by decide, gm (i := 208) (by decide +kernel) rfl⟩
theorem f_X3_34 : FLk RX3 34 1 7 := ⟨RX3, TX3, 8, rfl, fw_X3, by decide, gm (i := 209) (by decide +kernel) rfl⟩
theorem f_X0_12 : FLk RX0 12 0 0 := ⟨RX0, TX0, 5, rfl, fw_X0, by decide, gm (i := 227) (by decide +kernel) rfl⟩
theorem f_X5_81 : FLk RX5 81 0 0 := ⟨RX0, TX0, 5, rfl, fw_X0, by decide, gm (i := 228) (by decide +kernel) rfl⟩
theorem f_X0_21 : FLk RX0 21 0 1 := ⟨RX0, TX0, 5, rfl, fw_X0, by decide, gm (i := 229) (by decide +kernel) rfl⟩
theorem f_X0_25 : FLk RX0 25 0 2 := ⟨RX0, TX0, 5, rfl, fw_X0, by decide, gm (i := 230) (by decide +kernel) rfl⟩
theorem p_X0_25 : FPk RX0 25 0 2 .int := ⟨RX0, TX0, 5, tyX0, rfl, fw_X0, by decide, gm (i := 230) (by decide +kernel) rfl, tyX0_ok, nmX0, rfl, rfl⟩
theorem f_X0_29 : FLk RX0 29 0 3 := ⟨RX0, TX0, 5, rfl, fw_X0, by decide, gm (i := 231) (by decide +kernel) rfl⟩
theorem p_X0_29 : FPk RX0 29 0 3 .int := ⟨RX0, TX0, 5, tyX0, rfl, fw_X0, by decide, gm (i := 231) (by decide +kernel) rfl, tyX0_ok, nmX0, rfl, rfl⟩
theorem f_X5_236 : FLk RX5 236 0 3 := ⟨RX0, TX0, 5, rfl, fw_X0, by decide, gm (i := 232) (by decide +kernel) rfl⟩
theorem p_X5_236 : FPk RX5 236 0 3 .int := ⟨RX0, TX0, 5, tyX0, rfl, fw_X0, by decide, gm (i := 232) (by decide +kernel) rfl, tyX0_ok, nmX0, rfl, rfl⟩
theorem f_X0_32 : FLk RX0 32 0 4 := ⟨RX0, TX0, 5, rfl, fw_X0, by decide, gm (i := 233) (by decide +kernel) rfl⟩
theorem p_X0_32 : FPk RX0 32 0 4 .boolean := ⟨RX0, TX0, 5, tyX0, rfl, fw_X0, by decide, gm (i := 233) (by decide +kernel) rfl, tyX0_ok, nmX0, rfl, rfl⟩
theorem f_X5_276 : FLk RX5 276 0 4 := ⟨RX0, TX0, 5, rfl, fw_X0, by decide, gm (i := 234) (by decide +kernel) rfl⟩
theorem p_X5_276 : FPk RX5 276 0 4 .boolean := ⟨RX0, TX0, 5, tyX0, rfl, fw_X0, by decide, gm (i := 234) (by decide +kernel) rfl, tyX0_ok, nmX0, rfl, rfl⟩
theorem f_X5_10 : FLk RX5 10 3 0 := ⟨RX5, TX5, 13, rfl, fw_X5, by decide, gm (i := 246) (by decide +kernel) rfl⟩
theorem f_X5_16 : FLk RX5 16 3 1 := ⟨RX5, TX5, 13, rfl, fw_X5, by decide, gm (i := 247) (by decide +kernel) rfl⟩
theorem f_X5_19 : FLk RX5 19 3 2 := ⟨RX5, TX5, 13, rfl, fw_X5, by decide, gm (i := 248) (by decide +kernel) rfl⟩
theorem p_X5_19 : FPk RX5 19 3 2 .boolean := ⟨RX5, TX5, 13, tyX5, rfl, fw_X5, by decide, gm (i := 248) (by decide +kernel) rfl, tyX5_ok, nmX5, rfl, rfl⟩
theorem f_X5_23 : FLk RX5 23 3 3 := ⟨RX5, TX5, 13, rfl, fw_X5, by decide, gm (i := 249) (by decide +kernel) rfl⟩
theorem f_X5_27 : FLk RX5 27 3 4 := ⟨RX5, TX5, 13, rfl, fw_X5, by decide, gm (i := 250) (by decide +kernel) rfl⟩
theorem p_X5_27 : FPk RX5 27 3 4 .int := ⟨RX5, TX5, 13, tyX5, rfl, fw_X5, by decide, gm (i := 250) (by decide +kernel) rfl, tyX5_ok, nmX5, rfl, rfl⟩
theorem f_X5_31 : FLk RX5 31 3 5 := ⟨RX5, TX5, 13, rfl, fw_X5, by decide, gm (i := 251) (by decide +kernel) rfl⟩
theorem f_X5_35 : FLk RX5 35 3 6 := ⟨RX5, TX5, 13, rfl, fw_X5, by decide, gm (i := 252) (by decide +kernel) rfl⟩
theorem p_X5_35 : FPk RX5 35 3 6 .int := ⟨RX5, TX5, 13, tyX5, rfl, fw_X5, by decide, gm (i := 252) (by decide +kernel) rfl, tyX5_ok, nmX5, rfl, rfl⟩
theorem f_X5_38 : FLk RX5 38 3 7 := ⟨RX5, TX5, 13, rfl, fw_X5, by decide, gm (i := 253) (by decide +kernel) rfl⟩
theorem f_X5_41 : FLk RX5 41 3 8 := ⟨RX5, TX5, 13, rfl, fw_X5, by decide, gm (i := 254) (by decide +kernel) rfl⟩
theorem p_X5_41 : FPk RX5 41 3 8 .int := ⟨RX5, TX5, 13, tyX5, rfl, fw_X5, by decide, gm (i := 254) (by decide +kernel) rfl, tyX5_ok, nmX5, rfl, rfl⟩
theorem f_X5_44 : FLk RX5 44 3 9 := ⟨RX5, TX5, 13, rfl, fw_X5, by decide, gm (i := 255) (by decide +kernel) rfl⟩
theorem f_X5_50 : FLk RX5 50 3 10 := ⟨RX5, TX5, 13, rfl, fw_X5, by decide, gm (i := 256) (by decide +kernel) rfl⟩
theorem f_X5_54 : FLk RX5 54 3 11 := ⟨RX5, TX5, 13, rfl, fw_X5, by decide, gm (i := 257) (by decide +kernel) rfl⟩
theorem f_X5_57 : FLk RX5 57 3 12 := ⟨RX5, TX5, 13, rfl, fw_X5, by decide, gm (i := 258) (by decide +kernel) rfl⟩
theorem f_X6_7 : FLk RX6 7 4 0 := ⟨RX6, TX6, 38, rfl, fw_X6, by decide, gm (i := 771) (by decide +kernel) rfl⟩
theorem f_X6_13 : FLk RX6 13 4 1 := ⟨RX6, TX6, 38, rfl, fw_X6, by decide, gm (i := 772) (by decide +kernel) rfl⟩
theorem f_X6_16 : FLk RX6 16 4 2 := ⟨RX6, TX6, 38, rfl, fw_X6, by decide, gm (i := 773) (by decide +kernel) rfl⟩
theorem f_X6_19 : FLk RX6 19 4 3 := ⟨RX6, TX6, 38, rfl, fw_X6, by decide, gm (i := 774) (by decide +kernel) rfl⟩
theorem f_X6_22 : FLk RX6 22 4 4 := ⟨RX6, TX6, 38, rfl, fw_X6, by decide, gm (i := 775) (by decide +kernel) rfl⟩
theorem f_X6_25 : FLk RX6 25 4 5 := ⟨RX6, TX6, 38, rfl, fw_X6, by decide, gm (i := 776) (by decide +kernel) rfl⟩
theorem f_X6_28 : FLk RX6 28 4 6 := ⟨RX6, TX6, 38, rfl, fw_X6, by decide, gm (i := 777) (by decide +kernel) rfl⟩
theorem f_X6_31 : FLk RX6 31 4 7 := ⟨RX6, TX6, 38, rfl, fw_X6, by decide, gm (i := 778) (by decide +kernel) rfl⟩
theorem f_X6_34 : FLk RX6 34 4 8 := ⟨RX6, TX6, 38, rfl, fw_X6, by decide, gm (i := 779) (by decide +kernel) rfl⟩
theorem f_X6_37 : FLk RX6 37 4 9 := ⟨RX6, TX6, 38, rfl, fw_X6, by decide, gm (i := 780) (by decide +kernel) rfl⟩
theorem f_X6_40 : FLk RX6 40 4 10 := ⟨RX6, TX6, 38, rfl, fw_X6, by decide, gm (i := 781) (by decide +kernel) rfl⟩
theorem f_X6_79 : FLk RX6 79 4 11 := ⟨RX6, TX6, 38, rfl, fw_X6, by decide, gm (i := 782) (by decide +kernel) rfl⟩
theorem p_X6_79 : FPk RX6 79 4 11 .int := ⟨RX6, TX6, 38, tyX6, rfl, fw_X6, by decide, gm (i := 782) (by decide +kernel) rfl, tyX6_ok, nmX6, rfl, rfl⟩
theorem f_X6_86 : FLk RX6 86 4 12 := ⟨RX6, TX6, 38, rfl, fw_X6, by decide, gm (i := 783) (by decide +kernel) rfl⟩
theorem p_X6_86 : FPk RX6 86 4 12 .int := ⟨RX6, TX6, 38, tyX6, rfl, fw_X6, by decide, gm (i := 783) (by decide +kernel) rfl, tyX6_ok, nmX6, rfl, rfl⟩
theorem f_X6_89 : FLk RX6 89 4 13 := ⟨RX6, TX6, 38, rfl, fw_X6, by decide, gm (i := 784) (by decide +kernel) rfl⟩
theorem p_X6_89 : FPk RX6 89 4 13 .int := ⟨RX6, TX6, 38, tyX6, rfl, fw_X6, by decide, gm (i := 784) (by decide +kernel) rfl, tyX6_ok, nmX6, rfl, rfl⟩
theorem f_X6_74 : FLk RX6 74 4 14 := ⟨RX6, TX6, 38, rfl, fw_X6, by decide, gm (i := 785) (by decide +kernel) rfl⟩
theorem p_X6_74 : FPk RX6 74 4 14 .int := ⟨RX6, TX6, 38, tyX6, rfl, fw_X6, by decide, gm (i := 785) (by decide +kernel) rfl, tyX6_ok, nmX6, rfl, rfl⟩
theorem f_X6_114 : FLk RX6 114 4 15 := ⟨RX6, TX6, 38, rfl, fw_X6, by decide, gm (i := 786) (by decide +kernel) rfl⟩
theorem p_X6_114 : FPk RX6 114 4 15 .int := ⟨RX6, TX6, 38, tyX6, rfl, fw_X6, by decide, gm (i := 786) (by decide +kernel) rfl, tyX6_ok, nmX6, rfl, rfl⟩
theorem f_X6_43 : FLk RX6 43 4 16 := ⟨RX6, TX6, 38, rfl, fw_X6, by decide, gm (i := 787) (by decide +kernel) rfl⟩
theorem f_X6_46 : FLk RX6 46 4 17 := ⟨RX6, TX6, 38, rfl, fw_X6, by decide, gm (i := 788) (by decide +kernel) rfl⟩
theorem f_X6_49 : FLk RX6 49 4 18 := ⟨RX6, TX6, 38, rfl, fw_X6, by decide, gm (i := 789) (by decide +kernel) rfl⟩
theorem p_X6_49 : FPk RX6 49 4 18 .int := ⟨RX6, TX6, 38, tyX6, rfl, fw_X6, by decide, gm (i := 789) (by decide +kernel) rfl, tyX6_ok, nmX6, rfl, rfl⟩
theorem f_X6_103 : FLk RX6 103 4 19 := ⟨RX6, TX6, 38, rfl, fw_X6, by decide, gm (i := 790) (by decide +kernel) rfl⟩
theorem p_X6_103 : FPk RX6 103 4 19 .boolean := ⟨RX6, TX6, 38, tyX6, rfl, fw_X6, by decide, gm (i := 790) (by decide +kernel) rfl, tyX6_ok, nmX6, rfl, rfl⟩
theorem f_X6_53 : FLk RX6 53 4 20 := ⟨RX6, TX6, 38, rfl, fw_X6, by decide, gm (i := 791) (by decide +kernel) rfl⟩
theorem f_X6_56 : FLk RX6 56 4 21 := ⟨RX6, TX6, 38, rfl, fw_X6, by decide, gm (i := 792) (by decide +kernel) rfl⟩
theorem f_X6_59 : FLk RX6 59 4 22 := ⟨RX6, TX6, 38, rfl, fw_X6, by decide, gm (i := 793) (by decide +kernel) rfl⟩
theorem f_X6_62 : FLk RX6 62 4 23 := ⟨RX6, TX6, 38, rfl, fw_X6, by decide, gm (i := 794) (by decide +kernel) rfl⟩
theorem f_X6_169 : FLk RX6 169 4 24 := ⟨RX6, TX6, 38, rfl, fw_X6, by decide, gm (i := 795) (by decide +kernel) rfl⟩
theorem p_X6_169 : FPk RX6 169 4 24 .int := ⟨RX6, TX6, 38, tyX6, rfl, fw_X6, by decide, gm (i := 795) (by decide +kernel) rfl, tyX6_ok, nmX6, rfl, rfl⟩
theorem f_X6_175 : FLk RX6 175 4 25 := ⟨RX6, TX6, 38, rfl, fw_X6, by decide, gm (i := 796) (by decide +kernel) rfl⟩
theorem p_X6_175 : FPk RX6 175 4 25 .int := ⟨RX6, TX6, 38, tyX6, rfl, fw_X6, by decide, gm (i := 796) (by decide +kernel) rfl, tyX6_ok, nmX6, rfl, rfl⟩
theorem f_X6_188 : FLk RX6 188 4 26 := ⟨RX6, TX6, 38, rfl, fw_X6, by decide, gm (i := 797) (by decide +kernel) rfl⟩
theorem p_X6_188 : FPk RX6 188 4 26 .int := ⟨RX6, TX6, 38, tyX6, rfl, fw_X6, by decide, gm (i := 797) (by decide +kernel) rfl, tyX6_ok, nmX6, rfl, rfl⟩
theorem f_X6_182 : FLk RX6 182 4 27 := ⟨RX6, TX6, 38, rfl, fw_X6, by decide, gm (i := 798) (by decide +kernel) rfl⟩
theorem p_X6_182 : FPk RX6 182 4 27 .int := ⟨RX6, TX6, 38, tyX6, rfl, fw_X6, by decide, gm (i := 798) (by decide +kernel) rfl, tyX6_ok, nmX6, rfl, rfl⟩
theorem f_X6_65 : FLk RX6 65 4 28 := ⟨RX6, TX6, 38, rfl, fw_X6, by decide, gm (i := 799) (by decide +kernel) rfl⟩
theorem f_X6_261 : FLk RX6 261 4 29 := ⟨RX6, TX6, 38, rfl, fw_X6, by decide, gm (i := 800) (by decide +kernel) rfl⟩
theorem p_X6_261 : FPk RX6 261 4 29 .boolean := ⟨RX6, TX6, 38, tyX6, rfl, fw_X6, by decide, gm (i := 800) (by decide +kernel) rfl, tyX6_ok, nmX6, rfl, rfl⟩
theorem f_X6_245 : FLk RX6 245 4 30 := ⟨RX6, TX6, 38, rfl, fw_X6, by decide, gm (i := 801) (by decide +kernel) rfl⟩
theorem p_X6_245 : FPk RX6 245 4 30 .boolean := ⟨RX6, TX6, 38, tyX6, rfl, fw_X6, by decide, gm (i := 801) (by decide +kernel) rfl, tyX6_ok, nmX6, rfl, rfl⟩
theorem f_X6_248 : FLk RX6 248 4 31 := ⟨RX6, TX6, 38, rfl, fw_X6, by decide, gm (i := 802) (by decide +kernel) rfl⟩
theorem p_X6_248 : FPk RX6 248 4 31 .int := ⟨RX6, TX6, 38, tyX6, rfl, fw_X6, by decide, gm (i := 802) (by decide +kernel) rfl, tyX6_ok, nmX6, rfl, rfl⟩
theorem f_X6_258 : FLk RX6 258 4 32 := ⟨RX6, TX6, 38, rfl, fw_X6, by decide, gm (i := 803) (by decide +kernel) rfl⟩
theorem p_X6_258 : FPk RX6 258 4 32 .int := ⟨RX6, TX6, 38, tyX6, rfl, fw_X6, by decide, gm (i := 803) (by decide +kernel) rfl, tyX6_ok, nmX6, rfl, rfl⟩
theorem f_X6_242 : FLk RX6 242 4 33 := ⟨RX6, TX6, 38, rfl, fw_X6, by decide, gm (i := 804) (by decide +kernel) rfl⟩
theorem p_X6_242 : FPk RX6 242 4 33 .int := ⟨RX6, TX6, 38, tyX6, rfl, fw_X6, by decide, gm (i := 804) (by decide +kernel) rfl, tyX6_ok, nmX6, rfl, rfl⟩
theorem f_X6_68 : FLk RX6 68 4 34 := ⟨RX6, TX6, 38, rfl, fw_X6, by decide, gm (i := 805) (by decide +kernel) rfl⟩
theorem f_X6_305 : FLk RX6 305 4 35 := ⟨RX6, TX6, 38, rfl, fw_X6, by decide, gm (i := 806) (by decide +kernel) rfl⟩
theorem p_X6_305 : FPk RX6 305 4 35 .int := ⟨RX6, TX6, 38, tyX6, rfl, fw_X6, by decide, gm (i := 806) (by decide +kernel) rfl, tyX6_ok, nmX6, rfl, rfl⟩
theorem f_X6_71 : FLk RX6 71 4 36 := ⟨RX6, TX6, 38, rfl, fw_X6, by decide, gm (i := 807) (by decide +kernel) rfl⟩
theorem f_X6_357 : FLk RX6 357 4 37 := ⟨RX6, TX6, 38, rfl, fw_X6, by decide, gm (i := 808) (by decide +kernel) rfl⟩
theorem p_X6_357 : FPk RX6 357 4 37 .int := ⟨RX6, TX6, 38, tyX6, rfl, fw_X6, by decide, gm (i := 808) (by decide +kernel) rfl, tyX6_ok, nmX6, rfl, rfl⟩
theorem v_X5_feed : VY yX5_feed cX5_feed 2 (some .int) 1 := ⟨⟨gm (i := 85) (by decide +kernel) rfl, gm (i := 289) (by decide +kernel) rfl, by decide +kernel, by decide +kernel, by decide +kernel⟩, gm (i := 287) (by decide +kernel) rfl, gm (i := 288) (by decide +kernel) rfl⟩
theorem v_X5_refuse : VY yX5_refuse cX5_refuse 3 (some .int) 1 := ⟨⟨gm (i := 85) (by decide +kernel) rfl, gm (i := 293) (by decide +kernel) rfl, by decide +kernel, by decide +kernel, by decide +kernel⟩, gm (i := 292) (by decide +kernel) rfl, gm (i := 0) (by decide +kernel) rfl⟩
theorem v_X5_coast : VY yX5_coast cX5_coast 5 (some .int) 0 := ⟨⟨gm (i := 85) (by decide +kernel) rfl, gm (i := 297) (by decide +kernel) rfl, by decide +kernel, by decide +kernel, by decide +kernel⟩, gm (i := 295) (by decide +kernel) rfl, gm (i := 296) (by decide +kernel) rfl⟩
theorem v_X5_wrongLetter : VY yX5_wrongLetter cX5_wrongLetter 5 (some .int) 1 := ⟨⟨gm (i := 85) (by decide +kernel) rfl, gm (i := 301) (by decide +kernel) rfl, by decide +kernel, by decide +kernel, by decide +kernel⟩, gm (i := 300) (by decide +kernel) rfl, gm (i := 1) (by decide +kernel) rfl⟩
theorem v_X5_letterAt : VY yX5_letterAt cX5_letterAt 2 (some .int) 1 := ⟨⟨gm (i := 85) (by decide +kernel) rfl, gm (i := 305) (by decide +kernel) rfl, by decide +kernel, by decide +kernel, by decide +kernel⟩, gm (i := 304) (by decide +kernel) rfl, gm (i := 2) (by decide +kernel) rfl⟩
theorem s_X5_digitsBehind : SY yX5_digitsBehind cX5_digitsBehind 1 (some .int) 1 := ⟨⟨gm (i := 85) (by decide +kernel) rfl, gm (i := 308) (by decide +kernel) rfl, by decide +kernel, by decide +kernel, by decide +kernel⟩, gm (i := 307) (by decide +kernel) rfl⟩
theorem s_X5_isDigit : SY yX5_isDigit cX5_isDigit 1 (some .boolean) 1 := ⟨⟨gm (i := 85) (by decide +kernel) rfl, gm (i := 311) (by decide +kernel) rfl, by decide +kernel, by decide +kernel, by decide +kernel⟩, gm (i := 310) (by decide +kernel) rfl⟩
theorem v_X0_begin : VY yX0_begin cX0_begin 2 none 1 := ⟨⟨gm (i := 87) (by decide +kernel) rfl, gm (i := 315) (by decide +kernel) rfl, by decide +kernel, by decide +kernel, by decide +kernel⟩, gm (i := 313) (by decide +kernel) rfl, gm (i := 314) (by decide +kernel) rfl⟩
theorem v_X4_become : VY yX4_become cX4_become 2 none 1 := ⟨⟨gm (i := 86) (by decide +kernel) rfl, gm (i := 319) (by decide +kernel) rfl, by decide +kernel, by decide +kernel, by decide +kernel⟩, gm (i := 317) (by decide +kernel) rfl, gm (i := 318) (by decide +kernel) rfl⟩
theorem v_X0_look : VY yX0_look cX0_look 1 none 0 := ⟨⟨gm (i := 87) (by decide +kernel) rfl, gm (i := 326) (by decide +kernel) rfl, by decide +kernel, by decide +kernel, by decide +kernel⟩, gm (i := 324) (by decide +kernel) rfl, gm (i := 325) (by decide +kernel) rfl⟩
theorem v_X3_rowOf : VY yX3_rowOf cX3_rowOf 6 (some .int) 2 := ⟨⟨gm (i := 88) (by decide +kernel) rfl, gm (i := 330) (by decide +kernel) rfl, by decide +kernel, by decide +kernel, by decide +kernel⟩, gm (i := 328) (by decide +kernel) rfl, gm (i := 329) (by decide +kernel) rfl⟩
theorem v_X3_isOf : VY yX3_isOf cX3_isOf 3 (some .boolean) 1 := ⟨⟨gm (i := 88) (by decide +kernel) rfl, gm (i := 334) (by decide +kernel) rfl, by decide +kernel, by decide +kernel, by decide +kernel⟩, gm (i := 333) (by decide +kernel) rfl, gm (i := 3) (by decide +kernel) rfl⟩
theorem v_X3_turnTo : VY yX3_turnTo cX3_turnTo 3 none 1 := ⟨⟨gm (i := 88) (by decide +kernel) rfl, gm (i := 338) (by decide +kernel) rfl, by decide +kernel, by decide +kernel, by decide +kernel⟩, gm (i := 337) (by decide +kernel) rfl, gm (i := 4) (by decide +kernel) rfl⟩
theorem v_X3_airAt : VY yX3_airAt cX3_airAt 7 (some .int) 2 := ⟨⟨gm (i := 88) (by decide +kernel) rfl, gm (i := 343) (by decide +kernel) rfl, by decide +kernel, by decide +kernel, by decide +kernel⟩, gm (i := 342) (by decide +kernel) rfl, gm (i := 5) (by decide +kernel) rfl⟩
theorem v_X3_airOfFront : VY yX3_airOfFront cX3_airOfFront 11 (some .int) 4 := ⟨⟨gm (i := 88) (by decide +kernel) rfl, gm (i := 350) (by decide +kernel) rfl, by decide +kernel, by decide +kernel, by decide +kernel⟩, gm (i := 349) (by decide +kernel) rfl, gm (i := 6) (by decide +kernel) rfl⟩
theorem v_X5_carriedOut : VY yX5_carriedOut cX5_carriedOut 6 (some .boolean) 1 := ⟨⟨gm (i := 85) (by decide +kernel) rfl, gm (i := 354) (by decide +kernel) rfl, by decide +kernel, by decide +kernel, by decide +kernel⟩, gm (i := 353) (by decide +kernel) rfl, gm (i := 7) (by decide +kernel) rfl⟩
theorem v_X5_digitAt : VY yX5_digitAt cX5_digitAt 2 (some .int) 1 := ⟨⟨gm (i := 85) (by decide +kernel) rfl, gm (i := 358) (by decide +kernel) rfl, by decide +kernel, by decide +kernel, by decide +kernel⟩, gm (i := 357) (by decide +kernel) rfl, gm (i := 8) (by decide +kernel) rfl⟩
theorem v_X4_addFront : VY yX4_addFront cX4_addFront 4 (some .boolean) 3 := ⟨⟨gm (i := 86) (by decide +kernel) rfl, gm (i := 362) (by decide +kernel) rfl, by decide +kernel, by decide +kernel, by decide +kernel⟩, gm (i := 360) (by decide +kernel) rfl, gm (i := 361) (by decide +kernel) rfl⟩
theorem v_X5_twoDigitsAt : VY yX5_twoDigitsAt cX5_twoDigitsAt 2 (some .int) 1 := ⟨⟨gm (i := 85) (by decide +kernel) rfl, gm (i := 366) (by decide +kernel) rfl, by decide +kernel, by decide +kernel, by decide +kernel⟩, gm (i := 365) (by decide +kernel) rfl, gm (i := 9) (by decide +kernel) rfl⟩
theorem v_X4_addPerson : VY yX4_addPerson cX4_addPerson 4 (some .boolean) 3 := ⟨⟨gm (i := 86) (by decide +kernel) rfl, gm (i := 370) (by decide +kernel) rfl, by decide +kernel, by decide +kernel, by decide +kernel⟩, gm (i := 368) (by decide +kernel) rfl, gm (i := 369) (by decide +kernel) rfl⟩
theorem s_X5_isCell : SY yX5_isCell cX5_isCell 1 (some .boolean) 1 := ⟨⟨gm (i := 85) (by decide +kernel) rfl, gm (i := 373) (by decide +kernel) rfl, by decide +kernel, by decide +kernel, by decide +kernel⟩, gm (i := 372) (by decide +kernel) rfl⟩
theorem v_X4_addThing : VY yX4_addThing cX4_addThing 3 (some .boolean) 2 := ⟨⟨gm (i := 86) (by decide +kernel) rfl, gm (i := 377) (by decide +kernel) rfl, by decide +kernel, by decide +kernel, by decide +kernel⟩, gm (i := 375) (by decide +kernel) rfl, gm (i := 376) (by decide +kernel) rfl⟩
theorem v_X4_setOwner : VY yX4_setOwner cX4_setOwner 3 (some .boolean) 2 := ⟨⟨gm (i := 86) (by decide +kernel) rfl, gm (i := 381) (by decide +kernel) rfl, by decide +kernel, by decide +kernel, by decide +kernel⟩, gm (i := 379) (by decide +kernel) rfl, gm (i := 380) (by decide +kernel) rfl⟩
theorem v_X4_hasThing : VY yX4_hasThing cX4_hasThing 2 (some .boolean) 1 := ⟨⟨gm (i := 86) (by decide +kernel) rfl, gm (i := 385) (by decide +kernel) rfl, by decide +kernel, by decide +kernel, by decide +kernel⟩, gm (i := 383) (by decide +kernel) rfl, gm (i := 384) (by decide +kernel) rfl⟩
theorem v_X4_hasPerson : VY yX4_hasPerson cX4_hasPerson 2 (some .boolean) 1 := ⟨⟨gm (i := 86) (by decide +kernel) rfl, gm (i := 389) (by decide +kernel) rfl, by decide +kernel, by decide +kernel, by decide +kernel⟩, gm (i := 387) (by decide +kernel) rfl, gm (i := 388) (by decide +kernel) rfl⟩
theorem v_X4_setPlace : VY yX4_setPlace cX4_setPlace 3 (some .boolean) 2 := ⟨⟨gm (i := 86) (by decide +kernel) rfl, gm (i := 393) (by decide +kernel) rfl, by decide +kernel, by decide +kernel, by decide +kernel⟩, gm (i := 391) (by decide +kernel) rfl, gm (i := 392) (by decide +kernel) rfl⟩
theorem v_X0_goOn : VY yX0_goOn cX0_goOn 4 none 1 := ⟨⟨gm (i := 87) (by decide +kernel) rfl, gm (i := 397) (by decide +kernel) rfl, by decide +kernel, by decide +kernel, by decide +kernel⟩, gm (i := 395) (by decide +kernel) rfl, gm (i := 396) (by decide +kernel) rfl⟩
theorem v_X0_dropInTheClear : VY yX0_dropInTheClear cX0_dropInTheClear 2 none 0 := ⟨⟨gm (i := 87) (by decide +kernel) rfl, gm (i := 401) (by decide +kernel) rfl, by decide +kernel, by decide +kernel, by decide +kernel⟩, gm (i := 400) (by decide +kernel) rfl, gm (i := 10) (by decide +kernel) rfl⟩
theorem v_X0_isInFog : VY yX0_isInFog cX0_isInFog 2 (some .boolean) 1 := ⟨⟨gm (i := 87) (by decide +kernel) rfl, gm (i := 405) (by decide +kernel) rfl, by decide +kernel, by decide +kernel, by decide +kernel⟩, gm (i := 403) (by decide +kernel) rfl, gm (i := 404) (by decide +kernel) rfl⟩
theorem v_X0_fogOn : VY yX0_fogOn cX0_fogOn 4 (some .int) 1 := ⟨⟨gm (i := 87) (by decide +kernel) rfl, gm (i := 409) (by decide +kernel) rfl, by decide +kernel, by decide +kernel, by decide +kernel⟩, gm (i := 407) (by decide +kernel) rfl, gm (i := 408) (by decide +kernel) rfl⟩
theorem v_X0_airOn : VY yX0_airOn cX0_airOn 2 (some .int) 1 := ⟨⟨gm (i := 87) (by decide +kernel) rfl, gm (i := 413) (by decide +kernel) rfl, by decide +kernel, by decide +kernel, by decide +kernel⟩, gm (i := 411) (by decide +kernel) rfl, gm (i := 412) (by decide +kernel) rfl⟩
theorem s_X1_steam : SY yX1_steam cX1_steam 2 (some .int) 2 := ⟨⟨gm (i := 92) (by decide +kernel) rfl, gm (i := 416) (by decide +kernel) rfl, by decide +kernel, by decide +kernel, by decide +kernel⟩, gm (i := 415) (by decide +kernel) rfl⟩
theorem v_X0_goal : VY yX0_goal cX0_goal 5 (some .int) 1 := ⟨⟨gm (i := 87) (by decide +kernel) rfl, gm (i := 421) (by decide +kernel) rfl, by decide +kernel, by decide +kernel, by decide +kernel⟩, gm (i := 419) (by decide +kernel) rfl, gm (i := 420) (by decide +kernel) rfl⟩
theorem v_X0_airiest : VY yX0_airiest cX0_airiest 3 (some .int) 0 := ⟨⟨gm (i := 87) (by decide +kernel) rfl, gm (i := 425) (by decide +kernel) rfl, by decide +kernel, by decide +kernel, by decide +kernel⟩, gm (i := 424) (by decide +kernel) rfl, gm (i := 11) (by decide +kernel) rfl⟩
theorem v_X0_worthiest : VY yX0_worthiest cX0_worthiest 5 (some .int) 1 := ⟨⟨gm (i := 87) (by decide +kernel) rfl, gm (i := 429) (by decide +kernel) rfl, by decide +kernel, by decide +kernel, by decide +kernel⟩, gm (i := 428) (by decide +kernel) rfl, gm (i := 12) (by decide +kernel) rfl⟩
theorem v_X0_nearest : VY yX0_nearest cX0_nearest 6 (some .int) 1 := ⟨⟨gm (i := 87) (by decide +kernel) rfl, gm (i := 433) (by decide +kernel) rfl, by decide +kernel, by decide +kernel, by decide +kernel⟩, gm (i := 432) (by decide +kernel) rfl, gm (i := 13) (by decide +kernel) rfl⟩
theorem s_X0_distance : SY yX0_distance cX0_distance 2 (some .int) 2 := ⟨⟨gm (i := 87) (by decide +kernel) rfl, gm (i := 436) (by decide +kernel) rfl, by decide +kernel, by decide +kernel, by decide +kernel⟩, gm (i := 435) (by decide +kernel) rfl⟩
theorem v_X0_walk : VY yX0_walk cX0_walk 7 none 2 := ⟨⟨gm (i := 87) (by decide +kernel) rfl, gm (i := 443) (by decide +kernel) rfl, by decide +kernel, by decide +kernel, by decide +kernel⟩, gm (i := 442) (by decide +kernel) rfl, gm (i := 14) (by decide +kernel) rfl⟩
theorem s_X1_pace : SY yX1_pace cX1_pace 2 (some .int) 2 := ⟨⟨gm (i := 92) (by decide +kernel) rfl, gm (i := 446) (by decide +kernel) rfl, by decide +kernel, by decide +kernel, by decide +kernel⟩, gm (i := 445) (by decide +kernel) rfl⟩
theorem v_X0_grab : VY yX0_grab cX0_grab 7 none 1 := ⟨⟨gm (i := 87) (by decide +kernel) rfl, gm (i := 450) (by decide +kernel) rfl, by decide +kernel, by decide +kernel, by decide +kernel⟩, gm (i := 449) (by decide +kernel) rfl, gm (i := 15) (by decide +kernel) rfl⟩
theorem s_X1_grabs : SY yX1_grabs cX1_grabs 2 (some .int) 2 := ⟨⟨gm (i := 92) (by decide +kernel) rfl, gm (i := 453) (by decide +kernel) rfl, by decide +kernel, by decide +kernel, by decide +kernel⟩, gm (i := 452) (by decide +kernel) rfl⟩
theorem s_X1_mayTakeAnothers : SY yX1_mayTakeAnothers cX1_mayTakeAnothers 3 (some .boolean) 3 := ⟨⟨gm (i := 92) (by decide +kernel) rfl, gm (i := 456) (by decide +kernel) rfl, by decide +kernel, by decide +kernel, by decide +kernel⟩, gm (i := 455) (by decide +kernel) rfl⟩
theorem v_X5_person : VY yX5_person cX5_person 3 (some .int) 2 := ⟨⟨gm (i := 85) (by decide +kernel) rfl, gm (i := 461) (by decide +kernel) rfl, by decide +kernel, by decide +kernel, by decide +kernel⟩, gm (i := 459) (by decide +kernel) rfl, gm (i := 460) (by decide +kernel) rfl⟩
theorem v_X4_worthsOf : VY yX4_worthsOf cX4_worthsOf 4 (some .int) 1 := ⟨⟨gm (i := 86) (by decide +kernel) rfl, gm (i := 471) (by decide +kernel) rfl, by decide +kernel, by decide +kernel, by decide +kernel⟩, gm (i := 469) (by decide +kernel) rfl, gm (i := 470) (by decide +kernel) rfl⟩
theorem v_X5_thing : VY yX5_thing cX5_thing 3 (some .int) 2 := ⟨⟨gm (i := 85) (by decide +kernel) rfl, gm (i := 475) (by decide +kernel) rfl, by decide +kernel, by decide +kernel, by decide +kernel⟩, gm (i := 473) (by decide +kernel) rfl, gm (i := 474) (by decide +kernel) rfl⟩
theorem s_X5_orNone : SY yX5_orNone cX5_orNone 1 (some .int) 1 := ⟨⟨gm (i := 85) (by decide +kernel) rfl, gm (i := 479) (by decide +kernel) rfl, by decide +kernel, by decide +kernel, by decide +kernel⟩, gm (i := 478) (by decide +kernel) rfl⟩
theorem v_X5_front : VY yX5_front cX5_front 3 (some .int) 2 := ⟨⟨gm (i := 85) (by decide +kernel) rfl, gm (i := 483) (by decide +kernel) rfl, by decide +kernel, by decide +kernel, by decide +kernel⟩, gm (i := 481) (by decide +kernel) rfl, gm (i := 482) (by decide +kernel) rfl⟩
theorem v_X4_hasFront : VY yX4_hasFront cX4_hasFront 2 (some .boolean) 1 := ⟨⟨gm (i := 86) (by decide +kernel) rfl, gm (i := 487) (by decide +kernel) rfl, by decide +kernel, by decide +kernel, by decide +kernel⟩, gm (i := 485) (by decide +kernel) rfl, gm (i := 486) (by decide +kernel) rfl⟩
theorem v_X5_cell : VY yX5_cell cX5_cell 3 (some .int) 2 := ⟨⟨gm (i := 85) (by decide +kernel) rfl, gm (i := 491) (by decide +kernel) rfl, by decide +kernel, by decide +kernel, by decide +kernel⟩, gm (i := 489) (by decide +kernel) rfl, gm (i := 490) (by decide +kernel) rfl⟩
theorem v_X4_peopleOn : VY yX4_peopleOn cX4_peopleOn 4 (some .int) 1 := ⟨⟨gm (i := 86) (by decide +kernel) rfl, gm (i := 499) (by decide +kernel) rfl, by decide +kernel, by decide +kernel, by decide +kernel⟩, gm (i := 497) (by decide +kernel) rfl, gm (i := 498) (by decide +kernel) rfl⟩
theorem v_X4_thingsOn : VY yX4_thingsOn cX4_thingsOn 4 (some .int) 1 := ⟨⟨gm (i := 86) (by decide +kernel) rfl, gm (i := 503) (by decide +kernel) rfl, by decide +kernel, by decide +kernel, by decide +kernel⟩, gm (i := 501) (by decide +kernel) rfl, gm (i := 502) (by decide +kernel) rfl⟩
theorem v_X5_count : VY yX5_count cX5_count 2 (some .int) 1 := ⟨⟨gm (i := 85) (by decide +kernel) rfl, gm (i := 507) (by decide +kernel) rfl, by decide +kernel, by decide +kernel, by decide +kernel⟩, gm (i := 505) (by decide +kernel) rfl, gm (i := 506) (by decide +kernel) rfl⟩
theorem v_X4_ownedThings : VY yX4_ownedThings cX4_ownedThings 1 (some .int) 0 := ⟨⟨gm (i := 86) (by decide +kernel) rfl, gm (i := 511) (by decide +kernel) rfl, by decide +kernel, by decide +kernel, by decide +kernel⟩, gm (i := 509) (by decide +kernel) rfl, gm (i := 510) (by decide +kernel) rfl⟩
theorem v_X4_nobodysThings : VY yX4_nobodysThings cX4_nobodysThings 3 (some .int) 0 := ⟨⟨gm (i := 86) (by decide +kernel) rfl, gm (i := 515) (by decide +kernel) rfl, by decide +kernel, by decide +kernel, by decide +kernel⟩, gm (i := 513) (by decide +kernel) rfl, gm (i := 514) (by decide +kernel) rfl⟩
theorem s_J6_bitCount_0f7a4 : SY yJ6_bitCount_0f7a4 cJ6_bitCount_0f7a4 1 (some .int) 1 := ⟨⟨gm (i := 93) (by decide +kernel) rfl, gm (i := 518) (by decide +kernel) rfl, by decide +kernel, by decide +kernel, by decide +kernel⟩, gm (i := 517) (by decide +kernel) rfl⟩
theorem v_X0_foggyCells : VY yX0_foggyCells cX0_foggyCells 3 (some .int) 0 := ⟨⟨gm (i := 87) (by decide +kernel) rfl, gm (i := 525) (by decide +kernel) rfl, by decide +kernel, by decide +kernel, by decide +kernel⟩, gm (i := 523) (by decide +kernel) rfl, gm (i := 524) (by decide +kernel) rfl⟩
theorem v_X5_blows : VY yX5_blows cX5_blows 4 (some .int) 3 := ⟨⟨gm (i := 85) (by decide +kernel) rfl, gm (i := 529) (by decide +kernel) rfl, by decide +kernel, by decide +kernel, by decide +kernel⟩, gm (i := 527) (by decide +kernel) rfl, gm (i := 528) (by decide +kernel) rfl⟩
theorem v_X5_comes : VY yX5_comes cX5_comes 4 (some .int) 3 := ⟨⟨gm (i := 85) (by decide +kernel) rfl, gm (i := 533) (by decide +kernel) rfl, by decide +kernel, by decide +kernel, by decide +kernel⟩, gm (i := 531) (by decide +kernel) rfl, gm (i := 532) (by decide +kernel) rfl⟩
theorem v_X5_lies : VY yX5_lies cX5_lies 3 (some .int) 2 := ⟨⟨gm (i := 85) (by decide +kernel) rfl, gm (i := 537) (by decide +kernel) rfl, by decide +kernel, by decide +kernel, by decide +kernel⟩, gm (i := 535) (by decide +kernel) rfl, gm (i := 536) (by decide +kernel) rfl⟩
theorem v_X5_thick : VY yX5_thick cX5_thick 4 (some .int) 1 := ⟨⟨gm (i := 85) (by decide +kernel) rfl, gm (i := 541) (by decide +kernel) rfl, by decide +kernel, by decide +kernel, by decide +kernel⟩, gm (i := 539) (by decide +kernel) rfl, gm (i := 540) (by decide +kernel) rfl⟩
theorem s_X5_outOfRange : SY yX5_outOfRange cX5_outOfRange 3 (some .int) 3 := ⟨⟨gm (i := 85) (by decide +kernel) rfl, gm (i := 544) (by decide +kernel) rfl, by decide +kernel, by decide +kernel, by decide +kernel⟩, gm (i := 543) (by decide +kernel) rfl⟩
theorem v_X5_keepForBack : VY yX5_keepForBack cX5_keepForBack 3 none 0 := ⟨⟨gm (i := 85) (by decide +kernel) rfl, gm (i := 548) (by decide +kernel) rfl, by decide +kernel, by decide +kernel, by decide +kernel⟩, gm (i := 547) (by decide +kernel) rfl, gm (i := 16) (by decide +kernel) rfl⟩
theorem v_X5_owns : VY yX5_owns cX5_owns 4 (some .int) 2 := ⟨⟨gm (i := 85) (by decide +kernel) rfl, gm (i := 552) (by decide +kernel) rfl, by decide +kernel, by decide +kernel, by decide +kernel⟩, gm (i := 550) (by decide +kernel) rfl, gm (i := 551) (by decide +kernel) rfl⟩
theorem v_X5_stands : VY yX5_stands cX5_stands 4 (some .int) 2 := ⟨⟨gm (i := 85) (by decide +kernel) rfl, gm (i := 556) (by decide +kernel) rfl, by decide +kernel, by decide +kernel, by decide +kernel⟩, gm (i := 554) (by decide +kernel) rfl, gm (i := 555) (by decide +kernel) rfl⟩
theorem v_X5_carries : VY yX5_carries cX5_carries 4 (some .int) 2 := ⟨⟨gm (i := 85) (by decide +kernel) rfl, gm (i := 560) (by decide +kernel) rfl, by decide +kernel, by decide +kernel, by decide +kernel⟩, gm (i := 558) (by decide +kernel) rfl, gm (i := 559) (by decide +kernel) rfl⟩
theorem v_X5_hours : VY yX5_hours cX5_hours 3 (some .int) 1 := ⟨⟨gm (i := 85) (by decide +kernel) rfl, gm (i := 564) (by decide +kernel) rfl, by decide +kernel, by decide +kernel, by decide +kernel⟩, gm (i := 562) (by decide +kernel) rfl, gm (i := 563) (by decide +kernel) rfl⟩
theorem v_X5_thinkOn : VY yX5_thinkOn cX5_thinkOn 2 none 1 := ⟨⟨gm (i := 85) (by decide +kernel) rfl, gm (i := 568) (by decide +kernel) rfl, by decide +kernel, by decide +kernel, by decide +kernel⟩, gm (i := 567) (by decide +kernel) rfl, gm (i := 17) (by decide +kernel) rfl⟩
theorem v_X5_back : VY yX5_back cX5_back 1 (some .int) 0 := ⟨⟨gm (i := 85) (by decide +kernel) rfl, gm (i := 572) (by decide +kernel) rfl, by decide +kernel, by decide +kernel, by decide +kernel⟩, gm (i := 570) (by decide +kernel) rfl, gm (i := 571) (by decide +kernel) rfl⟩
theorem v_X5_fogThen : VY yX5_fogThen cX5_fogThen 4 (some .int) 2 := ⟨⟨gm (i := 85) (by decide +kernel) rfl, gm (i := 576) (by decide +kernel) rfl, by decide +kernel, by decide +kernel, by decide +kernel⟩, gm (i := 574) (by decide +kernel) rfl, gm (i := 575) (by decide +kernel) rfl⟩
theorem v_X5_then : VY yX5_then cX5_then 4 (some .int) 2 := ⟨⟨gm (i := 85) (by decide +kernel) rfl, gm (i := 580) (by decide +kernel) rfl, by decide +kernel, by decide +kernel, by decide +kernel⟩, gm (i := 578) (by decide +kernel) rfl, gm (i := 579) (by decide +kernel) rfl⟩
theorem v_X5_ownerThen : VY yX5_ownerThen cX5_ownerThen 4 (some .int) 2 := ⟨⟨gm (i := 85) (by decide +kernel) rfl, gm (i := 585) (by decide +kernel) rfl, by decide +kernel, by decide +kernel, by decide +kernel⟩, gm (i := 583) (by decide +kernel) rfl, gm (i := 584) (by decide +kernel) rfl⟩
theorem v_X5_personThen : VY yX5_personThen cX5_personThen 5 (some .int) 3 := ⟨⟨gm (i := 85) (by decide +kernel) rfl, gm (i := 589) (by decide +kernel) rfl, by decide +kernel, by decide +kernel, by decide +kernel⟩, gm (i := 587) (by decide +kernel) rfl, gm (i := 588) (by decide +kernel) rfl⟩
theorem v_X5_when : VY yX5_when cX5_when 4 (some .int) 2 := ⟨⟨gm (i := 85) (by decide +kernel) rfl, gm (i := 593) (by decide +kernel) rfl, by decide +kernel, by decide +kernel, by decide +kernel⟩, gm (i := 591) (by decide +kernel) rfl, gm (i := 592) (by decide +kernel) rfl⟩
theorem v_X5_first : VY yX5_first cX5_first 4 (some .int) 0 := ⟨⟨gm (i := 85) (by decide +kernel) rfl, gm (i := 597) (by decide +kernel) rfl, by decide +kernel, by decide +kernel, by decide +kernel⟩, gm (i := 595) (by decide +kernel) rfl, gm (i := 596) (by decide +kernel) rfl⟩
theorem s_X5_leastThing : SY yX5_leastThing cX5_leastThing 2 (some .int) 1 := ⟨⟨gm (i := 85) (by decide +kernel) rfl, gm (i := 600) (by decide +kernel) rfl, by decide +kernel, by decide +kernel, by decide +kernel⟩, gm (i := 599) (by decide +kernel) rfl⟩
theorem v_X5_clears : VY yX5_clears cX5_clears 3 (some .int) 1 := ⟨⟨gm (i := 85) (by decide +kernel) rfl, gm (i := 604) (by decide +kernel) rfl, by decide +kernel, by decide +kernel, by decide +kernel⟩, gm (i := 602) (by decide +kernel) rfl, gm (i := 603) (by decide +kernel) rfl⟩
theorem v_X5_stand : VY yX5_stand cX5_stand 9 (some .int) 3 := ⟨⟨gm (i := 85) (by decide +kernel) rfl, gm (i := 608) (by decide +kernel) rfl, by decide +kernel, by decide +kernel, by decide +kernel⟩, gm (i := 606) (by decide +kernel) rfl, gm (i := 607) (by decide +kernel) rfl⟩
theorem v_X5_kettle : VY yX5_kettle cX5_kettle 6 (some .int) 3 := ⟨⟨gm (i := 85) (by decide +kernel) rfl, gm (i := 612) (by decide +kernel) rfl, by decide +kernel, by decide +kernel, by decide +kernel⟩, gm (i := 610) (by decide +kernel) rfl, gm (i := 611) (by decide +kernel) rfl⟩
theorem v_X5_without : VY yX5_without cX5_without 8 (some .int) 2 := ⟨⟨gm (i := 85) (by decide +kernel) rfl, gm (i := 616) (by decide +kernel) rfl, by decide +kernel, by decide +kernel, by decide +kernel⟩, gm (i := 614) (by decide +kernel) rfl, gm (i := 615) (by decide +kernel) rfl⟩
theorem v_X4_dropFront : VY yX4_dropFront cX4_dropFront 3 none 1 := ⟨⟨gm (i := 86) (by decide +kernel) rfl, gm (i := 620) (by decide +kernel) rfl, by decide +kernel, by decide +kernel, by decide +kernel⟩, gm (i := 618) (by decide +kernel) rfl, gm (i := 619) (by decide +kernel) rfl⟩
theorem v_X5_swap : VY yX5_swap cX5_swap 8 (some .int) 1 := ⟨⟨gm (i := 85) (by decide +kernel) rfl, gm (i := 626) (by decide +kernel) rfl, by decide +kernel, by decide +kernel, by decide +kernel⟩, gm (i := 624) (by decide +kernel) rfl, gm (i := 625) (by decide +kernel) rfl⟩
theorem v_X4_change : VY yX4_change cX4_change 5 none 2 := ⟨⟨gm (i := 86) (by decide +kernel) rfl, gm (i := 630) (by decide +kernel) rfl, by decide +kernel, by decide +kernel, by decide +kernel⟩, gm (i := 628) (by decide +kernel) rfl, gm (i := 629) (by decide +kernel) rfl⟩
theorem v_X5_whatKind : VY yX5_whatKind cX5_whatKind 6 (some .int) 2 := ⟨⟨gm (i := 85) (by decide +kernel) rfl, gm (i := 634) (by decide +kernel) rfl, by decide +kernel, by decide +kernel, by decide +kernel⟩, gm (i := 632) (by decide +kernel) rfl, gm (i := 633) (by decide +kernel) rfl⟩
theorem v_X5_goesByTheRow : VY yX5_goesByTheRow cX5_goesByTheRow 3 (some .boolean) 1 := ⟨⟨gm (i := 85) (by decide +kernel) rfl, gm (i := 638) (by decide +kernel) rfl, by decide +kernel, by decide +kernel, by decide +kernel⟩, gm (i := 637) (by decide +kernel) rfl, gm (i := 18) (by decide +kernel) rfl⟩
theorem v_X5_whichFront : VY yX5_whichFront cX5_whichFront 5 (some .int) 2 := ⟨⟨gm (i := 85) (by decide +kernel) rfl, gm (i := 642) (by decide +kernel) rfl, by decide +kernel, by decide +kernel, by decide +kernel⟩, gm (i := 640) (by decide +kernel) rfl, gm (i := 641) (by decide +kernel) rfl⟩
theorem v_X5_airIsAsTheRow : VY yX5_airIsAsTheRow cX5_airIsAsTheRow 3 (some .boolean) 1 := ⟨⟨gm (i := 85) (by decide +kernel) rfl, gm (i := 646) (by decide +kernel) rfl, by decide +kernel, by decide +kernel, by decide +kernel⟩, gm (i := 645) (by decide +kernel) rfl, gm (i := 19) (by decide +kernel) rfl⟩
theorem v_X5_two : VY yX5_two cX5_two 8 (some .int) 3 := ⟨⟨gm (i := 85) (by decide +kernel) rfl, gm (i := 650) (by decide +kernel) rfl, by decide +kernel, by decide +kernel, by decide +kernel⟩, gm (i := 648) (by decide +kernel) rfl, gm (i := 649) (by decide +kernel) rfl⟩
theorem v_X4_goHome : VY yX4_goHome cX4_goHome 2 none 1 := ⟨⟨gm (i := 86) (by decide +kernel) rfl, gm (i := 654) (by decide +kernel) rfl, by decide +kernel, by decide +kernel, by decide +kernel⟩, gm (i := 652) (by decide +kernel) rfl, gm (i := 653) (by decide +kernel) rfl⟩
theorem v_X5_sun : VY yX5_sun cX5_sun 9 (some .long) 5 := ⟨⟨gm (i := 85) (by decide +kernel) rfl, gm (i := 658) (by decide +kernel) rfl, by decide +kernel, by decide +kernel, by decide +kernel⟩, gm (i := 656) (by decide +kernel) rfl, gm (i := 657) (by decide +kernel) rfl⟩
theorem v_X5_refuseLong : VY yX5_refuseLong cX5_refuseLong 2 (some .long) 1 := ⟨⟨gm (i := 85) (by decide +kernel) rfl, gm (i := 662) (by decide +kernel) rfl, by decide +kernel, by decide +kernel, by decide +kernel⟩, gm (i := 661) (by decide +kernel) rfl, gm (i := 20) (by decide +kernel) rfl⟩
theorem v_X5_isOwnedBehind : VY yX5_isOwnedBehind cX5_isOwnedBehind 6 (some .boolean) 4 := ⟨⟨gm (i := 85) (by decide +kernel) rfl, gm (i := 667) (by decide +kernel) rfl, by decide +kernel, by decide +kernel, by decide +kernel⟩, gm (i := 666) (by decide +kernel) rfl, gm (i := 21) (by decide +kernel) rfl⟩
theorem s_X5_power : SY yX5_power cX5_power 6 (some .long) 2 := ⟨⟨gm (i := 85) (by decide +kernel) rfl, gm (i := 670) (by decide +kernel) rfl, by decide +kernel, by decide +kernel, by decide +kernel⟩, gm (i := 669) (by decide +kernel) rfl⟩
theorem s_X5_lowest : SY yX5_lowest cX5_lowest 12 (some .long) 3 := ⟨⟨gm (i := 85) (by decide +kernel) rfl, gm (i := 673) (by decide +kernel) rfl, by decide +kernel, by decide +kernel, by decide +kernel⟩, gm (i := 672) (by decide +kernel) rfl⟩
theorem v_X5_islands : VY yX5_islands cX5_islands 3 (some .int) 1 := ⟨⟨gm (i := 85) (by decide +kernel) rfl, gm (i := 677) (by decide +kernel) rfl, by decide +kernel, by decide +kernel, by decide +kernel⟩, gm (i := 675) (by decide +kernel) rfl, gm (i := 676) (by decide +kernel) rfl⟩
theorem s_X2_pieceWith : SY yX2_pieceWith cX2_pieceWith 4 (some .int) 2 := ⟨⟨gm (i := 94) (by decide +kernel) rfl, gm (i := 680) (by decide +kernel) rfl, by decide +kernel, by decide +kernel, by decide +kernel⟩, gm (i := 679) (by decide +kernel) rfl⟩
theorem s_X2_spread : SY yX2_spread cX2_spread 4 (some .int) 2 := ⟨⟨gm (i := 94) (by decide +kernel) rfl, gm (i := 683) (by decide +kernel) rfl, by decide +kernel, by decide +kernel, by decide +kernel⟩, gm (i := 682) (by decide +kernel) rfl⟩
theorem s_X2_howMany : SY yX2_howMany cX2_howMany 4 (some .int) 1 := ⟨⟨gm (i := 94) (by decide +kernel) rfl, gm (i := 688) (by decide +kernel) rfl, by decide +kernel, by decide +kernel, by decide +kernel⟩, gm (i := 687) (by decide +kernel) rfl⟩
theorem s_X2_greatest : SY yX2_greatest cX2_greatest 3 (some .int) 1 := ⟨⟨gm (i := 94) (by decide +kernel) rfl, gm (i := 692) (by decide +kernel) rfl, by decide +kernel, by decide +kernel, by decide +kernel⟩, gm (i := 691) (by decide +kernel) rfl⟩
theorem v_X5_clearRun : VY yX5_clearRun cX5_clearRun 4 (some .int) 0 := ⟨⟨gm (i := 85) (by decide +kernel) rfl, gm (i := 698) (by decide +kernel) rfl, by decide +kernel, by decide +kernel, by decide +kernel⟩, gm (i := 696) (by decide +kernel) rfl, gm (i := 697) (by decide +kernel) rfl⟩
theorem v_X5_way : VY yX5_way cX5_way 3 (some .int) 2 := ⟨⟨gm (i := 85) (by decide +kernel) rfl, gm (i := 703) (by decide +kernel) rfl, by decide +kernel, by decide +kernel, by decide +kernel⟩, gm (i := 701) (by decide +kernel) rfl, gm (i := 702) (by decide +kernel) rfl⟩
theorem s_X2_steps : SY yX2_steps cX2_steps 5 (some .int) 3 := ⟨⟨gm (i := 94) (by decide +kernel) rfl, gm (i := 706) (by decide +kernel) rfl, by decide +kernel, by decide +kernel, by decide +kernel⟩, gm (i := 705) (by decide +kernel) rfl⟩
theorem v_X5_share : VY yX5_share cX5_share 5 (some .long) 2 := ⟨⟨gm (i := 85) (by decide +kernel) rfl, gm (i := 710) (by decide +kernel) rfl, by decide +kernel, by decide +kernel, by decide +kernel⟩, gm (i := 708) (by decide +kernel) rfl, gm (i := 709) (by decide +kernel) rfl⟩
theorem v_X5_sight : VY yX5_sight cX5_sight 2 (some .int) 1 := ⟨⟨gm (i := 85) (by decide +kernel) rfl, gm (i := 714) (by decide +kernel) rfl, by decide +kernel, by decide +kernel, by decide +kernel⟩, gm (i := 712) (by decide +kernel) rfl, gm (i := 713) (by decide +kernel) rfl⟩
theorem v_X5_richest : VY yX5_richest cX5_richest 5 (some .int) 0 := ⟨⟨gm (i := 85) (by decide +kernel) rfl, gm (i := 718) (by decide +kernel) rfl, by decide +kernel, by decide +kernel, by decide +kernel⟩, gm (i := 717) (by decide +kernel) rfl, gm (i := 22) (by decide +kernel) rfl⟩
theorem v_X5_wetThings : VY yX5_wetThings cX5_wetThings 3 (some .int) 0 := ⟨⟨gm (i := 85) (by decide +kernel) rfl, gm (i := 722) (by decide +kernel) rfl, by decide +kernel, by decide +kernel, by decide +kernel⟩, gm (i := 721) (by decide +kernel) rfl, gm (i := 23) (by decide +kernel) rfl⟩
theorem v_X5_crowdedCell : VY yX5_crowdedCell cX5_crowdedCell 5 (some .int) 0 := ⟨⟨gm (i := 85) (by decide +kernel) rfl, gm (i := 726) (by decide +kernel) rfl, by decide +kernel, by decide +kernel, by decide +kernel⟩, gm (i := 725) (by decide +kernel) rfl, gm (i := 24) (by decide +kernel) rfl⟩
theorem v_X5_hoursAlike : VY yX5_hoursAlike cX5_hoursAlike 4 (some .int) 0 := ⟨⟨gm (i := 85) (by decide +kernel) rfl, gm (i := 730) (by decide +kernel) rfl, by decide +kernel, by decide +kernel, by decide +kernel⟩, gm (i := 729) (by decide +kernel) rfl, gm (i := 25) (by decide +kernel) rfl⟩
theorem v_X5_kinds : VY yX5_kinds cX5_kinds 4 (some .int) 1 := ⟨⟨gm (i := 85) (by decide +kernel) rfl, gm (i := 734) (by decide +kernel) rfl, by decide +kernel, by decide +kernel, by decide +kernel⟩, gm (i := 732) (by decide +kernel) rfl, gm (i := 733) (by decide +kernel) rfl⟩
theorem v_X5_row : VY yX5_row cX5_row 3 (some .int) 1 := ⟨⟨gm (i := 85) (by decide +kernel) rfl, gm (i := 738) (by decide +kernel) rfl, by decide +kernel, by decide +kernel, by decide +kernel⟩, gm (i := 736) (by decide +kernel) rfl, gm (i := 737) (by decide +kernel) rfl⟩
theorem v_X5_judge : VY yX5_judge cX5_judge 4 (some .int) 0 := ⟨⟨gm (i := 85) (by decide +kernel) rfl, gm (i := 742) (by decide +kernel) rfl, by decide +kernel, by decide +kernel, by decide +kernel⟩, gm (i := 740) (by decide +kernel) rfl, gm (i := 741) (by decide +kernel) rfl⟩
theorem v_X5_clear : VY yX5_clear cX5_clear 2 (some .int) 0 := ⟨⟨gm (i := 85) (by decide +kernel) rfl, gm (i := 746) (by decide +kernel) rfl, by decide +kernel, by decide +kernel, by decide +kernel⟩, gm (i := 744) (by decide +kernel) rfl, gm (i := 745) (by decide +kernel) rfl⟩
theorem v_X5_lots : VY yX5_lots cX5_lots 10 (some .int) 3 := ⟨⟨gm (i := 85) (by decide +kernel) rfl, gm (i := 750) (by decide +kernel) rfl, by decide +kernel, by decide +kernel, by decide +kernel⟩, gm (i := 748) (by decide +kernel) rfl, gm (i := 749) (by decide +kernel) rfl⟩
theorem v_X4_ownedWorths : VY yX4_ownedWorths cX4_ownedWorths 3 (some .int) 0 := ⟨⟨gm (i := 86) (by decide +kernel) rfl, gm (i := 756) (by decide +kernel) rfl, by decide +kernel, by decide +kernel, by decide +kernel⟩, gm (i := 754) (by decide +kernel) rfl, gm (i := 755) (by decide +kernel) rfl⟩
theorem v_X5_image : VY yX5_image cX5_image 1 (some .int) 0 := ⟨⟨gm (i := 85) (by decide +kernel) rfl, gm (i := 760) (by decide +kernel) rfl, by decide +kernel, by decide +kernel, by decide +kernel⟩, gm (i := 758) (by decide +kernel) rfl, gm (i := 759) (by decide +kernel) rfl⟩
theorem v_X5_restore : VY yX5_restore cX5_restore 1 (some .int) 0 := ⟨⟨gm (i := 85) (by decide +kernel) rfl, gm (i := 764) (by decide +kernel) rfl, by decide +kernel, by decide +kernel, by decide +kernel⟩, gm (i := 762) (by decide +kernel) rfl, gm (i := 763) (by decide +kernel) rfl⟩
theorem v_X6_feed : VY yX6_feed cX6_feed 3 (some .int) 1 := ⟨⟨gm (i := 89) (by decide +kernel) rfl, gm (i := 889) (by decide +kernel) rfl, by decide +kernel, by decide +kernel, by decide +kernel⟩, gm (i := 887) (by decide +kernel) rfl, gm (i := 888) (by decide +kernel) rfl⟩
theorem s_X6_bound : SY yX6_bound cX6_bound 3 (some .int) 3 := ⟨⟨gm (i := 89) (by decide +kernel) rfl, gm (i := 892) (by decide +kernel) rfl, by decide +kernel, by decide +kernel, by decide +kernel⟩, gm (i := 891) (by decide +kernel) rfl⟩
theorem v_X6_no : VY yX6_no cX6_no 2 (some .int) 1 := ⟨⟨gm (i := 89) (by decide +kernel) rfl, gm (i := 896) (by decide +kernel) rfl, by decide +kernel, by decide +kernel, by decide +kernel⟩, gm (i := 895) (by decide +kernel) rfl, gm (i := 26) (by decide +kernel) rfl⟩
theorem v_X6_coast : VY yX6_coast cX6_coast 3 (some .int) 0 := ⟨⟨gm (i := 89) (by decide +kernel) rfl, gm (i := 900) (by decide +kernel) rfl, by decide +kernel, by decide +kernel, by decide +kernel⟩, gm (i := 898) (by decide +kernel) rfl, gm (i := 899) (by decide +kernel) rfl⟩
theorem v_X6_statement : VY yX6_statement cX6_statement 2 (some .boolean) 0 := ⟨⟨gm (i := 89) (by decide +kernel) rfl, gm (i := 904) (by decide +kernel) rfl, by decide +kernel, by decide +kernel, by decide +kernel⟩, gm (i := 903) (by decide +kernel) rfl, gm (i := 27) (by decide +kernel) rfl⟩
theorem v_X6_sign : VY yX6_sign cX6_sign 1 (some .int) 0 := ⟨⟨gm (i := 89) (by decide +kernel) rfl, gm (i := 908) (by decide +kernel) rfl, by decide +kernel, by decide +kernel, by decide +kernel⟩, gm (i := 907) (by decide +kernel) rfl, gm (i := 28) (by decide +kernel) rfl⟩
theorem v_X6_readsAll : VY yX6_readsAll cX6_readsAll 2 (some .boolean) 1 := ⟨⟨gm (i := 89) (by decide +kernel) rfl, gm (i := 912) (by decide +kernel) rfl, by decide +kernel, by decide +kernel, by decide +kernel⟩, gm (i := 911) (by decide +kernel) rfl, gm (i := 29) (by decide +kernel) rfl⟩
theorem v_X6_readsDigits : VY yX6_readsDigits cX6_readsDigits 4 (some .boolean) 1 := ⟨⟨gm (i := 89) (by decide +kernel) rfl, gm (i := 916) (by decide +kernel) rfl, by decide +kernel, by decide +kernel, by decide +kernel⟩, gm (i := 915) (by decide +kernel) rfl, gm (i := 30) (by decide +kernel) rfl⟩
theorem s_X6_isIn : SY yX6_isIn cX6_isIn 3 (some .boolean) 3 := ⟨⟨gm (i := 89) (by decide +kernel) rfl, gm (i := 919) (by decide +kernel) rfl, by decide +kernel, by decide +kernel, by decide +kernel⟩, gm (i := 918) (by decide +kernel) rfl⟩
theorem v_X6_passesAll : VY yX6_passesAll cX6_passesAll 3 none 2 := ⟨⟨gm (i := 89) (by decide +kernel) rfl, gm (i := 923) (by decide +kernel) rfl, by decide +kernel, by decide +kernel, by decide +kernel⟩, gm (i := 922) (by decide +kernel) rfl, gm (i := 31) (by decide +kernel) rfl⟩
theorem v_X6_passes : VY yX6_passes cX6_passes 3 none 1 := ⟨⟨gm (i := 89) (by decide +kernel) rfl, gm (i := 927) (by decide +kernel) rfl, by decide +kernel, by decide +kernel, by decide +kernel⟩, gm (i := 926) (by decide +kernel) rfl, gm (i := 32) (by decide +kernel) rfl⟩
theorem v_X6_passOne : VY yX6_passOne cX6_passOne 3 (some .int) 1 := ⟨⟨gm (i := 89) (by decide +kernel) rfl, gm (i := 931) (by decide +kernel) rfl, by decide +kernel, by decide +kernel, by decide +kernel⟩, gm (i := 930) (by decide +kernel) rfl, gm (i := 33) (by decide +kernel) rfl⟩
theorem v_X6_comesTold : VY yX6_comesTold cX6_comesTold 3 (some .boolean) 1 := ⟨⟨gm (i := 89) (by decide +kernel) rfl, gm (i := 935) (by decide +kernel) rfl, by decide +kernel, by decide +kernel, by decide +kernel⟩, gm (i := 934) (by decide +kernel) rfl, gm (i := 34) (by decide +kernel) rfl⟩
theorem v_X6_comesFront : VY yX6_comesFront cX6_comesFront 2 (some .boolean) 1 := ⟨⟨gm (i := 89) (by decide +kernel) rfl, gm (i := 939) (by decide +kernel) rfl, by decide +kernel, by decide +kernel, by decide +kernel⟩, gm (i := 938) (by decide +kernel) rfl, gm (i := 35) (by decide +kernel) rfl⟩
theorem v_X6_isFrontMore : VY yX6_isFrontMore cX6_isFrontMore 4 none 3 := ⟨⟨gm (i := 89) (by decide +kernel) rfl, gm (i := 943) (by decide +kernel) rfl, by decide +kernel, by decide +kernel, by decide +kernel⟩, gm (i := 942) (by decide +kernel) rfl, gm (i := 36) (by decide +kernel) rfl⟩
theorem v_X6_comesPerson : VY yX6_comesPerson cX6_comesPerson 2 (some .boolean) 1 := ⟨⟨gm (i := 89) (by decide +kernel) rfl, gm (i := 947) (by decide +kernel) rfl, by decide +kernel, by decide +kernel, by decide +kernel⟩, gm (i := 946) (by decide +kernel) rfl, gm (i := 37) (by decide +kernel) rfl⟩
theorem s_X6_isCell : SY yX6_isCell cX6_isCell 1 (some .boolean) 1 := ⟨⟨gm (i := 89) (by decide +kernel) rfl, gm (i := 950) (by decide +kernel) rfl, by decide +kernel, by decide +kernel, by decide +kernel⟩, gm (i := 949) (by decide +kernel) rfl⟩
theorem v_X6_isPersonMore : VY yX6_isPersonMore cX6_isPersonMore 4 none 3 := ⟨⟨gm (i := 89) (by decide +kernel) rfl, gm (i := 954) (by decide +kernel) rfl, by decide +kernel, by decide +kernel, by decide +kernel⟩, gm (i := 953) (by decide +kernel) rfl, gm (i := 38) (by decide +kernel) rfl⟩
theorem v_X6_comesThing : VY yX6_comesThing cX6_comesThing 2 (some .boolean) 1 := ⟨⟨gm (i := 89) (by decide +kernel) rfl, gm (i := 958) (by decide +kernel) rfl, by decide +kernel, by decide +kernel, by decide +kernel⟩, gm (i := 957) (by decide +kernel) rfl, gm (i := 39) (by decide +kernel) rfl⟩
theorem v_X6_isThingMore : VY yX6_isThingMore cX6_isThingMore 3 none 2 := ⟨⟨gm (i := 89) (by decide +kernel) rfl, gm (i := 962) (by decide +kernel) rfl, by decide +kernel, by decide +kernel, by decide +kernel⟩, gm (i := 961) (by decide +kernel) rfl, gm (i := 40) (by decide +kernel) rfl⟩
theorem v_X6_comesOwner : VY yX6_comesOwner cX6_comesOwner 3 (some .boolean) 2 := ⟨⟨gm (i := 89) (by decide +kernel) rfl, gm (i := 966) (by decide +kernel) rfl, by decide +kernel, by decide +kernel, by decide +kernel⟩, gm (i := 965) (by decide +kernel) rfl, gm (i := 41) (by decide +kernel) rfl⟩
theorem v_X6_isThing : VY yX6_isThing cX6_isThing 2 (some .boolean) 1 := ⟨⟨gm (i := 89) (by decide +kernel) rfl, gm (i := 970) (by decide +kernel) rfl, by decide +kernel, by decide +kernel, by decide +kernel⟩, gm (i := 969) (by decide +kernel) rfl, gm (i := 42) (by decide +kernel) rfl⟩
theorem v_X6_isPerson : VY yX6_isPerson cX6_isPerson 2 (some .boolean) 1 := ⟨⟨gm (i := 89) (by decide +kernel) rfl, gm (i := 974) (by decide +kernel) rfl, by decide +kernel, by decide +kernel, by decide +kernel⟩, gm (i := 973) (by decide +kernel) rfl, gm (i := 43) (by decide +kernel) rfl⟩
theorem v_X6_comesStanding : VY yX6_comesStanding cX6_comesStanding 3 (some .boolean) 2 := ⟨⟨gm (i := 89) (by decide +kernel) rfl, gm (i := 978) (by decide +kernel) rfl, by decide +kernel, by decide +kernel, by decide +kernel⟩, gm (i := 977) (by decide +kernel) rfl, gm (i := 44) (by decide +kernel) rfl⟩
theorem v_X6_comesNumber : VY yX6_comesNumber cX6_comesNumber 3 (some .boolean) 2 := ⟨⟨gm (i := 89) (by decide +kernel) rfl, gm (i := 982) (by decide +kernel) rfl, by decide +kernel, by decide +kernel, by decide +kernel⟩, gm (i := 981) (by decide +kernel) rfl, gm (i := 45) (by decide +kernel) rfl⟩
theorem v_X6_goes : VY yX6_goes cX6_goes 3 none 1 := ⟨⟨gm (i := 89) (by decide +kernel) rfl, gm (i := 986) (by decide +kernel) rfl, by decide +kernel, by decide +kernel, by decide +kernel⟩, gm (i := 985) (by decide +kernel) rfl, gm (i := 46) (by decide +kernel) rfl⟩
theorem v_X6_goesHour : VY yX6_goesHour cX6_goesHour 2 none 0 := ⟨⟨gm (i := 89) (by decide +kernel) rfl, gm (i := 990) (by decide +kernel) rfl, by decide +kernel, by decide +kernel, by decide +kernel⟩, gm (i := 989) (by decide +kernel) rfl, gm (i := 47) (by decide +kernel) rfl⟩
theorem v_X6_isFoggy : VY yX6_isFoggy cX6_isFoggy 2 (some .boolean) 1 := ⟨⟨gm (i := 89) (by decide +kernel) rfl, gm (i := 994) (by decide +kernel) rfl, by decide +kernel, by decide +kernel, by decide +kernel⟩, gm (i := 993) (by decide +kernel) rfl, gm (i := 48) (by decide +kernel) rfl⟩
theorem v_X6_fogOf : VY yX6_fogOf cX6_fogOf 4 (some .int) 1 := ⟨⟨gm (i := 89) (by decide +kernel) rfl, gm (i := 998) (by decide +kernel) rfl, by decide +kernel, by decide +kernel, by decide +kernel⟩, gm (i := 997) (by decide +kernel) rfl, gm (i := 49) (by decide +kernel) rfl⟩
theorem v_X6_airIn : VY yX6_airIn cX6_airIn 5 (some .int) 2 := ⟨⟨gm (i := 89) (by decide +kernel) rfl, gm (i := 1002) (by decide +kernel) rfl, by decide +kernel, by decide +kernel, by decide +kernel⟩, gm (i := 1001) (by decide +kernel) rfl, gm (i := 50) (by decide +kernel) rfl⟩
theorem v_X6_asksBack : VY yX6_asksBack cX6_asksBack 6 none 2 := ⟨⟨gm (i := 89) (by decide +kernel) rfl, gm (i := 1006) (by decide +kernel) rfl, by decide +kernel, by decide +kernel, by decide +kernel⟩, gm (i := 1005) (by decide +kernel) rfl, gm (i := 51) (by decide +kernel) rfl⟩
theorem v_X6_airBy : VY yX6_airBy cX6_airBy 7 (some .int) 2 := ⟨⟨gm (i := 89) (by decide +kernel) rfl, gm (i := 1010) (by decide +kernel) rfl, by decide +kernel, by decide +kernel, by decide +kernel⟩, gm (i := 1009) (by decide +kernel) rfl, gm (i := 52) (by decide +kernel) rfl⟩
theorem s_X6_greater : SY yX6_greater cX6_greater 2 (some .int) 2 := ⟨⟨gm (i := 89) (by decide +kernel) rfl, gm (i := 1013) (by decide +kernel) rfl, by decide +kernel, by decide +kernel, by decide +kernel⟩, gm (i := 1012) (by decide +kernel) rfl⟩
theorem s_X6_apart : SY yX6_apart cX6_apart 2 (some .int) 2 := ⟨⟨gm (i := 89) (by decide +kernel) rfl, gm (i := 1016) (by decide +kernel) rfl, by decide +kernel, by decide +kernel, by decide +kernel⟩, gm (i := 1015) (by decide +kernel) rfl⟩
theorem v_X6_steam : VY yX6_steam cX6_steam 2 (some .int) 1 := ⟨⟨gm (i := 89) (by decide +kernel) rfl, gm (i := 1020) (by decide +kernel) rfl, by decide +kernel, by decide +kernel, by decide +kernel⟩, gm (i := 1019) (by decide +kernel) rfl, gm (i := 53) (by decide +kernel) rfl⟩
theorem v_X6_goesPerson : VY yX6_goesPerson cX6_goesPerson 5 none 1 := ⟨⟨gm (i := 89) (by decide +kernel) rfl, gm (i := 1024) (by decide +kernel) rfl, by decide +kernel, by decide +kernel, by decide +kernel⟩, gm (i := 1023) (by decide +kernel) rfl, gm (i := 54) (by decide +kernel) rfl⟩
theorem v_X6_goal : VY yX6_goal cX6_goal 3 (some .int) 2 := ⟨⟨gm (i := 89) (by decide +kernel) rfl, gm (i := 1028) (by decide +kernel) rfl, by decide +kernel, by decide +kernel, by decide +kernel⟩, gm (i := 1027) (by decide +kernel) rfl, gm (i := 55) (by decide +kernel) rfl⟩
theorem v_X6_goalAsChild : VY yX6_goalAsChild cX6_goalAsChild 4 (some .int) 1 := ⟨⟨gm (i := 89) (by decide +kernel) rfl, gm (i := 1032) (by decide +kernel) rfl, by decide +kernel, by decide +kernel, by decide +kernel⟩, gm (i := 1031) (by decide +kernel) rfl, gm (i := 56) (by decide +kernel) rfl⟩
theorem s_X6_far : SY yX6_far cX6_far 2 (some .int) 2 := ⟨⟨gm (i := 89) (by decide +kernel) rfl, gm (i := 1035) (by decide +kernel) rfl, by decide +kernel, by decide +kernel, by decide +kernel⟩, gm (i := 1034) (by decide +kernel) rfl⟩
theorem v_X6_goalAsThief : VY yX6_goalAsThief cX6_goalAsThief 4 (some .int) 1 := ⟨⟨gm (i := 89) (by decide +kernel) rfl, gm (i := 1039) (by decide +kernel) rfl, by decide +kernel, by decide +kernel, by decide +kernel⟩, gm (i := 1038) (by decide +kernel) rfl, gm (i := 57) (by decide +kernel) rfl⟩
theorem v_X6_goalAsLawyer : VY yX6_goalAsLawyer cX6_goalAsLawyer 4 (some .int) 1 := ⟨⟨gm (i := 89) (by decide +kernel) rfl, gm (i := 1043) (by decide +kernel) rfl, by decide +kernel, by decide +kernel, by decide +kernel⟩, gm (i := 1042) (by decide +kernel) rfl, gm (i := 58) (by decide +kernel) rfl⟩
theorem v_X6_pace : VY yX6_pace cX6_pace 2 (some .int) 1 := ⟨⟨gm (i := 89) (by decide +kernel) rfl, gm (i := 1047) (by decide +kernel) rfl, by decide +kernel, by decide +kernel, by decide +kernel⟩, gm (i := 1046) (by decide +kernel) rfl, gm (i := 59) (by decide +kernel) rfl⟩
theorem s_X6_nearer : SY yX6_nearer cX6_nearer 2 (some .int) 2 := ⟨⟨gm (i := 89) (by decide +kernel) rfl, gm (i := 1050) (by decide +kernel) rfl, by decide +kernel, by decide +kernel, by decide +kernel⟩, gm (i := 1049) (by decide +kernel) rfl⟩
theorem v_X6_grabs : VY yX6_grabs cX6_grabs 2 (some .int) 1 := ⟨⟨gm (i := 89) (by decide +kernel) rfl, gm (i := 1054) (by decide +kernel) rfl, by decide +kernel, by decide +kernel, by decide +kernel⟩, gm (i := 1053) (by decide +kernel) rfl, gm (i := 60) (by decide +kernel) rfl⟩
theorem v_X6_mayTake : VY yX6_mayTake cX6_mayTake 3 (some .boolean) 2 := ⟨⟨gm (i := 89) (by decide +kernel) rfl, gm (i := 1058) (by decide +kernel) rfl, by decide +kernel, by decide +kernel, by decide +kernel⟩, gm (i := 1057) (by decide +kernel) rfl, gm (i := 61) (by decide +kernel) rfl⟩
theorem v_X6_back : VY yX6_back cX6_back 1 (some .int) 0 := ⟨⟨gm (i := 89) (by decide +kernel) rfl, gm (i := 1062) (by decide +kernel) rfl, by decide +kernel, by decide +kernel, by decide +kernel⟩, gm (i := 1060) (by decide +kernel) rfl, gm (i := 1061) (by decide +kernel) rfl⟩
theorem v_X6_image : VY yX6_image cX6_image 1 (some .int) 0 := ⟨⟨gm (i := 89) (by decide +kernel) rfl, gm (i := 1066) (by decide +kernel) rfl, by decide +kernel, by decide +kernel, by decide +kernel⟩, gm (i := 1064) (by decide +kernel) rfl, gm (i := 1065) (by decide +kernel) rfl⟩
theorem v_X6_restore : VY yX6_restore cX6_restore 1 (some .int) 0 := ⟨⟨gm (i := 89) (by decide +kernel) rfl, gm (i := 1070) (by decide +kernel) rfl, by decide +kernel, by decide +kernel, by decide +kernel⟩, gm (i := 1068) (by decide +kernel) rfl, gm (i := 1069) (by decide +kernel) rfl⟩
theorem v_X6_person : VY yX6_person cX6_person 3 (some .int) 2 := ⟨⟨gm (i := 89) (by decide +kernel) rfl, gm (i := 1074) (by decide +kernel) rfl, by decide +kernel, by decide +kernel, by decide +kernel⟩, gm (i := 1072) (by decide +kernel) rfl, gm (i := 1073) (by decide +kernel) rfl⟩
theorem v_X6_worthsOf : VY yX6_worthsOf cX6_worthsOf 4 (some .int) 1 := ⟨⟨gm (i := 89) (by decide +kernel) rfl, gm (i := 1078) (by decide +kernel) rfl, by decide +kernel, by decide +kernel, by decide +kernel⟩, gm (i := 1077) (by decide +kernel) rfl, gm (i := 62) (by decide +kernel) rfl⟩
theorem v_X6_thing : VY yX6_thing cX6_thing 3 (some .int) 2 := ⟨⟨gm (i := 89) (by decide +kernel) rfl, gm (i := 1082) (by decide +kernel) rfl, by decide +kernel, by decide +kernel, by decide +kernel⟩, gm (i := 1080) (by decide +kernel) rfl, gm (i := 1081) (by decide +kernel) rfl⟩
theorem v_X6_front : VY yX6_front cX6_front 3 (some .int) 2 := ⟨⟨gm (i := 89) (by decide +kernel) rfl, gm (i := 1086) (by decide +kernel) rfl, by decide +kernel, by decide +kernel, by decide +kernel⟩, gm (i := 1084) (by decide +kernel) rfl, gm (i := 1085) (by decide +kernel) rfl⟩
theorem v_X6_isFront : VY yX6_isFront cX6_isFront 2 (some .boolean) 1 := ⟨⟨gm (i := 89) (by decide +kernel) rfl, gm (i := 1090) (by decide +kernel) rfl, by decide +kernel, by decide +kernel, by decide +kernel⟩, gm (i := 1089) (by decide +kernel) rfl, gm (i := 63) (by decide +kernel) rfl⟩
theorem v_X6_cell : VY yX6_cell cX6_cell 3 (some .int) 2 := ⟨⟨gm (i := 89) (by decide +kernel) rfl, gm (i := 1094) (by decide +kernel) rfl, by decide +kernel, by decide +kernel, by decide +kernel⟩, gm (i := 1092) (by decide +kernel) rfl, gm (i := 1093) (by decide +kernel) rfl⟩
theorem s_X6_setAt : SY yX6_setAt cX6_setAt 5 (some .int) 3 := ⟨⟨gm (i := 89) (by decide +kernel) rfl, gm (i := 1097) (by decide +kernel) rfl, by decide +kernel, by decide +kernel, by decide +kernel⟩, gm (i := 1096) (by decide +kernel) rfl⟩
theorem v_X6_blows : VY yX6_blows cX6_blows 5 (some .int) 3 := ⟨⟨gm (i := 89) (by decide +kernel) rfl, gm (i := 1101) (by decide +kernel) rfl, by decide +kernel, by decide +kernel, by decide +kernel⟩, gm (i := 1099) (by decide +kernel) rfl, gm (i := 1100) (by decide +kernel) rfl⟩
theorem v_X6_comes : VY yX6_comes cX6_comes 5 (some .int) 3 := ⟨⟨gm (i := 89) (by decide +kernel) rfl, gm (i := 1105) (by decide +kernel) rfl, by decide +kernel, by decide +kernel, by decide +kernel⟩, gm (i := 1103) (by decide +kernel) rfl, gm (i := 1104) (by decide +kernel) rfl⟩
theorem v_X6_lies : VY yX6_lies cX6_lies 4 (some .int) 2 := ⟨⟨gm (i := 89) (by decide +kernel) rfl, gm (i := 1109) (by decide +kernel) rfl, by decide +kernel, by decide +kernel, by decide +kernel⟩, gm (i := 1107) (by decide +kernel) rfl, gm (i := 1108) (by decide +kernel) rfl⟩
theorem v_X6_thick : VY yX6_thick cX6_thick 4 (some .int) 1 := ⟨⟨gm (i := 89) (by decide +kernel) rfl, gm (i := 1113) (by decide +kernel) rfl, by decide +kernel, by decide +kernel, by decide +kernel⟩, gm (i := 1111) (by decide +kernel) rfl, gm (i := 1112) (by decide +kernel) rfl⟩
theorem v_X6_remembers : VY yX6_remembers cX6_remembers 1 none 0 := ⟨⟨gm (i := 89) (by decide +kernel) rfl, gm (i := 1117) (by decide +kernel) rfl, by decide +kernel, by decide +kernel, by decide +kernel⟩, gm (i := 1116) (by decide +kernel) rfl, gm (i := 64) (by decide +kernel) rfl⟩
theorem v_X6_owns : VY yX6_owns cX6_owns 4 (some .int) 2 := ⟨⟨gm (i := 89) (by decide +kernel) rfl, gm (i := 1121) (by decide +kernel) rfl, by decide +kernel, by decide +kernel, by decide +kernel⟩, gm (i := 1119) (by decide +kernel) rfl, gm (i := 1120) (by decide +kernel) rfl⟩
theorem v_X6_stands : VY yX6_stands cX6_stands 4 (some .int) 2 := ⟨⟨gm (i := 89) (by decide +kernel) rfl, gm (i := 1125) (by decide +kernel) rfl, by decide +kernel, by decide +kernel, by decide +kernel⟩, gm (i := 1123) (by decide +kernel) rfl, gm (i := 1124) (by decide +kernel) rfl⟩
theorem v_X6_carries : VY yX6_carries cX6_carries 4 (some .int) 2 := ⟨⟨gm (i := 89) (by decide +kernel) rfl, gm (i := 1129) (by decide +kernel) rfl, by decide +kernel, by decide +kernel, by decide +kernel⟩, gm (i := 1127) (by decide +kernel) rfl, gm (i := 1128) (by decide +kernel) rfl⟩
theorem v_X6_hours : VY yX6_hours cX6_hours 3 (some .int) 1 := ⟨⟨gm (i := 89) (by decide +kernel) rfl, gm (i := 1133) (by decide +kernel) rfl, by decide +kernel, by decide +kernel, by decide +kernel⟩, gm (i := 1131) (by decide +kernel) rfl, gm (i := 1132) (by decide +kernel) rfl⟩
theorem v_X6_manyOwned : VY yX6_manyOwned cX6_manyOwned 3 (some .int) 0 := ⟨⟨gm (i := 89) (by decide +kernel) rfl, gm (i := 1137) (by decide +kernel) rfl, by decide +kernel, by decide +kernel, by decide +kernel⟩, gm (i := 1136) (by decide +kernel) rfl, gm (i := 65) (by decide +kernel) rfl⟩
theorem v_X6_fogThen : VY yX6_fogThen cX6_fogThen 5 (some .int) 2 := ⟨⟨gm (i := 89) (by decide +kernel) rfl, gm (i := 1141) (by decide +kernel) rfl, by decide +kernel, by decide +kernel, by decide +kernel⟩, gm (i := 1139) (by decide +kernel) rfl, gm (i := 1140) (by decide +kernel) rfl⟩
theorem v_X6_minds : VY yX6_minds cX6_minds 1 none 0 := ⟨⟨gm (i := 89) (by decide +kernel) rfl, gm (i := 1145) (by decide +kernel) rfl, by decide +kernel, by decide +kernel, by decide +kernel⟩, gm (i := 1144) (by decide +kernel) rfl, gm (i := 66) (by decide +kernel) rfl⟩
theorem v_X6_forgets : VY yX6_forgets cX6_forgets 1 none 0 := ⟨⟨gm (i := 89) (by decide +kernel) rfl, gm (i := 1149) (by decide +kernel) rfl, by decide +kernel, by decide +kernel, by decide +kernel⟩, gm (i := 1148) (by decide +kernel) rfl, gm (i := 67) (by decide +kernel) rfl⟩
theorem v_X6_then : VY yX6_then cX6_then 5 (some .int) 2 := ⟨⟨gm (i := 89) (by decide +kernel) rfl, gm (i := 1153) (by decide +kernel) rfl, by decide +kernel, by decide +kernel, by decide +kernel⟩, gm (i := 1151) (by decide +kernel) rfl, gm (i := 1152) (by decide +kernel) rfl⟩
theorem v_X6_foggyCells : VY yX6_foggyCells cX6_foggyCells 3 (some .int) 0 := ⟨⟨gm (i := 89) (by decide +kernel) rfl, gm (i := 1157) (by decide +kernel) rfl, by decide +kernel, by decide +kernel, by decide +kernel⟩, gm (i := 1156) (by decide +kernel) rfl, gm (i := 68) (by decide +kernel) rfl⟩
theorem v_X6_dropped : VY yX6_dropped cX6_dropped 3 (some .int) 0 := ⟨⟨gm (i := 89) (by decide +kernel) rfl, gm (i := 1161) (by decide +kernel) rfl, by decide +kernel, by decide +kernel, by decide +kernel⟩, gm (i := 1160) (by decide +kernel) rfl, gm (i := 69) (by decide +kernel) rfl⟩
theorem v_X6_ownerThen : VY yX6_ownerThen cX6_ownerThen 5 (some .int) 2 := ⟨⟨gm (i := 89) (by decide +kernel) rfl, gm (i := 1165) (by decide +kernel) rfl, by decide +kernel, by decide +kernel, by decide +kernel⟩, gm (i := 1163) (by decide +kernel) rfl, gm (i := 1164) (by decide +kernel) rfl⟩
theorem v_X6_personThen : VY yX6_personThen cX6_personThen 6 (some .int) 3 := ⟨⟨gm (i := 89) (by decide +kernel) rfl, gm (i := 1169) (by decide +kernel) rfl, by decide +kernel, by decide +kernel, by decide +kernel⟩, gm (i := 1167) (by decide +kernel) rfl, gm (i := 1168) (by decide +kernel) rfl⟩
theorem v_X6_when : VY yX6_when cX6_when 5 (some .int) 2 := ⟨⟨gm (i := 89) (by decide +kernel) rfl, gm (i := 1173) (by decide +kernel) rfl, by decide +kernel, by decide +kernel, by decide +kernel⟩, gm (i := 1171) (by decide +kernel) rfl, gm (i := 1172) (by decide +kernel) rfl⟩
theorem v_X6_first : VY yX6_first cX6_first 4 (some .int) 0 := ⟨⟨gm (i := 89) (by decide +kernel) rfl, gm (i := 1177) (by decide +kernel) rfl, by decide +kernel, by decide +kernel, by decide +kernel⟩, gm (i := 1175) (by decide +kernel) rfl, gm (i := 1176) (by decide +kernel) rfl⟩
theorem s_X6_has : SY yX6_has cX6_has 2 (some .boolean) 2 := ⟨⟨gm (i := 89) (by decide +kernel) rfl, gm (i := 1180) (by decide +kernel) rfl, by decide +kernel, by decide +kernel, by decide +kernel⟩, gm (i := 1179) (by decide +kernel) rfl⟩
theorem v_X6_clears : VY yX6_clears cX6_clears 4 (some .int) 1 := ⟨⟨gm (i := 89) (by decide +kernel) rfl, gm (i := 1184) (by decide +kernel) rfl, by decide +kernel, by decide +kernel, by decide +kernel⟩, gm (i := 1182) (by decide +kernel) rfl, gm (i := 1183) (by decide +kernel) rfl⟩
theorem v_X6_stand : VY yX6_stand cX6_stand 9 (some .int) 3 := ⟨⟨gm (i := 89) (by decide +kernel) rfl, gm (i := 1188) (by decide +kernel) rfl, by decide +kernel, by decide +kernel, by decide +kernel⟩, gm (i := 1186) (by decide +kernel) rfl, gm (i := 1187) (by decide +kernel) rfl⟩
theorem v_X6_kettle : VY yX6_kettle cX6_kettle 7 (some .int) 3 := ⟨⟨gm (i := 89) (by decide +kernel) rfl, gm (i := 1192) (by decide +kernel) rfl, by decide +kernel, by decide +kernel, by decide +kernel⟩, gm (i := 1190) (by decide +kernel) rfl, gm (i := 1191) (by decide +kernel) rfl⟩
theorem v_X6_without : VY yX6_without cX6_without 8 (some .int) 2 := ⟨⟨gm (i := 89) (by decide +kernel) rfl, gm (i := 1196) (by decide +kernel) rfl, by decide +kernel, by decide +kernel, by decide +kernel⟩, gm (i := 1194) (by decide +kernel) rfl, gm (i := 1195) (by decide +kernel) rfl⟩
theorem v_X6_blowsOff : VY yX6_blowsOff cX6_blowsOff 3 none 1 := ⟨⟨gm (i := 89) (by decide +kernel) rfl, gm (i := 1200) (by decide +kernel) rfl, by decide +kernel, by decide +kernel, by decide +kernel⟩, gm (i := 1199) (by decide +kernel) rfl, gm (i := 70) (by decide +kernel) rfl⟩
theorem s_X6_bits : SY yX6_bits cX6_bits 3 (some .int) 1 := ⟨⟨gm (i := 89) (by decide +kernel) rfl, gm (i := 1203) (by decide +kernel) rfl, by decide +kernel, by decide +kernel, by decide +kernel⟩, gm (i := 1202) (by decide +kernel) rfl⟩
theorem v_X6_swap : VY yX6_swap cX6_swap 8 (some .int) 1 := ⟨⟨gm (i := 89) (by decide +kernel) rfl, gm (i := 1207) (by decide +kernel) rfl, by decide +kernel, by decide +kernel, by decide +kernel⟩, gm (i := 1205) (by decide +kernel) rfl, gm (i := 1206) (by decide +kernel) rfl⟩
theorem s_X6_changes : SY yX6_changes cX6_changes 4 none 3 := ⟨⟨gm (i := 89) (by decide +kernel) rfl, gm (i := 1210) (by decide +kernel) rfl, by decide +kernel, by decide +kernel, by decide +kernel⟩, gm (i := 1209) (by decide +kernel) rfl⟩
theorem v_X6_whatKind : VY yX6_whatKind cX6_whatKind 6 (some .int) 2 := ⟨⟨gm (i := 89) (by decide +kernel) rfl, gm (i := 1214) (by decide +kernel) rfl, by decide +kernel, by decide +kernel, by decide +kernel⟩, gm (i := 1212) (by decide +kernel) rfl, gm (i := 1213) (by decide +kernel) rfl⟩
theorem v_X6_wentSo : VY yX6_wentSo cX6_wentSo 3 (some .boolean) 1 := ⟨⟨gm (i := 89) (by decide +kernel) rfl, gm (i := 1218) (by decide +kernel) rfl, by decide +kernel, by decide +kernel, by decide +kernel⟩, gm (i := 1217) (by decide +kernel) rfl, gm (i := 71) (by decide +kernel) rfl⟩
theorem v_X6_whichFront : VY yX6_whichFront cX6_whichFront 6 (some .int) 2 := ⟨⟨gm (i := 89) (by decide +kernel) rfl, gm (i := 1222) (by decide +kernel) rfl, by decide +kernel, by decide +kernel, by decide +kernel⟩, gm (i := 1220) (by decide +kernel) rfl, gm (i := 1221) (by decide +kernel) rfl⟩
theorem v_X6_blewSo : VY yX6_blewSo cX6_blewSo 3 (some .boolean) 1 := ⟨⟨gm (i := 89) (by decide +kernel) rfl, gm (i := 1226) (by decide +kernel) rfl, by decide +kernel, by decide +kernel, by decide +kernel⟩, gm (i := 1225) (by decide +kernel) rfl, gm (i := 72) (by decide +kernel) rfl⟩
theorem v_X6_two : VY yX6_two cX6_two 6 (some .int) 3 := ⟨⟨gm (i := 89) (by decide +kernel) rfl, gm (i := 1230) (by decide +kernel) rfl, by decide +kernel, by decide +kernel, by decide +kernel⟩, gm (i := 1228) (by decide +kernel) rfl, gm (i := 1229) (by decide +kernel) rfl⟩
theorem v_X6_areTwo : VY yX6_areTwo cX6_areTwo 3 (some .boolean) 2 := ⟨⟨gm (i := 89) (by decide +kernel) rfl, gm (i := 1234) (by decide +kernel) rfl, by decide +kernel, by decide +kernel, by decide +kernel⟩, gm (i := 1233) (by decide +kernel) rfl, gm (i := 73) (by decide +kernel) rfl⟩
theorem v_X6_findEnds : VY yX6_findEnds cX6_findEnds 5 none 3 := ⟨⟨gm (i := 89) (by decide +kernel) rfl, gm (i := 1238) (by decide +kernel) rfl, by decide +kernel, by decide +kernel, by decide +kernel⟩, gm (i := 1237) (by decide +kernel) rfl, gm (i := 74) (by decide +kernel) rfl⟩
theorem v_X6_sun : VY yX6_sun cX6_sun 15 (some .long) 5 := ⟨⟨gm (i := 89) (by decide +kernel) rfl, gm (i := 1242) (by decide +kernel) rfl, by decide +kernel, by decide +kernel, by decide +kernel⟩, gm (i := 1240) (by decide +kernel) rfl, gm (i := 1241) (by decide +kernel) rfl⟩
theorem v_X6_lowestOf : VY yX6_lowestOf cX6_lowestOf 2 (some .long) 1 := ⟨⟨gm (i := 89) (by decide +kernel) rfl, gm (i := 1246) (by decide +kernel) rfl, by decide +kernel, by decide +kernel, by decide +kernel⟩, gm (i := 1245) (by decide +kernel) rfl, gm (i := 75) (by decide +kernel) rfl⟩
theorem s_X6_partOf : SY yX6_partOf cX6_partOf 5 (some .long) 3 := ⟨⟨gm (i := 89) (by decide +kernel) rfl, gm (i := 1250) (by decide +kernel) rfl, by decide +kernel, by decide +kernel, by decide +kernel⟩, gm (i := 1249) (by decide +kernel) rfl⟩
theorem s_X6_divisor : SY yX6_divisor cX6_divisor 10 (some .long) 2 := ⟨⟨gm (i := 89) (by decide +kernel) rfl, gm (i := 1253) (by decide +kernel) rfl, by decide +kernel, by decide +kernel, by decide +kernel⟩, gm (i := 1252) (by decide +kernel) rfl⟩
theorem v_X6_islands : VY yX6_islands cX6_islands 2 (some .int) 1 := ⟨⟨gm (i := 89) (by decide +kernel) rfl, gm (i := 1257) (by decide +kernel) rfl, by decide +kernel, by decide +kernel, by decide +kernel⟩, gm (i := 1255) (by decide +kernel) rfl, gm (i := 1256) (by decide +kernel) rfl⟩
theorem v_X6_pieces : VY yX6_pieces cX6_pieces 7 (some .int) 1 := ⟨⟨gm (i := 89) (by decide +kernel) rfl, gm (i := 1261) (by decide +kernel) rfl, by decide +kernel, by decide +kernel, by decide +kernel⟩, gm (i := 1260) (by decide +kernel) rfl, gm (i := 76) (by decide +kernel) rfl⟩
theorem s_X6_pieceWith : SY yX6_pieceWith cX6_pieceWith 4 (some .int) 2 := ⟨⟨gm (i := 89) (by decide +kernel) rfl, gm (i := 1264) (by decide +kernel) rfl, by decide +kernel, by decide +kernel, by decide +kernel⟩, gm (i := 1263) (by decide +kernel) rfl⟩
theorem s_X6_grown : SY yX6_grown cX6_grown 6 (some .int) 2 := ⟨⟨gm (i := 89) (by decide +kernel) rfl, gm (i := 1267) (by decide +kernel) rfl, by decide +kernel, by decide +kernel, by decide +kernel⟩, gm (i := 1266) (by decide +kernel) rfl⟩
theorem s_X6_beside : SY yX6_beside cX6_beside 2 (some .int) 2 := ⟨⟨gm (i := 89) (by decide +kernel) rfl, gm (i := 1270) (by decide +kernel) rfl, by decide +kernel, by decide +kernel, by decide +kernel⟩, gm (i := 1269) (by decide +kernel) rfl⟩
theorem v_X6_clearRun : VY yX6_clearRun cX6_clearRun 4 (some .int) 0 := ⟨⟨gm (i := 89) (by decide +kernel) rfl, gm (i := 1274) (by decide +kernel) rfl, by decide +kernel, by decide +kernel, by decide +kernel⟩, gm (i := 1272) (by decide +kernel) rfl, gm (i := 1273) (by decide +kernel) rfl⟩
theorem v_X6_way : VY yX6_way cX6_way 6 (some .int) 2 := ⟨⟨gm (i := 89) (by decide +kernel) rfl, gm (i := 1278) (by decide +kernel) rfl, by decide +kernel, by decide +kernel, by decide +kernel⟩, gm (i := 1276) (by decide +kernel) rfl, gm (i := 1277) (by decide +kernel) rfl⟩
theorem v_X6_share : VY yX6_share cX6_share 6 (some .long) 2 := ⟨⟨gm (i := 89) (by decide +kernel) rfl, gm (i := 1282) (by decide +kernel) rfl, by decide +kernel, by decide +kernel, by decide +kernel⟩, gm (i := 1280) (by decide +kernel) rfl, gm (i := 1281) (by decide +kernel) rfl⟩
theorem v_X6_sight : VY yX6_sight cX6_sight 2 (some .int) 1 := ⟨⟨gm (i := 89) (by decide +kernel) rfl, gm (i := 1286) (by decide +kernel) rfl, by decide +kernel, by decide +kernel, by decide +kernel⟩, gm (i := 1284) (by decide +kernel) rfl, gm (i := 1285) (by decide +kernel) rfl⟩
theorem v_X6_richest : VY yX6_richest cX6_richest 3 (some .int) 0 := ⟨⟨gm (i := 89) (by decide +kernel) rfl, gm (i := 1290) (by decide +kernel) rfl, by decide +kernel, by decide +kernel, by decide +kernel⟩, gm (i := 1289) (by decide +kernel) rfl, gm (i := 77) (by decide +kernel) rfl⟩
theorem v_X6_wet : VY yX6_wet cX6_wet 3 (some .int) 0 := ⟨⟨gm (i := 89) (by decide +kernel) rfl, gm (i := 1294) (by decide +kernel) rfl, by decide +kernel, by decide +kernel, by decide +kernel⟩, gm (i := 1293) (by decide +kernel) rfl, gm (i := 78) (by decide +kernel) rfl⟩
theorem v_X6_crowd : VY yX6_crowd cX6_crowd 3 (some .int) 0 := ⟨⟨gm (i := 89) (by decide +kernel) rfl, gm (i := 1298) (by decide +kernel) rfl, by decide +kernel, by decide +kernel, by decide +kernel⟩, gm (i := 1297) (by decide +kernel) rfl, gm (i := 79) (by decide +kernel) rfl⟩
theorem v_X6_alike : VY yX6_alike cX6_alike 4 (some .int) 0 := ⟨⟨gm (i := 89) (by decide +kernel) rfl, gm (i := 1302) (by decide +kernel) rfl, by decide +kernel, by decide +kernel, by decide +kernel⟩, gm (i := 1301) (by decide +kernel) rfl, gm (i := 80) (by decide +kernel) rfl⟩
theorem v_X6_kinds : VY yX6_kinds cX6_kinds 2 (some .int) 1 := ⟨⟨gm (i := 89) (by decide +kernel) rfl, gm (i := 1306) (by decide +kernel) rfl, by decide +kernel, by decide +kernel, by decide +kernel⟩, gm (i := 1304) (by decide +kernel) rfl, gm (i := 1305) (by decide +kernel) rfl⟩
theorem v_X6_row : VY yX6_row cX6_row 3 (some .int) 1 := ⟨⟨gm (i := 89) (by decide +kernel) rfl, gm (i := 1310) (by decide +kernel) rfl, by decide +kernel, by decide +kernel, by decide +kernel⟩, gm (i := 1308) (by decide +kernel) rfl, gm (i := 1309) (by decide +kernel) rfl⟩
theorem v_X6_judge : VY yX6_judge cX6_judge 3 (some .int) 0 := ⟨⟨gm (i := 89) (by decide +kernel) rfl, gm (i := 1314) (by decide +kernel) rfl, by decide +kernel, by decide +kernel, by decide +kernel⟩, gm (i := 1312) (by decide +kernel) rfl, gm (i := 1313) (by decide +kernel) rfl⟩
theorem v_X6_clear : VY yX6_clear cX6_clear 2 (some .int) 0 := ⟨⟨gm (i := 89) (by decide +kernel) rfl, gm (i := 1318) (by decide +kernel) rfl, by decide +kernel, by decide +kernel, by decide +kernel⟩, gm (i := 1316) (by decide +kernel) rfl, gm (i := 1317) (by decide +kernel) rfl⟩
theorem v_X6_lots : VY yX6_lots cX6_lots 7 (some .int) 3 := ⟨⟨gm (i := 89) (by decide +kernel) rfl, gm (i := 1322) (by decide +kernel) rfl, by decide +kernel, by decide +kernel, by decide +kernel⟩, gm (i := 1320) (by decide +kernel) rfl, gm (i := 1321) (by decide +kernel) rfl⟩
theorem v_X6_liesByLot : VY yX6_liesByLot cX6_liesByLot 2 none 0 := ⟨⟨gm (i := 89) (by decide +kernel) rfl, gm (i := 1326) (by decide +kernel) rfl, by decide +kernel, by decide +kernel, by decide +kernel⟩, gm (i := 1325) (by decide +kernel) rfl, gm (i := 81) (by decide +kernel) rfl⟩
theorem v_X6_draw : VY yX6_draw cX6_draw 2 (some .int) 1 := ⟨⟨gm (i := 89) (by decide +kernel) rfl, gm (i := 1330) (by decide +kernel) rfl, by decide +kernel, by decide +kernel, by decide +kernel⟩, gm (i := 1329) (by decide +kernel) rfl, gm (i := 82) (by decide +kernel) rfl⟩
theorem v_X6_worthsOwned : VY yX6_worthsOwned cX6_worthsOwned 3 (some .int) 0 := ⟨⟨gm (i := 89) (by decide +kernel) rfl, gm (i := 1337) (by decide +kernel) rfl, by decide +kernel, by decide +kernel, by decide +kernel⟩, gm (i := 1336) (by decide +kernel) rfl, gm (i := 83) (by decide +kernel) rfl⟩
theorem v_X6_count : VY yX6_count cX6_count 2 (some .int) 1 := ⟨⟨gm (i := 89) (by decide +kernel) rfl, gm (i := 1341) (by decide +kernel) rfl, by decide +kernel, by decide +kernel, by decide +kernel⟩, gm (i := 1339) (by decide +kernel) rfl, gm (i := 1340) (by decide +kernel) rfl⟩
theorem l_L_13 : Cond.methodLink RL 13 yX5_feed ∈ lw_g := gm (i := 286) (by decide +kernel) rfl
theorem l_X5_60 : Cond.methodLink RX5 60 yX5_refuse ∈ lw_g := gm (i := 290) (by decide +kernel) rfl
theorem l_L_18 : Cond.methodLink RL 18 yX5_coast ∈ lw_g := gm (i := 294) (by decide +kernel) rfl
theorem l_X5_64 : Cond.methodLink RX5 64 yX5_wrongLetter ∈ lw_g := gm (i := 298) (by decide +kernel) rfl
theorem l_X5_75 : Cond.methodLink RX5 75 yX5_letterAt ∈ lw_g := gm (i := 302) (by decide +kernel) rfl
theorem l_X5_78 : Cond.methodLink RX5 78 yX5_digitsBehind ∈ lw_g := gm (i := 306) (by decide +kernel) rfl
theorem l_X5_87 : Cond.methodLink RX5 87 yX5_isDigit ∈ lw_g := gm (i := 309) (by decide +kernel) rfl
theorem l_X5_67 : Cond.methodLink RX5 67 yX0_begin ∈ lw_g := gm (i := 312) (by decide +kernel) rfl
theorem l_X0_36 : Cond.methodLink RX0 36 yX4_become ∈ lw_g := gm (i := 316) (by decide +kernel) rfl
theorem l_X4_58 : Cond.methodLink RX4 58 arraycopyName ∈ lw_g := gm (i := 320) (by decide +kernel) rfl
theorem l_X0_40 : Cond.methodLink RX0 40 yX0_look ∈ lw_g := gm (i := 323) (by decide +kernel) rfl
theorem l_X0_46 : Cond.methodLink RX0 46 yX3_rowOf ∈ lw_g := gm (i := 327) (by decide +kernel) rfl
theorem l_X3_37 : Cond.methodLink RX3 37 yX3_isOf ∈ lw_g := gm (i := 331) (by decide +kernel) rfl
theorem l_X3_41 : Cond.methodLink RX3 41 yX3_turnTo ∈ lw_g := gm (i := 335) (by decide +kernel) rfl
theorem l_X3_55 : Cond.methodLink RX3 55 arraycopyName ∈ lw_g := gm (i := 339) (by decide +kernel) rfl
theorem l_X3_45 : Cond.methodLink RX3 45 yX3_airAt ∈ lw_g := gm (i := 340) (by decide +kernel) rfl
theorem l_X3_61 : Cond.methodLink RX3 61 yJ9_max_7cf53 ∈ lw_g := gm (i := 344) (by decide +kernel) rfl
theorem l_X3_66 : Cond.methodLink RX3 66 yX3_airOfFront ∈ lw_g := gm (i := 347) (by decide +kernel) rfl
theorem l_X5_71 : Cond.methodLink RX5 71 yX5_carriedOut ∈ lw_g := gm (i := 351) (by decide +kernel) rfl
theorem l_X5_90 : Cond.methodLink RX5 90 yX5_digitAt ∈ lw_g := gm (i := 355) (by decide +kernel) rfl
theorem l_X5_93 : Cond.methodLink RX5 93 yX4_addFront ∈ lw_g := gm (i := 359) (by decide +kernel) rfl
theorem l_X5_97 : Cond.methodLink RX5 97 yX5_twoDigitsAt ∈ lw_g := gm (i := 363) (by decide +kernel) rfl
theorem l_X5_100 : Cond.methodLink RX5 100 yX4_addPerson ∈ lw_g := gm (i := 367) (by decide +kernel) rfl
theorem l_X5_103 : Cond.methodLink RX5 103 yX4_addThing ∈ lw_g := gm (i := 374) (by decide +kernel) rfl
theorem l_X5_110 : Cond.methodLink RX5 110 yX4_setOwner ∈ lw_g := gm (i := 378) (by decide +kernel) rfl
theorem l_X4_68 : Cond.methodLink RX4 68 yX4_hasThing ∈ lw_g := gm (i := 382) (by decide +kernel) rfl
theorem l_X4_71 : Cond.methodLink RX4 71 yX4_hasPerson ∈ lw_g := gm (i := 386) (by decide +kernel) rfl
theorem l_X5_113 : Cond.methodLink RX5 113 yX4_setPlace ∈ lw_g := gm (i := 390) (by decide +kernel) rfl
theorem l_X5_119 : Cond.methodLink RX5 119 yX0_goOn ∈ lw_g := gm (i := 394) (by decide +kernel) rfl
theorem l_X0_91 : Cond.methodLink RX0 91 yX0_dropInTheClear ∈ lw_g := gm (i := 398) (by decide +kernel) rfl
theorem l_X0_87 : Cond.methodLink RX0 87 yX0_isInFog ∈ lw_g := gm (i := 402) (by decide +kernel) rfl
theorem l_X0_81 : Cond.methodLink RX0 81 yX0_fogOn ∈ lw_g := gm (i := 406) (by decide +kernel) rfl
theorem l_X0_54 : Cond.methodLink RX0 54 yX0_airOn ∈ lw_g := gm (i := 410) (by decide +kernel) rfl
theorem l_X0_70 : Cond.methodLink RX0 70 yX1_steam ∈ lw_g := gm (i := 414) (by decide +kernel) rfl
theorem l_X0_76 : Cond.methodLink RX0 76 yJ9_max_7cf53 ∈ lw_g := gm (i := 417) (by decide +kernel) rfl
theorem l_X0_94 : Cond.methodLink RX0 94 yX0_goal ∈ lw_g := gm (i := 418) (by decide +kernel) rfl
theorem l_X0_127 : Cond.methodLink RX0 127 yX0_airiest ∈ lw_g := gm (i := 422) (by decide +kernel) rfl
theorem l_X0_131 : Cond.methodLink RX0 131 yX0_worthiest ∈ lw_g := gm (i := 426) (by decide +kernel) rfl
theorem l_X0_134 : Cond.methodLink RX0 134 yX0_nearest ∈ lw_g := gm (i := 430) (by decide +kernel) rfl
theorem l_X0_140 : Cond.methodLink RX0 140 yX0_distance ∈ lw_g := gm (i := 434) (by decide +kernel) rfl
theorem l_X0_143 : Cond.methodLink RX0 143 yJ9_abs_0f7a4 ∈ lw_g := gm (i := 437) (by decide +kernel) rfl
theorem l_X0_97 : Cond.methodLink RX0 97 yX0_walk ∈ lw_g := gm (i := 440) (by decide +kernel) rfl
theorem l_X0_114 : Cond.methodLink RX0 114 yX1_pace ∈ lw_g := gm (i := 444) (by decide +kernel) rfl
theorem l_X0_101 : Cond.methodLink RX0 101 yX0_grab ∈ lw_g := gm (i := 447) (by decide +kernel) rfl
theorem l_X0_117 : Cond.methodLink RX0 117 yX1_grabs ∈ lw_g := gm (i := 451) (by decide +kernel) rfl
theorem l_X0_123 : Cond.methodLink RX0 123 yX1_mayTakeAnothers ∈ lw_g := gm (i := 454) (by decide +kernel) rfl
theorem l_X5_84 : Cond.methodLink RX5 84 yX4_become ∈ lw_g := gm (i := 457) (by decide +kernel) rfl
theorem l_L_23 : Cond.methodLink RL 23 yX5_person ∈ lw_g := gm (i := 458) (by decide +kernel) rfl
theorem l_X5_123 : Cond.methodLink RX5 123 yX4_hasPerson ∈ lw_g := gm (i := 462) (by decide +kernel) rfl
theorem l_X5_138 : Cond.methodLink RX5 138 yX1_pace ∈ lw_g := gm (i := 463) (by decide +kernel) rfl
theorem l_X5_144 : Cond.methodLink RX5 144 yX1_grabs ∈ lw_g := gm (i := 464) (by decide +kernel) rfl
theorem l_X5_147 : Cond.methodLink RX5 147 yX1_steam ∈ lw_g := gm (i := 465) (by decide +kernel) rfl
theorem l_X5_150 : Cond.methodLink RX5 150 yX0_look ∈ lw_g := gm (i := 466) (by decide +kernel) rfl
theorem l_X5_153 : Cond.methodLink RX5 153 yX0_goal ∈ lw_g := gm (i := 467) (by decide +kernel) rfl
theorem l_X5_156 : Cond.methodLink RX5 156 yX4_worthsOf ∈ lw_g := gm (i := 468) (by decide +kernel) rfl
theorem l_L_28 : Cond.methodLink RL 28 yX5_thing ∈ lw_g := gm (i := 472) (by decide +kernel) rfl
theorem l_X5_159 : Cond.methodLink RX5 159 yX4_hasThing ∈ lw_g := gm (i := 476) (by decide +kernel) rfl
theorem l_X5_171 : Cond.methodLink RX5 171 yX5_orNone ∈ lw_g := gm (i := 477) (by decide +kernel) rfl
theorem l_L_32 : Cond.methodLink RL 32 yX5_front ∈ lw_g := gm (i := 480) (by decide +kernel) rfl
theorem l_X5_174 : Cond.methodLink RX5 174 yX4_hasFront ∈ lw_g := gm (i := 484) (by decide +kernel) rfl
theorem l_L_36 : Cond.methodLink RL 36 yX5_cell ∈ lw_g := gm (i := 488) (by decide +kernel) rfl
theorem l_X5_186 : Cond.methodLink RX5 186 yX5_isCell ∈ lw_g := gm (i := 492) (by decide +kernel) rfl
theorem l_X5_189 : Cond.methodLink RX5 189 yX0_airOn ∈ lw_g := gm (i := 493) (by decide +kernel) rfl
theorem l_X5_192 : Cond.methodLink RX5 192 yX0_fogOn ∈ lw_g := gm (i := 494) (by decide +kernel) rfl
theorem l_X5_195 : Cond.methodLink RX5 195 yX0_isInFog ∈ lw_g := gm (i := 495) (by decide +kernel) rfl
theorem l_X5_198 : Cond.methodLink RX5 198 yX4_peopleOn ∈ lw_g := gm (i := 496) (by decide +kernel) rfl
theorem l_X5_201 : Cond.methodLink RX5 201 yX4_thingsOn ∈ lw_g := gm (i := 500) (by decide +kernel) rfl
theorem l_L_187 : Cond.methodLink RL 187 yX5_count ∈ lw_g := gm (i := 504) (by decide +kernel) rfl
theorem l_X5_213 : Cond.methodLink RX5 213 yX4_ownedThings ∈ lw_g := gm (i := 508) (by decide +kernel) rfl
theorem l_X4_77 : Cond.methodLink RX4 77 yX4_nobodysThings ∈ lw_g := gm (i := 512) (by decide +kernel) rfl
theorem l_X4_81 : Cond.methodLink RX4 81 yJ6_bitCount_0f7a4 ∈ lw_g := gm (i := 516) (by decide +kernel) rfl
theorem k_J6_265 : Cond.constant RJ6 265 (1431655765) ∈ lw_g := gm (i := 519) (by decide +kernel) rfl
theorem k_J6_266 : Cond.constant RJ6 266 (858993459) ∈ lw_g := gm (i := 520) (by decide +kernel) rfl
theorem k_J6_267 : Cond.constant RJ6 267 (252645135) ∈ lw_g := gm (i := 521) (by decide +kernel) rfl
theorem l_X5_217 : Cond.methodLink RX5 217 yX0_foggyCells ∈ lw_g := gm (i := 522) (by decide +kernel) rfl
theorem l_L_40 : Cond.methodLink RL 40 yX5_blows ∈ lw_g := gm (i := 526) (by decide +kernel) rfl
theorem l_L_45 : Cond.methodLink RL 45 yX5_comes ∈ lw_g := gm (i := 530) (by decide +kernel) rfl
theorem l_L_49 : Cond.methodLink RL 49 yX5_lies ∈ lw_g := gm (i := 534) (by decide +kernel) rfl
theorem l_L_53 : Cond.methodLink RL 53 yX5_thick ∈ lw_g := gm (i := 538) (by decide +kernel) rfl
theorem l_X5_220 : Cond.methodLink RX5 220 yX5_outOfRange ∈ lw_g := gm (i := 542) (by decide +kernel) rfl
theorem l_X5_224 : Cond.methodLink RX5 224 yX5_keepForBack ∈ lw_g := gm (i := 545) (by decide +kernel) rfl
theorem l_L_57 : Cond.methodLink RL 57 yX5_owns ∈ lw_g := gm (i := 549) (by decide +kernel) rfl
theorem l_L_61 : Cond.methodLink RL 61 yX5_stands ∈ lw_g := gm (i := 553) (by decide +kernel) rfl
theorem l_L_65 : Cond.methodLink RL 65 yX5_carries ∈ lw_g := gm (i := 557) (by decide +kernel) rfl
theorem l_L_69 : Cond.methodLink RL 69 yX5_hours ∈ lw_g := gm (i := 561) (by decide +kernel) rfl
theorem l_X5_227 : Cond.methodLink RX5 227 yX5_thinkOn ∈ lw_g := gm (i := 565) (by decide +kernel) rfl
theorem l_L_73 : Cond.methodLink RL 73 yX5_back ∈ lw_g := gm (i := 569) (by decide +kernel) rfl
theorem l_L_77 : Cond.methodLink RL 77 yX5_fogThen ∈ lw_g := gm (i := 573) (by decide +kernel) rfl
theorem l_L_81 : Cond.methodLink RL 81 yX5_then ∈ lw_g := gm (i := 577) (by decide +kernel) rfl
theorem l_X5_230 : Cond.methodLink RX5 230 yX4_nobodysThings ∈ lw_g := gm (i := 581) (by decide +kernel) rfl
theorem l_L_85 : Cond.methodLink RL 85 yX5_ownerThen ∈ lw_g := gm (i := 582) (by decide +kernel) rfl
theorem l_L_89 : Cond.methodLink RL 89 yX5_personThen ∈ lw_g := gm (i := 586) (by decide +kernel) rfl
theorem l_L_93 : Cond.methodLink RL 93 yX5_when ∈ lw_g := gm (i := 590) (by decide +kernel) rfl
theorem l_L_97 : Cond.methodLink RL 97 yX5_first ∈ lw_g := gm (i := 594) (by decide +kernel) rfl
theorem l_X5_233 : Cond.methodLink RX5 233 yX5_leastThing ∈ lw_g := gm (i := 598) (by decide +kernel) rfl
theorem l_L_101 : Cond.methodLink RL 101 yX5_clears ∈ lw_g := gm (i := 601) (by decide +kernel) rfl
theorem l_L_105 : Cond.methodLink RL 105 yX5_stand ∈ lw_g := gm (i := 605) (by decide +kernel) rfl
theorem l_L_109 : Cond.methodLink RL 109 yX5_kettle ∈ lw_g := gm (i := 609) (by decide +kernel) rfl
theorem l_L_113 : Cond.methodLink RL 113 yX5_without ∈ lw_g := gm (i := 613) (by decide +kernel) rfl
theorem l_X5_239 : Cond.methodLink RX5 239 yX4_dropFront ∈ lw_g := gm (i := 617) (by decide +kernel) rfl
theorem l_X4_74 : Cond.methodLink RX4 74 yX4_hasFront ∈ lw_g := gm (i := 621) (by decide +kernel) rfl
theorem l_X5_242 : Cond.methodLink RX5 242 yJ6_bitCount_0f7a4 ∈ lw_g := gm (i := 622) (by decide +kernel) rfl
theorem l_L_117 : Cond.methodLink RL 117 yX5_swap ∈ lw_g := gm (i := 623) (by decide +kernel) rfl
theorem l_X5_247 : Cond.methodLink RX5 247 yX4_change ∈ lw_g := gm (i := 627) (by decide +kernel) rfl
theorem l_L_121 : Cond.methodLink RL 121 yX5_whatKind ∈ lw_g := gm (i := 631) (by decide +kernel) rfl
theorem l_X5_251 : Cond.methodLink RX5 251 yX5_goesByTheRow ∈ lw_g := gm (i := 635) (by decide +kernel) rfl
theorem l_L_125 : Cond.methodLink RL 125 yX5_whichFront ∈ lw_g := gm (i := 639) (by decide +kernel) rfl
theorem l_X5_254 : Cond.methodLink RX5 254 yX5_airIsAsTheRow ∈ lw_g := gm (i := 643) (by decide +kernel) rfl
theorem l_L_129 : Cond.methodLink RL 129 yX5_two ∈ lw_g := gm (i := 647) (by decide +kernel) rfl
theorem l_X5_257 : Cond.methodLink RX5 257 yX4_goHome ∈ lw_g := gm (i := 651) (by decide +kernel) rfl
theorem l_L_133 : Cond.methodLink RL 133 yX5_sun ∈ lw_g := gm (i := 655) (by decide +kernel) rfl
theorem l_X5_260 : Cond.methodLink RX5 260 yX5_refuseLong ∈ lw_g := gm (i := 659) (by decide +kernel) rfl
theorem k_X5_315 : Cond.constantLong RX5 315 (4000000000000000000) ∈ lw_g := gm (i := 663) (by decide +kernel) rfl
theorem l_X5_264 : Cond.methodLink RX5 264 yX5_isOwnedBehind ∈ lw_g := gm (i := 664) (by decide +kernel) rfl
theorem l_X5_268 : Cond.methodLink RX5 268 yX5_power ∈ lw_g := gm (i := 668) (by decide +kernel) rfl
theorem l_X5_272 : Cond.methodLink RX5 272 yX5_lowest ∈ lw_g := gm (i := 671) (by decide +kernel) rfl
theorem l_L_138 : Cond.methodLink RL 138 yX5_islands ∈ lw_g := gm (i := 674) (by decide +kernel) rfl
theorem l_X5_279 : Cond.methodLink RX5 279 yX2_pieceWith ∈ lw_g := gm (i := 678) (by decide +kernel) rfl
theorem l_X2_13 : Cond.methodLink RX2 13 yX2_spread ∈ lw_g := gm (i := 681) (by decide +kernel) rfl
theorem k_X2_11 : Cond.constant RX2 11 (-8521761) ∈ lw_g := gm (i := 684) (by decide +kernel) rfl
theorem k_X2_12 : Cond.constant RX2 12 (-266306) ∈ lw_g := gm (i := 685) (by decide +kernel) rfl
theorem l_X5_284 : Cond.methodLink RX5 284 yX2_howMany ∈ lw_g := gm (i := 686) (by decide +kernel) rfl
theorem l_X2_17 : Cond.methodLink RX2 17 yX2_pieceWith ∈ lw_g := gm (i := 689) (by decide +kernel) rfl
theorem l_X5_287 : Cond.methodLink RX5 287 yX2_greatest ∈ lw_g := gm (i := 690) (by decide +kernel) rfl
theorem l_X2_20 : Cond.methodLink RX2 20 yJ6_bitCount_0f7a4 ∈ lw_g := gm (i := 693) (by decide +kernel) rfl
theorem l_X2_26 : Cond.methodLink RX2 26 yJ9_max_7cf53 ∈ lw_g := gm (i := 694) (by decide +kernel) rfl
theorem l_L_142 : Cond.methodLink RL 142 yX5_clearRun ∈ lw_g := gm (i := 695) (by decide +kernel) rfl
theorem l_X5_290 : Cond.methodLink RX5 290 yJ9_max_7cf53 ∈ lw_g := gm (i := 699) (by decide +kernel) rfl
theorem l_L_146 : Cond.methodLink RL 146 yX5_way ∈ lw_g := gm (i := 700) (by decide +kernel) rfl
theorem l_X5_295 : Cond.methodLink RX5 295 yX2_steps ∈ lw_g := gm (i := 704) (by decide +kernel) rfl
theorem l_L_150 : Cond.methodLink RL 150 yX5_share ∈ lw_g := gm (i := 707) (by decide +kernel) rfl
theorem l_L_155 : Cond.methodLink RL 155 yX5_sight ∈ lw_g := gm (i := 711) (by decide +kernel) rfl
theorem l_X5_298 : Cond.methodLink RX5 298 yX5_richest ∈ lw_g := gm (i := 715) (by decide +kernel) rfl
theorem l_X5_301 : Cond.methodLink RX5 301 yX5_wetThings ∈ lw_g := gm (i := 719) (by decide +kernel) rfl
theorem l_X5_304 : Cond.methodLink RX5 304 yX5_crowdedCell ∈ lw_g := gm (i := 723) (by decide +kernel) rfl
theorem l_X5_307 : Cond.methodLink RX5 307 yX5_hoursAlike ∈ lw_g := gm (i := 727) (by decide +kernel) rfl
theorem l_L_159 : Cond.methodLink RL 159 yX5_kinds ∈ lw_g := gm (i := 731) (by decide +kernel) rfl
theorem l_L_163 : Cond.methodLink RL 163 yX5_row ∈ lw_g := gm (i := 735) (by decide +kernel) rfl
theorem l_L_167 : Cond.methodLink RL 167 yX5_judge ∈ lw_g := gm (i := 739) (by decide +kernel) rfl
theorem l_L_171 : Cond.methodLink RL 171 yX5_clear ∈ lw_g := gm (i := 743) (by decide +kernel) rfl
theorem l_L_175 : Cond.methodLink RL 175 yX5_lots ∈ lw_g := gm (i := 747) (by decide +kernel) rfl
theorem k_X5_310 : Cond.constant RX5 310 (1103515245) ∈ lw_g := gm (i := 751) (by decide +kernel) rfl
theorem k_X5_311 : Cond.constant RX5 311 (2147483647) ∈ lw_g := gm (i := 752) (by decide +kernel) rfl
theorem l_X5_312 : Cond.methodLink RX5 312 yX4_ownedWorths ∈ lw_g := gm (i := 753) (by decide +kernel) rfl
theorem l_L_179 : Cond.methodLink RL 179 yX5_image ∈ lw_g := gm (i := 757) (by decide +kernel) rfl
theorem l_L_183 : Cond.methodLink RL 183 yX5_restore ∈ lw_g := gm (i := 761) (by decide +kernel) rfl
theorem l_L_17 : Cond.methodLink RL 17 yX6_feed ∈ lw_g := gm (i := 886) (by decide +kernel) rfl
theorem l_X6_165 : Cond.methodLink RX6 165 yX6_bound ∈ lw_g := gm (i := 890) (by decide +kernel) rfl
theorem l_X6_172 : Cond.methodLink RX6 172 yX6_no ∈ lw_g := gm (i := 893) (by decide +kernel) rfl
theorem l_L_22 : Cond.methodLink RL 22 yX6_coast ∈ lw_g := gm (i := 897) (by decide +kernel) rfl
theorem l_X6_231 : Cond.methodLink RX6 231 yX6_statement ∈ lw_g := gm (i := 901) (by decide +kernel) rfl
theorem l_X6_178 : Cond.methodLink RX6 178 yX6_sign ∈ lw_g := gm (i := 905) (by decide +kernel) rfl
theorem l_X6_191 : Cond.methodLink RX6 191 yX6_readsAll ∈ lw_g := gm (i := 909) (by decide +kernel) rfl
theorem l_X6_185 : Cond.methodLink RX6 185 yX6_readsDigits ∈ lw_g := gm (i := 913) (by decide +kernel) rfl
theorem l_X6_82 : Cond.methodLink RX6 82 yX6_isIn ∈ lw_g := gm (i := 917) (by decide +kernel) rfl
theorem l_X6_235 : Cond.methodLink RX6 235 yX6_passesAll ∈ lw_g := gm (i := 920) (by decide +kernel) rfl
theorem l_X6_251 : Cond.methodLink RX6 251 yX6_passes ∈ lw_g := gm (i := 924) (by decide +kernel) rfl
theorem l_X6_255 : Cond.methodLink RX6 255 yX6_passOne ∈ lw_g := gm (i := 928) (by decide +kernel) rfl
theorem l_X6_239 : Cond.methodLink RX6 239 yX6_comesTold ∈ lw_g := gm (i := 932) (by decide +kernel) rfl
theorem l_X6_213 : Cond.methodLink RX6 213 yX6_comesFront ∈ lw_g := gm (i := 936) (by decide +kernel) rfl
theorem l_X6_194 : Cond.methodLink RX6 194 yX6_isFrontMore ∈ lw_g := gm (i := 940) (by decide +kernel) rfl
theorem l_X6_216 : Cond.methodLink RX6 216 yX6_comesPerson ∈ lw_g := gm (i := 944) (by decide +kernel) rfl
theorem l_X6_198 : Cond.methodLink RX6 198 yX6_isCell ∈ lw_g := gm (i := 948) (by decide +kernel) rfl
theorem l_X6_201 : Cond.methodLink RX6 201 yX6_isPersonMore ∈ lw_g := gm (i := 951) (by decide +kernel) rfl
theorem l_X6_219 : Cond.methodLink RX6 219 yX6_comesThing ∈ lw_g := gm (i := 955) (by decide +kernel) rfl
theorem l_X6_204 : Cond.methodLink RX6 204 yX6_isThingMore ∈ lw_g := gm (i := 959) (by decide +kernel) rfl
theorem l_X6_222 : Cond.methodLink RX6 222 yX6_comesOwner ∈ lw_g := gm (i := 963) (by decide +kernel) rfl
theorem l_X6_207 : Cond.methodLink RX6 207 yX6_isThing ∈ lw_g := gm (i := 967) (by decide +kernel) rfl
theorem l_X6_92 : Cond.methodLink RX6 92 yX6_isPerson ∈ lw_g := gm (i := 971) (by decide +kernel) rfl
theorem l_X6_225 : Cond.methodLink RX6 225 yX6_comesStanding ∈ lw_g := gm (i := 975) (by decide +kernel) rfl
theorem l_X6_228 : Cond.methodLink RX6 228 yX6_comesNumber ∈ lw_g := gm (i := 979) (by decide +kernel) rfl
theorem l_X6_210 : Cond.methodLink RX6 210 yX6_goes ∈ lw_g := gm (i := 983) (by decide +kernel) rfl
theorem l_X6_162 : Cond.methodLink RX6 162 yX6_goesHour ∈ lw_g := gm (i := 987) (by decide +kernel) rfl
theorem l_X6_127 : Cond.methodLink RX6 127 yX6_isFoggy ∈ lw_g := gm (i := 991) (by decide +kernel) rfl
theorem l_X6_124 : Cond.methodLink RX6 124 yX6_fogOf ∈ lw_g := gm (i := 995) (by decide +kernel) rfl
theorem l_X6_117 : Cond.methodLink RX6 117 yX6_airIn ∈ lw_g := gm (i := 999) (by decide +kernel) rfl
theorem l_X6_107 : Cond.methodLink RX6 107 yX6_asksBack ∈ lw_g := gm (i := 1003) (by decide +kernel) rfl
theorem l_X6_111 : Cond.methodLink RX6 111 yX6_airBy ∈ lw_g := gm (i := 1007) (by decide +kernel) rfl
theorem l_X6_96 : Cond.methodLink RX6 96 yX6_greater ∈ lw_g := gm (i := 1011) (by decide +kernel) rfl
theorem l_X6_100 : Cond.methodLink RX6 100 yX6_apart ∈ lw_g := gm (i := 1014) (by decide +kernel) rfl
theorem l_X6_120 : Cond.methodLink RX6 120 yX6_steam ∈ lw_g := gm (i := 1017) (by decide +kernel) rfl
theorem l_X6_158 : Cond.methodLink RX6 158 yX6_goesPerson ∈ lw_g := gm (i := 1021) (by decide +kernel) rfl
theorem l_X6_142 : Cond.methodLink RX6 142 yX6_goal ∈ lw_g := gm (i := 1025) (by decide +kernel) rfl
theorem l_X6_133 : Cond.methodLink RX6 133 yX6_goalAsChild ∈ lw_g := gm (i := 1029) (by decide +kernel) rfl
theorem l_X6_130 : Cond.methodLink RX6 130 yX6_far ∈ lw_g := gm (i := 1033) (by decide +kernel) rfl
theorem l_X6_136 : Cond.methodLink RX6 136 yX6_goalAsThief ∈ lw_g := gm (i := 1036) (by decide +kernel) rfl
theorem l_X6_139 : Cond.methodLink RX6 139 yX6_goalAsLawyer ∈ lw_g := gm (i := 1040) (by decide +kernel) rfl
theorem l_X6_145 : Cond.methodLink RX6 145 yX6_pace ∈ lw_g := gm (i := 1044) (by decide +kernel) rfl
theorem l_X6_148 : Cond.methodLink RX6 148 yX6_nearer ∈ lw_g := gm (i := 1048) (by decide +kernel) rfl
theorem l_X6_151 : Cond.methodLink RX6 151 yX6_grabs ∈ lw_g := gm (i := 1051) (by decide +kernel) rfl
theorem l_X6_154 : Cond.methodLink RX6 154 yX6_mayTake ∈ lw_g := gm (i := 1055) (by decide +kernel) rfl
theorem l_L_76 : Cond.methodLink RL 76 yX6_back ∈ lw_g := gm (i := 1059) (by decide +kernel) rfl
theorem l_L_182 : Cond.methodLink RL 182 yX6_image ∈ lw_g := gm (i := 1063) (by decide +kernel) rfl
theorem l_L_186 : Cond.methodLink RL 186 yX6_restore ∈ lw_g := gm (i := 1067) (by decide +kernel) rfl
theorem l_L_27 : Cond.methodLink RL 27 yX6_person ∈ lw_g := gm (i := 1071) (by decide +kernel) rfl
theorem l_X6_264 : Cond.methodLink RX6 264 yX6_worthsOf ∈ lw_g := gm (i := 1075) (by decide +kernel) rfl
theorem l_L_31 : Cond.methodLink RL 31 yX6_thing ∈ lw_g := gm (i := 1079) (by decide +kernel) rfl
theorem l_L_35 : Cond.methodLink RL 35 yX6_front ∈ lw_g := gm (i := 1083) (by decide +kernel) rfl
theorem l_X6_267 : Cond.methodLink RX6 267 yX6_isFront ∈ lw_g := gm (i := 1087) (by decide +kernel) rfl
theorem l_L_39 : Cond.methodLink RL 39 yX6_cell ∈ lw_g := gm (i := 1091) (by decide +kernel) rfl
theorem l_X6_270 : Cond.methodLink RX6 270 yX6_setAt ∈ lw_g := gm (i := 1095) (by decide +kernel) rfl
theorem l_L_44 : Cond.methodLink RL 44 yX6_blows ∈ lw_g := gm (i := 1098) (by decide +kernel) rfl
theorem l_L_48 : Cond.methodLink RL 48 yX6_comes ∈ lw_g := gm (i := 1102) (by decide +kernel) rfl
theorem l_L_52 : Cond.methodLink RL 52 yX6_lies ∈ lw_g := gm (i := 1106) (by decide +kernel) rfl
theorem l_L_56 : Cond.methodLink RL 56 yX6_thick ∈ lw_g := gm (i := 1110) (by decide +kernel) rfl
theorem l_X6_274 : Cond.methodLink RX6 274 yX6_remembers ∈ lw_g := gm (i := 1114) (by decide +kernel) rfl
theorem l_L_60 : Cond.methodLink RL 60 yX6_owns ∈ lw_g := gm (i := 1118) (by decide +kernel) rfl
theorem l_L_64 : Cond.methodLink RL 64 yX6_stands ∈ lw_g := gm (i := 1122) (by decide +kernel) rfl
theorem l_L_68 : Cond.methodLink RL 68 yX6_carries ∈ lw_g := gm (i := 1126) (by decide +kernel) rfl
theorem l_L_72 : Cond.methodLink RL 72 yX6_hours ∈ lw_g := gm (i := 1130) (by decide +kernel) rfl
theorem l_X6_277 : Cond.methodLink RX6 277 yX6_manyOwned ∈ lw_g := gm (i := 1134) (by decide +kernel) rfl
theorem l_L_80 : Cond.methodLink RL 80 yX6_fogThen ∈ lw_g := gm (i := 1138) (by decide +kernel) rfl
theorem l_X6_280 : Cond.methodLink RX6 280 yX6_minds ∈ lw_g := gm (i := 1142) (by decide +kernel) rfl
theorem l_X6_283 : Cond.methodLink RX6 283 yX6_forgets ∈ lw_g := gm (i := 1146) (by decide +kernel) rfl
theorem l_L_84 : Cond.methodLink RL 84 yX6_then ∈ lw_g := gm (i := 1150) (by decide +kernel) rfl
theorem l_X6_286 : Cond.methodLink RX6 286 yX6_foggyCells ∈ lw_g := gm (i := 1154) (by decide +kernel) rfl
theorem l_X6_289 : Cond.methodLink RX6 289 yX6_dropped ∈ lw_g := gm (i := 1158) (by decide +kernel) rfl
theorem l_L_88 : Cond.methodLink RL 88 yX6_ownerThen ∈ lw_g := gm (i := 1162) (by decide +kernel) rfl
theorem l_L_92 : Cond.methodLink RL 92 yX6_personThen ∈ lw_g := gm (i := 1166) (by decide +kernel) rfl
theorem l_L_96 : Cond.methodLink RL 96 yX6_when ∈ lw_g := gm (i := 1170) (by decide +kernel) rfl
theorem l_L_100 : Cond.methodLink RL 100 yX6_first ∈ lw_g := gm (i := 1174) (by decide +kernel) rfl
theorem l_X6_292 : Cond.methodLink RX6 292 yX6_has ∈ lw_g := gm (i := 1178) (by decide +kernel) rfl
theorem l_L_104 : Cond.methodLink RL 104 yX6_clears ∈ lw_g := gm (i := 1181) (by decide +kernel) rfl
theorem l_L_108 : Cond.methodLink RL 108 yX6_stand ∈ lw_g := gm (i := 1185) (by decide +kernel) rfl
theorem l_L_112 : Cond.methodLink RL 112 yX6_kettle ∈ lw_g := gm (i := 1189) (by decide +kernel) rfl
theorem l_L_116 : Cond.methodLink RL 116 yX6_without ∈ lw_g := gm (i := 1193) (by decide +kernel) rfl
theorem l_X6_295 : Cond.methodLink RX6 295 yX6_blowsOff ∈ lw_g := gm (i := 1197) (by decide +kernel) rfl
theorem l_X6_298 : Cond.methodLink RX6 298 yX6_bits ∈ lw_g := gm (i := 1201) (by decide +kernel) rfl
theorem l_L_120 : Cond.methodLink RL 120 yX6_swap ∈ lw_g := gm (i := 1204) (by decide +kernel) rfl
theorem l_X6_301 : Cond.methodLink RX6 301 yX6_changes ∈ lw_g := gm (i := 1208) (by decide +kernel) rfl
theorem l_L_124 : Cond.methodLink RL 124 yX6_whatKind ∈ lw_g := gm (i := 1211) (by decide +kernel) rfl
theorem l_X6_308 : Cond.methodLink RX6 308 yX6_wentSo ∈ lw_g := gm (i := 1215) (by decide +kernel) rfl
theorem l_L_128 : Cond.methodLink RL 128 yX6_whichFront ∈ lw_g := gm (i := 1219) (by decide +kernel) rfl
theorem l_X6_311 : Cond.methodLink RX6 311 yX6_blewSo ∈ lw_g := gm (i := 1223) (by decide +kernel) rfl
theorem l_L_132 : Cond.methodLink RL 132 yX6_two ∈ lw_g := gm (i := 1227) (by decide +kernel) rfl
theorem l_X6_314 : Cond.methodLink RX6 314 yX6_areTwo ∈ lw_g := gm (i := 1231) (by decide +kernel) rfl
theorem l_X6_317 : Cond.methodLink RX6 317 yX6_findEnds ∈ lw_g := gm (i := 1235) (by decide +kernel) rfl
theorem l_L_137 : Cond.methodLink RL 137 yX6_sun ∈ lw_g := gm (i := 1239) (by decide +kernel) rfl
theorem l_X6_324 : Cond.methodLink RX6 324 yX6_lowestOf ∈ lw_g := gm (i := 1243) (by decide +kernel) rfl
theorem k_X6_77 : Cond.constantLong RX6 77 (4000000000000000000) ∈ lw_g := gm (i := 1247) (by decide +kernel) rfl
theorem l_X6_328 : Cond.methodLink RX6 328 yX6_partOf ∈ lw_g := gm (i := 1248) (by decide +kernel) rfl
theorem l_X6_320 : Cond.methodLink RX6 320 yX6_divisor ∈ lw_g := gm (i := 1251) (by decide +kernel) rfl
theorem l_L_141 : Cond.methodLink RL 141 yX6_islands ∈ lw_g := gm (i := 1254) (by decide +kernel) rfl
theorem l_X6_341 : Cond.methodLink RX6 341 yX6_pieces ∈ lw_g := gm (i := 1258) (by decide +kernel) rfl
theorem l_X6_338 : Cond.methodLink RX6 338 yX6_pieceWith ∈ lw_g := gm (i := 1262) (by decide +kernel) rfl
theorem l_X6_335 : Cond.methodLink RX6 335 yX6_grown ∈ lw_g := gm (i := 1265) (by decide +kernel) rfl
theorem l_X6_332 : Cond.methodLink RX6 332 yX6_beside ∈ lw_g := gm (i := 1268) (by decide +kernel) rfl
theorem l_L_145 : Cond.methodLink RL 145 yX6_clearRun ∈ lw_g := gm (i := 1271) (by decide +kernel) rfl
theorem l_L_149 : Cond.methodLink RL 149 yX6_way ∈ lw_g := gm (i := 1275) (by decide +kernel) rfl
theorem l_L_154 : Cond.methodLink RL 154 yX6_share ∈ lw_g := gm (i := 1279) (by decide +kernel) rfl
theorem l_L_158 : Cond.methodLink RL 158 yX6_sight ∈ lw_g := gm (i := 1283) (by decide +kernel) rfl
theorem l_X6_345 : Cond.methodLink RX6 345 yX6_richest ∈ lw_g := gm (i := 1287) (by decide +kernel) rfl
theorem l_X6_348 : Cond.methodLink RX6 348 yX6_wet ∈ lw_g := gm (i := 1291) (by decide +kernel) rfl
theorem l_X6_351 : Cond.methodLink RX6 351 yX6_crowd ∈ lw_g := gm (i := 1295) (by decide +kernel) rfl
theorem l_X6_354 : Cond.methodLink RX6 354 yX6_alike ∈ lw_g := gm (i := 1299) (by decide +kernel) rfl
theorem l_L_162 : Cond.methodLink RL 162 yX6_kinds ∈ lw_g := gm (i := 1303) (by decide +kernel) rfl
theorem l_L_166 : Cond.methodLink RL 166 yX6_row ∈ lw_g := gm (i := 1307) (by decide +kernel) rfl
theorem l_L_170 : Cond.methodLink RL 170 yX6_judge ∈ lw_g := gm (i := 1311) (by decide +kernel) rfl
theorem l_L_174 : Cond.methodLink RL 174 yX6_clear ∈ lw_g := gm (i := 1315) (by decide +kernel) rfl
theorem l_L_178 : Cond.methodLink RL 178 yX6_lots ∈ lw_g := gm (i := 1319) (by decide +kernel) rfl
theorem l_X6_366 : Cond.methodLink RX6 366 yX6_liesByLot ∈ lw_g := gm (i := 1323) (by decide +kernel) rfl
theorem l_X6_363 : Cond.methodLink RX6 363 yX6_draw ∈ lw_g := gm (i := 1327) (by decide +kernel) rfl
theorem k_X6_360 : Cond.constant RX6 360 (1103515245) ∈ lw_g := gm (i := 1331) (by decide +kernel) rfl
theorem k_X6_361 : Cond.constant RX6 361 (2147483647) ∈ lw_g := gm (i := 1332) (by decide +kernel) rfl
theorem k_X6_362 : Cond.constant RX6 362 (65536) ∈ lw_g := gm (i := 1333) (by decide +kernel) rfl
theorem l_X6_369 : Cond.methodLink RX6 369 yX6_worthsOwned ∈ lw_g := gm (i := 1334) (by decide +kernel) rfl
theorem l_L_190 : Cond.methodLink RL 190 yX6_count ∈ lw_g := gm (i := 1338) (by decide +kernel) rfl
theorem w_acN : Cond.native arraycopyName ∈ lw_g := gm (i := 322) (by decide +kernel) rfl
theorem w_acS : Cond.static arraycopyName ∈ lw_g := gm (i := 321) (by decide +kernel) rfl
theorem w_acI : Cond.initialized "java/lang/System" ∈ lw_g := gm (i := 90) (by decide +kernel) rfl
theorem w_mI : Cond.initialized "java/lang/Math" ∈ lw_g := gm (i := 91) (by decide +kernel) rfl
theorem w_maxS : Cond.static Lib.Math.max.name ∈ lw_g := gm (i := 345) (by decide +kernel) rfl
theorem w_maxC : Cond.code Lib.Math.max.name Lib.Math.max.code 2 (some .int) ∈ lw_g := gm (i := 346) (by decide +kernel) rfl
theorem w_absS : Cond.static Lib.Math.abs.name ∈ lw_g := gm (i := 438) (by decide +kernel) rfl
theorem w_absC : Cond.code Lib.Math.abs.name Lib.Math.abs.code 1 (some .int) ∈ lw_g := gm (i := 439) (by decide +kernel) rfl
