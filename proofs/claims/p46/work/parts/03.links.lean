def lw_g : List Cond := lw_tbl.filter goodWord
theorem gm {w : Cond} {i : Nat} (h : lw_tbl[i]? = some w) (hg : goodWord w = true) : w ∈ lw_g := List.mem_filter.mpr ⟨List.mem_of_getElem? h, hg⟩
abbrev kcl : List vw_C := [(RX0, TX0, 5), (RX3, TX3, 8), (RX4, TX4, 15), (RX5, TX5, 13)]
theorem u_in_of {C : String} {T : u_T} {N : Nat} (h : ∀ k, k < N → u_lay C T k ∈ lw_g) : ∀ w ∈ u_ws C T N, w ∈ lw_g := by
  intro w hw
  obtain ⟨k, hk, rfl⟩ := List.mem_map.mp hw
  exact h k (List.mem_range.mp hk)
def FLk (own : String) (index ci k : Nat) : Prop := ∃ (C : String) (T : u_T) (N : Nat), kcl[ci]? = some (C, T, N) ∧ (∀ w ∈ u_ws C T N, w ∈ lw_g) ∧ k < N ∧ Cond.fieldLink own index (T k).1 (T k).2.1 (T k).2.2.1 ∈ lw_g
def FPk (own : String) (index ci k : Nat) (ft : FieldType) : Prop := ∃ (C : String) (T : u_T) (N : Nat) (ty : Nat → FieldType), kcl[ci]? = some (C, T, N) ∧ (∀ w ∈ u_ws C T N, w ∈ lw_g) ∧ k < N ∧ Cond.fieldLink own index (T k).1 (T k).2.1 (T k).2.2.1 ∈ lw_g ∧ (∀ j, j < N → parseFieldDescriptor (T j).2.2.1 = some (ty j)) ∧ (∀ a, a < N → ∀ b, b < N → a ≠ b → (T a).2.1 ≠ (T b).2.1) ∧ (T k).2.2.2 = false ∧ ty k = ft
def MY (y : MethodName) (b : ByteArray) (n : Nat) (ret : Option FieldType) (np : Nat) : Prop := Cond.initialized y.cls ∈ lw_g ∧ Cond.code y b n ret ∈ lw_g ∧ y.cls ≠ "java/lang/invoke/MethodHandle" ∧ y.cls ≠ "java/lang/invoke/VarHandle" ∧ (parseMethodDescriptor y.desc).map (fun d => d.parameters.length) = some np
def VY (y : MethodName) (b : ByteArray) (n : Nat) (ret : Option FieldType) (np : Nat) : Prop := MY y b n ret np ∧ Cond.instanceMethod y ∈ lw_g ∧ Cond.selects y.cls y y ∈ lw_g
def SY (y : MethodName) (b : ByteArray) (n : Nat) (ret : Option FieldType) (np : Nat) : Prop := MY y b n ret np ∧ Cond.static y ∈ lw_g
theorem fw_X0 : ∀ w ∈ u_ws RX0 TX0 5, w ∈ lw_g := u_in_of (fun k hk => by
  match k, hk with
  | 0, _ => exact gm (i := 162) (by decide +kernel) rfl
  | 1, _ => exact gm (i := 164) (by decide +kernel) rfl
  | 2, _ => exact gm (i := 166) (by decide +kernel) rfl
  | 3, _ => exact gm (i := 168) (by decide +kernel) rfl
  | 4, _ => exact gm (i := 170) (by decide +kernel) rfl
  | k + 5, hk => exact absurd hk (by omega))
theorem fw_X3 : ∀ w ∈ u_ws RX3 TX3 8, w ∈ lw_g := u_in_of (fun k hk => by
  match k, hk with
  | 0, _ => exact gm (i := 139) (by decide +kernel) rfl
  | 1, _ => exact gm (i := 141) (by decide +kernel) rfl
  | 2, _ => exact gm (i := 143) (by decide +kernel) rfl
  | 3, _ => exact gm (i := 145) (by decide +kernel) rfl
  | 4, _ => exact gm (i := 147) (by decide +kernel) rfl
  | 5, _ => exact gm (i := 149) (by decide +kernel) rfl
  | 6, _ => exact gm (i := 151) (by decide +kernel) rfl
  | 7, _ => exact gm (i := 153) (by decide +kernel) rfl
  | k + 8, hk => exact absurd hk (by omega))
theorem fw_X4 : ∀ w ∈ u_ws RX4 TX4 15, w ∈ lw_g := u_in_of (fun k hk => by
  match k, hk with
  | 0, _ => exact gm (i := 83) (by decide +kernel) rfl
  | 1, _ => exact gm (i := 85) (by decide +kernel) rfl
  | 2, _ => exact gm (i := 87) (by decide +kernel) rfl
  | 3, _ => exact gm (i := 89) (by decide +kernel) rfl
  | 4, _ => exact gm (i := 91) (by decide +kernel) rfl
  | 5, _ => exact gm (i := 93) (by decide +kernel) rfl
  | 6, _ => exact gm (i := 95) (by decide +kernel) rfl
  | 7, _ => exact gm (i := 97) (by decide +kernel) rfl
  | 8, _ => exact gm (i := 99) (by decide +kernel) rfl
  | 9, _ => exact gm (i := 101) (by decide +kernel) rfl
  | 10, _ => exact gm (i := 103) (by decide +kernel) rfl
  | 11, _ => exact gm (i := 105) (by decide +kernel) rfl
  | 12, _ => exact gm (i := 107) (by decide +kernel) rfl
  | 13, _ => exact gm (i := 109) (by decide +kernel) rfl
  | 14, _ => exact gm (i := 111) (by decide +kernel) rfl
  | k + 15, hk => exact absurd hk (by omega))
theorem fw_X5 : ∀ w ∈ u_ws RX5 TX5 13, w ∈ lw_g := u_in_of (fun k hk => by
  match k, hk with
  | 0, _ => exact gm (i := 186) (by decide +kernel) rfl
  | 1, _ => exact gm (i := 188) (by decide +kernel) rfl
  | 2, _ => exact gm (i := 190) (by decide +kernel) rfl
  | 3, _ => exact gm (i := 192) (by decide +kernel) rfl
  | 4, _ => exact gm (i := 194) (by decide +kernel) rfl
  | 5, _ => exact gm (i := 196) (by decide +kernel) rfl
  | 6, _ => exact gm (i := 198) (by decide +kernel) rfl
  | 7, _ => exact gm (i := 200) (by decide +kernel) rfl
  | 8, _ => exact gm (i := 202) (by decide +kernel) rfl
  | 9, _ => exact gm (i := 204) (by decide +kernel) rfl
  | 10, _ => exact gm (i := 206) (by decide +kernel) rfl
  | 11, _ => exact gm (i := 208) (by decide +kernel) rfl
  | 12, _ => exact gm (i := 210) (by decide +kernel) rfl
  | k + 13, hk => exact absurd hk (by omega))
theorem f_X4_9 : FLk RX4 9 2 0 := ⟨RX4, TX4, 15, rfl, fw_X4, by decide, gm (i := 41) (by decide +kernel) rfl⟩
theorem f_X3_52 : FLk RX3 52 2 0 := ⟨RX4, TX4, 15, rfl, fw_X4, by decide, gm (i := 42) (by decide +kernel) rfl⟩
theorem f_X4_15 : FLk RX4 15 2 1 := ⟨RX4, TX4, 15, rfl, fw_X4, by decide, gm (i := 43) (by decide +kernel) rfl⟩
theorem f_X3_53 : FLk RX3 53 2 1 := ⟨RX4, TX4, 15, rfl, fw_X4, by decide, gm (i := 44) (by decide +kernel) rfl⟩
theorem f_X4_18 : FLk RX4 18 2 2 := ⟨RX4, TX4, 15, rfl, fw_X4, by decide, gm (i := 45) (by decide +kernel) rfl⟩
theorem f_X3_54 : FLk RX3 54 2 2 := ⟨RX4, TX4, 15, rfl, fw_X4, by decide, gm (i := 46) (by decide +kernel) rfl⟩
theorem f_X4_21 : FLk RX4 21 2 3 := ⟨RX4, TX4, 15, rfl, fw_X4, by decide, gm (i := 47) (by decide +kernel) rfl⟩
theorem p_X4_21 : FPk RX4 21 2 3 .int := ⟨RX4, TX4, 15, tyX4, rfl, fw_X4, by decide, gm (i := 47) (by decide +kernel) rfl, tyX4_ok, nmX4, rfl, rfl⟩
theorem f_X3_49 : FLk RX3 49 2 3 := ⟨RX4, TX4, 15, rfl, fw_X4, by decide, gm (i := 48) (by decide +kernel) rfl⟩
theorem p_X3_49 : FPk RX3 49 2 3 .int := ⟨RX4, TX4, 15, tyX4, rfl, fw_X4, by decide, gm (i := 48) (by decide +kernel) rfl, tyX4_ok, nmX4, rfl, rfl⟩
theorem f_X5_210 : FLk RX5 210 2 3 := ⟨RX4, TX4, 15, rfl, fw_X4, by decide, gm (i := 49) (by decide +kernel) rfl⟩
theorem p_X5_210 : FPk RX5 210 2 3 .int := ⟨RX4, TX4, 15, tyX4, rfl, fw_X4, by decide, gm (i := 49) (by decide +kernel) rfl, tyX4_ok, nmX4, rfl, rfl⟩
theorem f_X4_25 : FLk RX4 25 2 4 := ⟨RX4, TX4, 15, rfl, fw_X4, by decide, gm (i := 50) (by decide +kernel) rfl⟩
theorem f_X0_120 : FLk RX0 120 2 4 := ⟨RX4, TX4, 15, rfl, fw_X4, by decide, gm (i := 51) (by decide +kernel) rfl⟩
theorem f_X5_162 : FLk RX5 162 2 4 := ⟨RX4, TX4, 15, rfl, fw_X4, by decide, gm (i := 52) (by decide +kernel) rfl⟩
theorem f_X4_28 : FLk RX4 28 2 5 := ⟨RX4, TX4, 15, rfl, fw_X4, by decide, gm (i := 53) (by decide +kernel) rfl⟩
theorem f_X0_108 : FLk RX0 108 2 5 := ⟨RX4, TX4, 15, rfl, fw_X4, by decide, gm (i := 54) (by decide +kernel) rfl⟩
theorem f_X5_165 : FLk RX5 165 2 5 := ⟨RX4, TX4, 15, rfl, fw_X4, by decide, gm (i := 55) (by decide +kernel) rfl⟩
theorem f_X4_31 : FLk RX4 31 2 6 := ⟨RX4, TX4, 15, rfl, fw_X4, by decide, gm (i := 56) (by decide +kernel) rfl⟩
theorem f_X0_111 : FLk RX0 111 2 6 := ⟨RX4, TX4, 15, rfl, fw_X4, by decide, gm (i := 57) (by decide +kernel) rfl⟩
theorem f_X5_168 : FLk RX5 168 2 6 := ⟨RX4, TX4, 15, rfl, fw_X4, by decide, gm (i := 58) (by decide +kernel) rfl⟩
theorem f_X4_34 : FLk RX4 34 2 7 := ⟨RX4, TX4, 15, rfl, fw_X4, by decide, gm (i := 59) (by decide +kernel) rfl⟩
theorem p_X4_34 : FPk RX4 34 2 7 .int := ⟨RX4, TX4, 15, tyX4, rfl, fw_X4, by decide, gm (i := 59) (by decide +kernel) rfl, tyX4_ok, nmX4, rfl, rfl⟩
theorem f_X0_105 : FLk RX0 105 2 7 := ⟨RX4, TX4, 15, rfl, fw_X4, by decide, gm (i := 60) (by decide +kernel) rfl⟩
theorem p_X0_105 : FPk RX0 105 2 7 .int := ⟨RX4, TX4, 15, tyX4, rfl, fw_X4, by decide, gm (i := 60) (by decide +kernel) rfl, tyX4_ok, nmX4, rfl, rfl⟩
theorem f_X5_207 : FLk RX5 207 2 7 := ⟨RX4, TX4, 15, rfl, fw_X4, by decide, gm (i := 61) (by decide +kernel) rfl⟩
theorem p_X5_207 : FPk RX5 207 2 7 .int := ⟨RX4, TX4, 15, tyX4, rfl, fw_X4, by decide, gm (i := 61) (by decide +kernel) rfl, tyX4_ok, nmX4, rfl, rfl⟩
theorem f_X4_37 : FLk RX4 37 2 8 := ⟨RX4, TX4, 15, rfl, fw_X4, by decide, gm (i := 62) (by decide +kernel) rfl⟩
theorem f_X0_64 : FLk RX0 64 2 8 := ⟨RX4, TX4, 15, rfl, fw_X4, by decide, gm (i := 63) (by decide +kernel) rfl⟩
theorem f_X5_126 : FLk RX5 126 2 8 := ⟨RX4, TX4, 15, rfl, fw_X4, by decide, gm (i := 64) (by decide +kernel) rfl⟩
theorem f_X4_40 : FLk RX4 40 2 9 := ⟨RX4, TX4, 15, rfl, fw_X4, by decide, gm (i := 65) (by decide +kernel) rfl⟩
theorem f_X0_67 : FLk RX0 67 2 9 := ⟨RX4, TX4, 15, rfl, fw_X4, by decide, gm (i := 66) (by decide +kernel) rfl⟩
theorem f_X5_129 : FLk RX5 129 2 9 := ⟨RX4, TX4, 15, rfl, fw_X4, by decide, gm (i := 67) (by decide +kernel) rfl⟩
theorem f_X4_43 : FLk RX4 43 2 10 := ⟨RX4, TX4, 15, rfl, fw_X4, by decide, gm (i := 68) (by decide +kernel) rfl⟩
theorem f_X5_132 : FLk RX5 132 2 10 := ⟨RX4, TX4, 15, rfl, fw_X4, by decide, gm (i := 69) (by decide +kernel) rfl⟩
theorem f_X0_137 : FLk RX0 137 2 10 := ⟨RX4, TX4, 15, rfl, fw_X4, by decide, gm (i := 70) (by decide +kernel) rfl⟩
theorem f_X4_46 : FLk RX4 46 2 11 := ⟨RX4, TX4, 15, rfl, fw_X4, by decide, gm (i := 71) (by decide +kernel) rfl⟩
theorem f_X0_61 : FLk RX0 61 2 11 := ⟨RX4, TX4, 15, rfl, fw_X4, by decide, gm (i := 72) (by decide +kernel) rfl⟩
theorem f_X5_135 : FLk RX5 135 2 11 := ⟨RX4, TX4, 15, rfl, fw_X4, by decide, gm (i := 73) (by decide +kernel) rfl⟩
theorem f_X4_49 : FLk RX4 49 2 12 := ⟨RX4, TX4, 15, rfl, fw_X4, by decide, gm (i := 74) (by decide +kernel) rfl⟩
theorem p_X4_49 : FPk RX4 49 2 12 .int := ⟨RX4, TX4, 15, tyX4, rfl, fw_X4, by decide, gm (i := 74) (by decide +kernel) rfl, tyX4_ok, nmX4, rfl, rfl⟩
theorem f_X0_58 : FLk RX0 58 2 12 := ⟨RX4, TX4, 15, rfl, fw_X4, by decide, gm (i := 75) (by decide +kernel) rfl⟩
theorem p_X0_58 : FPk RX0 58 2 12 .int := ⟨RX4, TX4, 15, tyX4, rfl, fw_X4, by decide, gm (i := 75) (by decide +kernel) rfl, tyX4_ok, nmX4, rfl, rfl⟩
theorem f_X5_204 : FLk RX5 204 2 12 := ⟨RX4, TX4, 15, rfl, fw_X4, by decide, gm (i := 76) (by decide +kernel) rfl⟩
theorem p_X5_204 : FPk RX5 204 2 12 .int := ⟨RX4, TX4, 15, tyX4, rfl, fw_X4, by decide, gm (i := 76) (by decide +kernel) rfl, tyX4_ok, nmX4, rfl, rfl⟩
theorem f_X4_52 : FLk RX4 52 2 13 := ⟨RX4, TX4, 15, rfl, fw_X4, by decide, gm (i := 77) (by decide +kernel) rfl⟩
theorem p_X4_52 : FPk RX4 52 2 13 .int := ⟨RX4, TX4, 15, tyX4, rfl, fw_X4, by decide, gm (i := 77) (by decide +kernel) rfl, tyX4_ok, nmX4, rfl, rfl⟩
theorem f_X0_43 : FLk RX0 43 2 13 := ⟨RX4, TX4, 15, rfl, fw_X4, by decide, gm (i := 78) (by decide +kernel) rfl⟩
theorem p_X0_43 : FPk RX0 43 2 13 .int := ⟨RX4, TX4, 15, tyX4, rfl, fw_X4, by decide, gm (i := 78) (by decide +kernel) rfl, tyX4_ok, nmX4, rfl, rfl⟩
theorem f_X5_116 : FLk RX5 116 2 13 := ⟨RX4, TX4, 15, rfl, fw_X4, by decide, gm (i := 79) (by decide +kernel) rfl⟩
theorem p_X5_116 : FPk RX5 116 2 13 .int := ⟨RX4, TX4, 15, tyX4, rfl, fw_X4, by decide, gm (i := 79) (by decide +kernel) rfl, tyX4_ok, nmX4, rfl, rfl⟩
theorem f_X4_55 : FLk RX4 55 2 14 := ⟨RX4, TX4, 15, rfl, fw_X4, by decide, gm (i := 80) (by decide +kernel) rfl⟩
theorem p_X4_55 : FPk RX4 55 2 14 .int := ⟨RX4, TX4, 15, tyX4, rfl, fw_X4, by decide, gm (i := 80) (by decide +kernel) rfl, tyX4_ok, nmX4, rfl, rfl⟩
theorem f_X0_84 : FLk RX0 84 2 14 := ⟨RX4, TX4, 15, rfl, fw_X4, by decide, gm (i := 81) (by decide +kernel) rfl⟩
theorem p_X0_84 : FPk RX0 84 2 14 .int := ⟨RX4, TX4, 15, tyX4, rfl, fw_X4, by decide, gm (i := 81) (by decide +kernel) rfl, tyX4_ok, nmX4, rfl, rfl⟩
theorem f_X5_107 : FLk RX5 107 2 14 := ⟨RX4, TX4, 15, rfl, fw_X4, by decide, gm (i := 82) (by decide +kernel) rfl⟩
theorem p_X5_107 : FPk RX5 107 2 14 .int := ⟨RX4, TX4, 15, tyX4, rfl, fw_X4, by decide, gm (i := 82) (by decide +kernel) rfl, tyX4_ok, nmX4, rfl, rfl⟩
theorem f_X3_9 : FLk RX3 9 1 0 := ⟨RX3, TX3, 8, rfl, fw_X3, by decide, gm (i := 130) (by decide +kernel) rfl⟩
theorem f_X3_15 : FLk RX3 15 1 1 := ⟨RX3, TX3, 8, rfl, fw_X3, by decide, gm (i := 131) (by decide +kernel) rfl⟩
theorem f_X3_18 : FLk RX3 18 1 2 := ⟨RX3, TX3, 8, rfl, fw_X3, by decide, gm (i := 132) (by decide +kernel) rfl⟩
theorem f_X3_21 : FLk RX3 21 1 3 := ⟨RX3, TX3, 8, rfl, fw_X3, by decide, gm (i := 133) (by decide +kernel) rfl⟩
theorem p_X3_21 : FPk RX3 21 1 3 .int := ⟨RX3, TX3, 8, tyX3, rfl, fw_X3, by decide, gm (i := 133) (by decide +kernel) rfl, tyX3_ok, nmX3, rfl, rfl⟩
theorem f_X3_25 : FLk RX3 25 1 4 := ⟨RX3, TX3, 8, rfl, fw_X3, by decide, gm (i := 134) (by decide +kernel) rfl⟩
theorem f_X0_50 : FLk RX0 50 1 4 := ⟨RX3, TX3, 8, rfl, fw_X3, by decide, gm (i := 135) (by decide +kernel) rfl⟩
theorem f_X3_28 : FLk RX3 28 1 5 := ⟨RX3, TX3, 8, rfl, fw_X3, by decide, gm (i := 136) (by decide +kernel) rfl⟩
theorem f_X3_31 : FLk RX3 31 1 6 := ⟨RX3, TX3, 8, rfl, fw_X3, by decide, gm (i := 137) (by decide +kernel) rfl⟩
theorem f_X3_34 : FLk RX3 34 1 7 := ⟨RX3, TX3, 8, rfl, fw_X3, by decide, gm (i := 138) (by decide +kernel) rfl⟩
theorem f_X0_12 : FLk RX0 12 0 0 := ⟨RX0, TX0, 5, rfl, fw_X0, by decide, gm (i := 156) (by decide +kernel) rfl⟩
theorem f_X5_81 : FLk RX5 81 0 0 := ⟨RX0, TX0, 5, rfl, fw_X0, by decide, gm (i := 157) (by decide +kernel) rfl⟩
theorem f_X0_21 : FLk RX0 21 0 1 := ⟨RX0, TX0, 5, rfl, fw_X0, by decide, gm (i := 158) (by decide +kernel) rfl⟩
theorem f_X0_25 : FLk RX0 25 0 2 := ⟨RX0, TX0, 5, rfl, fw_X0, by decide, gm (i := 159) (by decide +kernel) rfl⟩
theorem p_X0_25 : FPk RX0 25 0 2 .int := ⟨RX0, TX0, 5, tyX0, rfl, fw_X0, by decide, gm (i := 159) (by decide +kernel) rfl, tyX0_ok, nmX0, rfl, rfl⟩
theorem f_X0_29 : FLk RX0 29 0 3 := ⟨RX0, TX0, 5, rfl, fw_X0, by decide, gm (i := 160) (by decide +kernel) rfl⟩
theorem p_X0_29 : FPk RX0 29 0 3 .int := ⟨RX0, TX0, 5, tyX0, rfl, fw_X0, by decide, gm (i := 160) (by decide +kernel) rfl, tyX0_ok, nmX0, rfl, rfl⟩
theorem f_X0_32 : FLk RX0 32 0 4 := ⟨RX0, TX0, 5, rfl, fw_X0, by decide, gm (i := 161) (by decide +kernel) rfl⟩
theorem p_X0_32 : FPk RX0 32 0 4 .boolean := ⟨RX0, TX0, 5, tyX0, rfl, fw_X0, by decide, gm (i := 161) (by decide +kernel) rfl, tyX0_ok, nmX0, rfl, rfl⟩
theorem f_X5_10 : FLk RX5 10 3 0 := ⟨RX5, TX5, 13, rfl, fw_X5, by decide, gm (i := 173) (by decide +kernel) rfl⟩
theorem f_X5_16 : FLk RX5 16 3 1 := ⟨RX5, TX5, 13, rfl, fw_X5, by decide, gm (i := 174) (by decide +kernel) rfl⟩
theorem f_X5_19 : FLk RX5 19 3 2 := ⟨RX5, TX5, 13, rfl, fw_X5, by decide, gm (i := 175) (by decide +kernel) rfl⟩
theorem p_X5_19 : FPk RX5 19 3 2 .boolean := ⟨RX5, TX5, 13, tyX5, rfl, fw_X5, by decide, gm (i := 175) (by decide +kernel) rfl, tyX5_ok, nmX5, rfl, rfl⟩
theorem f_X5_23 : FLk RX5 23 3 3 := ⟨RX5, TX5, 13, rfl, fw_X5, by decide, gm (i := 176) (by decide +kernel) rfl⟩
theorem f_X5_27 : FLk RX5 27 3 4 := ⟨RX5, TX5, 13, rfl, fw_X5, by decide, gm (i := 177) (by decide +kernel) rfl⟩
theorem p_X5_27 : FPk RX5 27 3 4 .int := ⟨RX5, TX5, 13, tyX5, rfl, fw_X5, by decide, gm (i := 177) (by decide +kernel) rfl, tyX5_ok, nmX5, rfl, rfl⟩
theorem f_X5_31 : FLk RX5 31 3 5 := ⟨RX5, TX5, 13, rfl, fw_X5, by decide, gm (i := 178) (by decide +kernel) rfl⟩
theorem f_X5_35 : FLk RX5 35 3 6 := ⟨RX5, TX5, 13, rfl, fw_X5, by decide, gm (i := 179) (by decide +kernel) rfl⟩
theorem p_X5_35 : FPk RX5 35 3 6 .int := ⟨RX5, TX5, 13, tyX5, rfl, fw_X5, by decide, gm (i := 179) (by decide +kernel) rfl, tyX5_ok, nmX5, rfl, rfl⟩
theorem f_X5_38 : FLk RX5 38 3 7 := ⟨RX5, TX5, 13, rfl, fw_X5, by decide, gm (i := 180) (by decide +kernel) rfl⟩
theorem f_X5_41 : FLk RX5 41 3 8 := ⟨RX5, TX5, 13, rfl, fw_X5, by decide, gm (i := 181) (by decide +kernel) rfl⟩
theorem p_X5_41 : FPk RX5 41 3 8 .int := ⟨RX5, TX5, 13, tyX5, rfl, fw_X5, by decide, gm (i := 181) (by decide +kernel) rfl, tyX5_ok, nmX5, rfl, rfl⟩
theorem f_X5_44 : FLk RX5 44 3 9 := ⟨RX5, TX5, 13, rfl, fw_X5, by decide, gm (i := 182) (by decide +kernel) rfl⟩
theorem f_X5_50 : FLk RX5 50 3 10 := ⟨RX5, TX5, 13, rfl, fw_X5, by decide, gm (i := 183) (by decide +kernel) rfl⟩
theorem f_X5_54 : FLk RX5 54 3 11 := ⟨RX5, TX5, 13, rfl, fw_X5, by decide, gm (i := 184) (by decide +kernel) rfl⟩
theorem f_X5_57 : FLk RX5 57 3 12 := ⟨RX5, TX5, 13, rfl, fw_X5, by decide, gm (i := 185) (by decide +kernel) rfl⟩
theorem v_X5_person : VY yX5_person cX5_person 3 (some .int) 2 := ⟨⟨gm (i := 18) (by decide +kernel) rfl, gm (i := 216) (by decide +kernel) rfl, by decide +kernel, by decide +kernel, by decide +kernel⟩, gm (i := 214) (by decide +kernel) rfl, gm (i := 215) (by decide +kernel) rfl⟩
theorem v_X4_hasPerson : VY yX4_hasPerson cX4_hasPerson 2 (some .boolean) 1 := ⟨⟨gm (i := 19) (by decide +kernel) rfl, gm (i := 220) (by decide +kernel) rfl, by decide +kernel, by decide +kernel, by decide +kernel⟩, gm (i := 218) (by decide +kernel) rfl, gm (i := 219) (by decide +kernel) rfl⟩
theorem v_X5_refuse : VY yX5_refuse cX5_refuse 3 (some .int) 1 := ⟨⟨gm (i := 18) (by decide +kernel) rfl, gm (i := 224) (by decide +kernel) rfl, by decide +kernel, by decide +kernel, by decide +kernel⟩, gm (i := 223) (by decide +kernel) rfl, gm (i := 0) (by decide +kernel) rfl⟩
theorem s_X1_pace : SY yX1_pace cX1_pace 2 (some .int) 2 := ⟨⟨gm (i := 25) (by decide +kernel) rfl, gm (i := 227) (by decide +kernel) rfl, by decide +kernel, by decide +kernel, by decide +kernel⟩, gm (i := 226) (by decide +kernel) rfl⟩
theorem s_X1_grabs : SY yX1_grabs cX1_grabs 2 (some .int) 2 := ⟨⟨gm (i := 25) (by decide +kernel) rfl, gm (i := 230) (by decide +kernel) rfl, by decide +kernel, by decide +kernel, by decide +kernel⟩, gm (i := 229) (by decide +kernel) rfl⟩
theorem s_X1_steam : SY yX1_steam cX1_steam 2 (some .int) 2 := ⟨⟨gm (i := 25) (by decide +kernel) rfl, gm (i := 233) (by decide +kernel) rfl, by decide +kernel, by decide +kernel, by decide +kernel⟩, gm (i := 232) (by decide +kernel) rfl⟩
theorem v_X0_begin : VY yX0_begin cX0_begin 2 none 1 := ⟨⟨gm (i := 20) (by decide +kernel) rfl, gm (i := 237) (by decide +kernel) rfl, by decide +kernel, by decide +kernel, by decide +kernel⟩, gm (i := 235) (by decide +kernel) rfl, gm (i := 236) (by decide +kernel) rfl⟩
theorem v_X4_become : VY yX4_become cX4_become 2 none 1 := ⟨⟨gm (i := 19) (by decide +kernel) rfl, gm (i := 241) (by decide +kernel) rfl, by decide +kernel, by decide +kernel, by decide +kernel⟩, gm (i := 239) (by decide +kernel) rfl, gm (i := 240) (by decide +kernel) rfl⟩
theorem v_X0_look : VY yX0_look cX0_look 1 none 0 := ⟨⟨gm (i := 20) (by decide +kernel) rfl, gm (i := 248) (by decide +kernel) rfl, by decide +kernel, by decide +kernel, by decide +kernel⟩, gm (i := 246) (by decide +kernel) rfl, gm (i := 247) (by decide +kernel) rfl⟩
theorem v_X3_rowOf : VY yX3_rowOf cX3_rowOf 6 (some .int) 2 := ⟨⟨gm (i := 21) (by decide +kernel) rfl, gm (i := 252) (by decide +kernel) rfl, by decide +kernel, by decide +kernel, by decide +kernel⟩, gm (i := 250) (by decide +kernel) rfl, gm (i := 251) (by decide +kernel) rfl⟩
theorem v_X3_isOf : VY yX3_isOf cX3_isOf 3 (some .boolean) 1 := ⟨⟨gm (i := 21) (by decide +kernel) rfl, gm (i := 256) (by decide +kernel) rfl, by decide +kernel, by decide +kernel, by decide +kernel⟩, gm (i := 255) (by decide +kernel) rfl, gm (i := 1) (by decide +kernel) rfl⟩
theorem v_X3_turnTo : VY yX3_turnTo cX3_turnTo 3 none 1 := ⟨⟨gm (i := 21) (by decide +kernel) rfl, gm (i := 260) (by decide +kernel) rfl, by decide +kernel, by decide +kernel, by decide +kernel⟩, gm (i := 259) (by decide +kernel) rfl, gm (i := 2) (by decide +kernel) rfl⟩
theorem v_X3_airAt : VY yX3_airAt cX3_airAt 7 (some .int) 2 := ⟨⟨gm (i := 21) (by decide +kernel) rfl, gm (i := 265) (by decide +kernel) rfl, by decide +kernel, by decide +kernel, by decide +kernel⟩, gm (i := 264) (by decide +kernel) rfl, gm (i := 3) (by decide +kernel) rfl⟩
theorem v_X3_airOfFront : VY yX3_airOfFront cX3_airOfFront 11 (some .int) 4 := ⟨⟨gm (i := 21) (by decide +kernel) rfl, gm (i := 272) (by decide +kernel) rfl, by decide +kernel, by decide +kernel, by decide +kernel⟩, gm (i := 271) (by decide +kernel) rfl, gm (i := 4) (by decide +kernel) rfl⟩
theorem v_X0_goal : VY yX0_goal cX0_goal 5 (some .int) 1 := ⟨⟨gm (i := 20) (by decide +kernel) rfl, gm (i := 277) (by decide +kernel) rfl, by decide +kernel, by decide +kernel, by decide +kernel⟩, gm (i := 275) (by decide +kernel) rfl, gm (i := 276) (by decide +kernel) rfl⟩
theorem v_X0_airiest : VY yX0_airiest cX0_airiest 3 (some .int) 0 := ⟨⟨gm (i := 20) (by decide +kernel) rfl, gm (i := 281) (by decide +kernel) rfl, by decide +kernel, by decide +kernel, by decide +kernel⟩, gm (i := 280) (by decide +kernel) rfl, gm (i := 5) (by decide +kernel) rfl⟩
theorem v_X0_airOn : VY yX0_airOn cX0_airOn 2 (some .int) 1 := ⟨⟨gm (i := 20) (by decide +kernel) rfl, gm (i := 285) (by decide +kernel) rfl, by decide +kernel, by decide +kernel, by decide +kernel⟩, gm (i := 283) (by decide +kernel) rfl, gm (i := 284) (by decide +kernel) rfl⟩
theorem v_X0_worthiest : VY yX0_worthiest cX0_worthiest 5 (some .int) 1 := ⟨⟨gm (i := 20) (by decide +kernel) rfl, gm (i := 289) (by decide +kernel) rfl, by decide +kernel, by decide +kernel, by decide +kernel⟩, gm (i := 288) (by decide +kernel) rfl, gm (i := 6) (by decide +kernel) rfl⟩
theorem v_X0_nearest : VY yX0_nearest cX0_nearest 6 (some .int) 1 := ⟨⟨gm (i := 20) (by decide +kernel) rfl, gm (i := 293) (by decide +kernel) rfl, by decide +kernel, by decide +kernel, by decide +kernel⟩, gm (i := 292) (by decide +kernel) rfl, gm (i := 7) (by decide +kernel) rfl⟩
theorem s_X0_distance : SY yX0_distance cX0_distance 2 (some .int) 2 := ⟨⟨gm (i := 20) (by decide +kernel) rfl, gm (i := 296) (by decide +kernel) rfl, by decide +kernel, by decide +kernel, by decide +kernel⟩, gm (i := 295) (by decide +kernel) rfl⟩
theorem v_X4_worthsOf : VY yX4_worthsOf cX4_worthsOf 4 (some .int) 1 := ⟨⟨gm (i := 19) (by decide +kernel) rfl, gm (i := 303) (by decide +kernel) rfl, by decide +kernel, by decide +kernel, by decide +kernel⟩, gm (i := 301) (by decide +kernel) rfl, gm (i := 302) (by decide +kernel) rfl⟩
theorem v_X5_thing : VY yX5_thing cX5_thing 3 (some .int) 2 := ⟨⟨gm (i := 18) (by decide +kernel) rfl, gm (i := 307) (by decide +kernel) rfl, by decide +kernel, by decide +kernel, by decide +kernel⟩, gm (i := 305) (by decide +kernel) rfl, gm (i := 306) (by decide +kernel) rfl⟩
theorem v_X4_hasThing : VY yX4_hasThing cX4_hasThing 2 (some .boolean) 1 := ⟨⟨gm (i := 19) (by decide +kernel) rfl, gm (i := 311) (by decide +kernel) rfl, by decide +kernel, by decide +kernel, by decide +kernel⟩, gm (i := 309) (by decide +kernel) rfl, gm (i := 310) (by decide +kernel) rfl⟩
theorem s_X5_orNone : SY yX5_orNone cX5_orNone 1 (some .int) 1 := ⟨⟨gm (i := 18) (by decide +kernel) rfl, gm (i := 314) (by decide +kernel) rfl, by decide +kernel, by decide +kernel, by decide +kernel⟩, gm (i := 313) (by decide +kernel) rfl⟩
theorem v_X5_cell : VY yX5_cell cX5_cell 3 (some .int) 2 := ⟨⟨gm (i := 18) (by decide +kernel) rfl, gm (i := 318) (by decide +kernel) rfl, by decide +kernel, by decide +kernel, by decide +kernel⟩, gm (i := 316) (by decide +kernel) rfl, gm (i := 317) (by decide +kernel) rfl⟩
theorem s_X5_isCell : SY yX5_isCell cX5_isCell 1 (some .boolean) 1 := ⟨⟨gm (i := 18) (by decide +kernel) rfl, gm (i := 321) (by decide +kernel) rfl, by decide +kernel, by decide +kernel, by decide +kernel⟩, gm (i := 320) (by decide +kernel) rfl⟩
theorem v_X0_fogOn : VY yX0_fogOn cX0_fogOn 4 (some .int) 1 := ⟨⟨gm (i := 20) (by decide +kernel) rfl, gm (i := 326) (by decide +kernel) rfl, by decide +kernel, by decide +kernel, by decide +kernel⟩, gm (i := 324) (by decide +kernel) rfl, gm (i := 325) (by decide +kernel) rfl⟩
theorem v_X0_isInFog : VY yX0_isInFog cX0_isInFog 2 (some .boolean) 1 := ⟨⟨gm (i := 20) (by decide +kernel) rfl, gm (i := 332) (by decide +kernel) rfl, by decide +kernel, by decide +kernel, by decide +kernel⟩, gm (i := 330) (by decide +kernel) rfl, gm (i := 331) (by decide +kernel) rfl⟩
theorem v_X4_peopleOn : VY yX4_peopleOn cX4_peopleOn 4 (some .int) 1 := ⟨⟨gm (i := 19) (by decide +kernel) rfl, gm (i := 337) (by decide +kernel) rfl, by decide +kernel, by decide +kernel, by decide +kernel⟩, gm (i := 335) (by decide +kernel) rfl, gm (i := 336) (by decide +kernel) rfl⟩
theorem v_X4_thingsOn : VY yX4_thingsOn cX4_thingsOn 4 (some .int) 1 := ⟨⟨gm (i := 19) (by decide +kernel) rfl, gm (i := 341) (by decide +kernel) rfl, by decide +kernel, by decide +kernel, by decide +kernel⟩, gm (i := 339) (by decide +kernel) rfl, gm (i := 340) (by decide +kernel) rfl⟩
theorem v_X5_count : VY yX5_count cX5_count 2 (some .int) 1 := ⟨⟨gm (i := 18) (by decide +kernel) rfl, gm (i := 345) (by decide +kernel) rfl, by decide +kernel, by decide +kernel, by decide +kernel⟩, gm (i := 343) (by decide +kernel) rfl, gm (i := 344) (by decide +kernel) rfl⟩
theorem v_X4_ownedThings : VY yX4_ownedThings cX4_ownedThings 1 (some .int) 0 := ⟨⟨gm (i := 19) (by decide +kernel) rfl, gm (i := 349) (by decide +kernel) rfl, by decide +kernel, by decide +kernel, by decide +kernel⟩, gm (i := 347) (by decide +kernel) rfl, gm (i := 348) (by decide +kernel) rfl⟩
theorem v_X4_nobodysThings : VY yX4_nobodysThings cX4_nobodysThings 3 (some .int) 0 := ⟨⟨gm (i := 19) (by decide +kernel) rfl, gm (i := 353) (by decide +kernel) rfl, by decide +kernel, by decide +kernel, by decide +kernel⟩, gm (i := 351) (by decide +kernel) rfl, gm (i := 352) (by decide +kernel) rfl⟩
theorem s_J6_bitCount_0f7a4 : SY yJ6_bitCount_0f7a4 cJ6_bitCount_0f7a4 1 (some .int) 1 := ⟨⟨gm (i := 22) (by decide +kernel) rfl, gm (i := 356) (by decide +kernel) rfl, by decide +kernel, by decide +kernel, by decide +kernel⟩, gm (i := 355) (by decide +kernel) rfl⟩
theorem v_X0_foggyCells : VY yX0_foggyCells cX0_foggyCells 3 (some .int) 0 := ⟨⟨gm (i := 20) (by decide +kernel) rfl, gm (i := 363) (by decide +kernel) rfl, by decide +kernel, by decide +kernel, by decide +kernel⟩, gm (i := 361) (by decide +kernel) rfl, gm (i := 362) (by decide +kernel) rfl⟩
theorem v_X5_stands : VY yX5_stands cX5_stands 4 (some .int) 2 := ⟨⟨gm (i := 18) (by decide +kernel) rfl, gm (i := 368) (by decide +kernel) rfl, by decide +kernel, by decide +kernel, by decide +kernel⟩, gm (i := 366) (by decide +kernel) rfl, gm (i := 367) (by decide +kernel) rfl⟩
theorem v_X5_keepForBack : VY yX5_keepForBack cX5_keepForBack 3 none 0 := ⟨⟨gm (i := 18) (by decide +kernel) rfl, gm (i := 372) (by decide +kernel) rfl, by decide +kernel, by decide +kernel, by decide +kernel⟩, gm (i := 371) (by decide +kernel) rfl, gm (i := 8) (by decide +kernel) rfl⟩
theorem v_X5_hours : VY yX5_hours cX5_hours 3 (some .int) 1 := ⟨⟨gm (i := 18) (by decide +kernel) rfl, gm (i := 377) (by decide +kernel) rfl, by decide +kernel, by decide +kernel, by decide +kernel⟩, gm (i := 375) (by decide +kernel) rfl, gm (i := 376) (by decide +kernel) rfl⟩
theorem s_X5_outOfRange : SY yX5_outOfRange cX5_outOfRange 3 (some .int) 3 := ⟨⟨gm (i := 18) (by decide +kernel) rfl, gm (i := 380) (by decide +kernel) rfl, by decide +kernel, by decide +kernel, by decide +kernel⟩, gm (i := 379) (by decide +kernel) rfl⟩
theorem v_X5_thinkOn : VY yX5_thinkOn cX5_thinkOn 2 none 1 := ⟨⟨gm (i := 18) (by decide +kernel) rfl, gm (i := 384) (by decide +kernel) rfl, by decide +kernel, by decide +kernel, by decide +kernel⟩, gm (i := 383) (by decide +kernel) rfl, gm (i := 9) (by decide +kernel) rfl⟩
theorem v_X0_goOn : VY yX0_goOn cX0_goOn 4 none 1 := ⟨⟨gm (i := 20) (by decide +kernel) rfl, gm (i := 388) (by decide +kernel) rfl, by decide +kernel, by decide +kernel, by decide +kernel⟩, gm (i := 386) (by decide +kernel) rfl, gm (i := 387) (by decide +kernel) rfl⟩
theorem v_X0_dropInTheClear : VY yX0_dropInTheClear cX0_dropInTheClear 2 none 0 := ⟨⟨gm (i := 20) (by decide +kernel) rfl, gm (i := 392) (by decide +kernel) rfl, by decide +kernel, by decide +kernel, by decide +kernel⟩, gm (i := 391) (by decide +kernel) rfl, gm (i := 10) (by decide +kernel) rfl⟩
theorem v_X0_walk : VY yX0_walk cX0_walk 7 none 2 := ⟨⟨gm (i := 20) (by decide +kernel) rfl, gm (i := 397) (by decide +kernel) rfl, by decide +kernel, by decide +kernel, by decide +kernel⟩, gm (i := 396) (by decide +kernel) rfl, gm (i := 11) (by decide +kernel) rfl⟩
theorem v_X0_grab : VY yX0_grab cX0_grab 7 none 1 := ⟨⟨gm (i := 20) (by decide +kernel) rfl, gm (i := 402) (by decide +kernel) rfl, by decide +kernel, by decide +kernel, by decide +kernel⟩, gm (i := 401) (by decide +kernel) rfl, gm (i := 12) (by decide +kernel) rfl⟩
theorem s_X1_mayTakeAnothers : SY yX1_mayTakeAnothers cX1_mayTakeAnothers 3 (some .boolean) 3 := ⟨⟨gm (i := 25) (by decide +kernel) rfl, gm (i := 406) (by decide +kernel) rfl, by decide +kernel, by decide +kernel, by decide +kernel⟩, gm (i := 405) (by decide +kernel) rfl⟩
theorem v_X5_back : VY yX5_back cX5_back 1 (some .int) 0 := ⟨⟨gm (i := 18) (by decide +kernel) rfl, gm (i := 410) (by decide +kernel) rfl, by decide +kernel, by decide +kernel, by decide +kernel⟩, gm (i := 408) (by decide +kernel) rfl, gm (i := 409) (by decide +kernel) rfl⟩
theorem v_X5_then : VY yX5_then cX5_then 4 (some .int) 2 := ⟨⟨gm (i := 18) (by decide +kernel) rfl, gm (i := 414) (by decide +kernel) rfl, by decide +kernel, by decide +kernel, by decide +kernel⟩, gm (i := 412) (by decide +kernel) rfl, gm (i := 413) (by decide +kernel) rfl⟩
theorem v_X5_personThen : VY yX5_personThen cX5_personThen 5 (some .int) 3 := ⟨⟨gm (i := 18) (by decide +kernel) rfl, gm (i := 419) (by decide +kernel) rfl, by decide +kernel, by decide +kernel, by decide +kernel⟩, gm (i := 417) (by decide +kernel) rfl, gm (i := 418) (by decide +kernel) rfl⟩
theorem v_X5_clears : VY yX5_clears cX5_clears 3 (some .int) 1 := ⟨⟨gm (i := 18) (by decide +kernel) rfl, gm (i := 423) (by decide +kernel) rfl, by decide +kernel, by decide +kernel, by decide +kernel⟩, gm (i := 421) (by decide +kernel) rfl, gm (i := 422) (by decide +kernel) rfl⟩
theorem v_X5_stand : VY yX5_stand cX5_stand 9 (some .int) 3 := ⟨⟨gm (i := 18) (by decide +kernel) rfl, gm (i := 427) (by decide +kernel) rfl, by decide +kernel, by decide +kernel, by decide +kernel⟩, gm (i := 425) (by decide +kernel) rfl, gm (i := 426) (by decide +kernel) rfl⟩
theorem v_X5_islands : VY yX5_islands cX5_islands 3 (some .int) 1 := ⟨⟨gm (i := 18) (by decide +kernel) rfl, gm (i := 431) (by decide +kernel) rfl, by decide +kernel, by decide +kernel, by decide +kernel⟩, gm (i := 429) (by decide +kernel) rfl, gm (i := 430) (by decide +kernel) rfl⟩
theorem s_X2_pieceWith : SY yX2_pieceWith cX2_pieceWith 4 (some .int) 2 := ⟨⟨gm (i := 26) (by decide +kernel) rfl, gm (i := 434) (by decide +kernel) rfl, by decide +kernel, by decide +kernel, by decide +kernel⟩, gm (i := 433) (by decide +kernel) rfl⟩
theorem s_X2_spread : SY yX2_spread cX2_spread 4 (some .int) 2 := ⟨⟨gm (i := 26) (by decide +kernel) rfl, gm (i := 437) (by decide +kernel) rfl, by decide +kernel, by decide +kernel, by decide +kernel⟩, gm (i := 436) (by decide +kernel) rfl⟩
theorem s_X2_howMany : SY yX2_howMany cX2_howMany 4 (some .int) 1 := ⟨⟨gm (i := 26) (by decide +kernel) rfl, gm (i := 442) (by decide +kernel) rfl, by decide +kernel, by decide +kernel, by decide +kernel⟩, gm (i := 441) (by decide +kernel) rfl⟩
theorem s_X2_greatest : SY yX2_greatest cX2_greatest 3 (some .int) 1 := ⟨⟨gm (i := 26) (by decide +kernel) rfl, gm (i := 446) (by decide +kernel) rfl, by decide +kernel, by decide +kernel, by decide +kernel⟩, gm (i := 445) (by decide +kernel) rfl⟩
theorem v_X5_way : VY yX5_way cX5_way 3 (some .int) 2 := ⟨⟨gm (i := 18) (by decide +kernel) rfl, gm (i := 452) (by decide +kernel) rfl, by decide +kernel, by decide +kernel, by decide +kernel⟩, gm (i := 450) (by decide +kernel) rfl, gm (i := 451) (by decide +kernel) rfl⟩
theorem s_X2_steps : SY yX2_steps cX2_steps 5 (some .int) 3 := ⟨⟨gm (i := 26) (by decide +kernel) rfl, gm (i := 455) (by decide +kernel) rfl, by decide +kernel, by decide +kernel, by decide +kernel⟩, gm (i := 454) (by decide +kernel) rfl⟩
theorem v_X5_sight : VY yX5_sight cX5_sight 2 (some .int) 1 := ⟨⟨gm (i := 18) (by decide +kernel) rfl, gm (i := 459) (by decide +kernel) rfl, by decide +kernel, by decide +kernel, by decide +kernel⟩, gm (i := 457) (by decide +kernel) rfl, gm (i := 458) (by decide +kernel) rfl⟩
theorem v_X5_richest : VY yX5_richest cX5_richest 5 (some .int) 0 := ⟨⟨gm (i := 18) (by decide +kernel) rfl, gm (i := 463) (by decide +kernel) rfl, by decide +kernel, by decide +kernel, by decide +kernel⟩, gm (i := 462) (by decide +kernel) rfl, gm (i := 13) (by decide +kernel) rfl⟩
theorem v_X5_wetThings : VY yX5_wetThings cX5_wetThings 3 (some .int) 0 := ⟨⟨gm (i := 18) (by decide +kernel) rfl, gm (i := 467) (by decide +kernel) rfl, by decide +kernel, by decide +kernel, by decide +kernel⟩, gm (i := 466) (by decide +kernel) rfl, gm (i := 14) (by decide +kernel) rfl⟩
theorem v_X5_crowdedCell : VY yX5_crowdedCell cX5_crowdedCell 5 (some .int) 0 := ⟨⟨gm (i := 18) (by decide +kernel) rfl, gm (i := 471) (by decide +kernel) rfl, by decide +kernel, by decide +kernel, by decide +kernel⟩, gm (i := 470) (by decide +kernel) rfl, gm (i := 15) (by decide +kernel) rfl⟩
theorem v_X5_hoursAlike : VY yX5_hoursAlike cX5_hoursAlike 4 (some .int) 0 := ⟨⟨gm (i := 18) (by decide +kernel) rfl, gm (i := 476) (by decide +kernel) rfl, by decide +kernel, by decide +kernel, by decide +kernel⟩, gm (i := 475) (by decide +kernel) rfl, gm (i := 16) (by decide +kernel) rfl⟩
theorem v_X5_image : VY yX5_image cX5_image 1 (some .int) 0 := ⟨⟨gm (i := 18) (by decide +kernel) rfl, gm (i := 480) (by decide +kernel) rfl, by decide +kernel, by decide +kernel, by decide +kernel⟩, gm (i := 478) (by decide +kernel) rfl, gm (i := 479) (by decide +kernel) rfl⟩
theorem v_X5_restore : VY yX5_restore cX5_restore 1 (some .int) 0 := ⟨⟨gm (i := 18) (by decide +kernel) rfl, gm (i := 484) (by decide +kernel) rfl, by decide +kernel, by decide +kernel, by decide +kernel⟩, gm (i := 482) (by decide +kernel) rfl, gm (i := 483) (by decide +kernel) rfl⟩
theorem s_L_coast : SY yL_coast cL_coast 5 none 3 := ⟨⟨gm (i := 17) (by decide +kernel) rfl, gm (i := 487) (by decide +kernel) rfl, by decide +kernel, by decide +kernel, by decide +kernel⟩, gm (i := 486) (by decide +kernel) rfl⟩
theorem s_L_cell : SY yL_cell cL_cell 2 (some .int) 2 := ⟨⟨gm (i := 17) (by decide +kernel) rfl, gm (i := 490) (by decide +kernel) rfl, by decide +kernel, by decide +kernel, by decide +kernel⟩, gm (i := 489) (by decide +kernel) rfl⟩
theorem s_L_pick : SY yL_pick cL_pick 2 (some .int) 2 := ⟨⟨gm (i := 17) (by decide +kernel) rfl, gm (i := 493) (by decide +kernel) rfl, by decide +kernel, by decide +kernel, by decide +kernel⟩, gm (i := 492) (by decide +kernel) rfl⟩
theorem v_X5_blows : VY yX5_blows cX5_blows 4 (some .int) 3 := ⟨⟨gm (i := 18) (by decide +kernel) rfl, gm (i := 498) (by decide +kernel) rfl, by decide +kernel, by decide +kernel, by decide +kernel⟩, gm (i := 496) (by decide +kernel) rfl, gm (i := 497) (by decide +kernel) rfl⟩
theorem v_X4_addFront : VY yX4_addFront cX4_addFront 4 (some .boolean) 3 := ⟨⟨gm (i := 19) (by decide +kernel) rfl, gm (i := 502) (by decide +kernel) rfl, by decide +kernel, by decide +kernel, by decide +kernel⟩, gm (i := 500) (by decide +kernel) rfl, gm (i := 501) (by decide +kernel) rfl⟩
theorem v_X5_comes : VY yX5_comes cX5_comes 4 (some .int) 3 := ⟨⟨gm (i := 18) (by decide +kernel) rfl, gm (i := 506) (by decide +kernel) rfl, by decide +kernel, by decide +kernel, by decide +kernel⟩, gm (i := 504) (by decide +kernel) rfl, gm (i := 505) (by decide +kernel) rfl⟩
theorem v_X4_addPerson : VY yX4_addPerson cX4_addPerson 4 (some .boolean) 3 := ⟨⟨gm (i := 19) (by decide +kernel) rfl, gm (i := 510) (by decide +kernel) rfl, by decide +kernel, by decide +kernel, by decide +kernel⟩, gm (i := 508) (by decide +kernel) rfl, gm (i := 509) (by decide +kernel) rfl⟩
theorem v_X5_lies : VY yX5_lies cX5_lies 3 (some .int) 2 := ⟨⟨gm (i := 18) (by decide +kernel) rfl, gm (i := 515) (by decide +kernel) rfl, by decide +kernel, by decide +kernel, by decide +kernel⟩, gm (i := 513) (by decide +kernel) rfl, gm (i := 514) (by decide +kernel) rfl⟩
theorem v_X4_addThing : VY yX4_addThing cX4_addThing 3 (some .boolean) 2 := ⟨⟨gm (i := 19) (by decide +kernel) rfl, gm (i := 519) (by decide +kernel) rfl, by decide +kernel, by decide +kernel, by decide +kernel⟩, gm (i := 517) (by decide +kernel) rfl, gm (i := 518) (by decide +kernel) rfl⟩
theorem v_X5_owns : VY yX5_owns cX5_owns 4 (some .int) 2 := ⟨⟨gm (i := 18) (by decide +kernel) rfl, gm (i := 523) (by decide +kernel) rfl, by decide +kernel, by decide +kernel, by decide +kernel⟩, gm (i := 521) (by decide +kernel) rfl, gm (i := 522) (by decide +kernel) rfl⟩
theorem v_X5_thick : VY yX5_thick cX5_thick 4 (some .int) 1 := ⟨⟨gm (i := 18) (by decide +kernel) rfl, gm (i := 527) (by decide +kernel) rfl, by decide +kernel, by decide +kernel, by decide +kernel⟩, gm (i := 525) (by decide +kernel) rfl, gm (i := 526) (by decide +kernel) rfl⟩
theorem l_L_72 : Cond.methodLink RL 72 yX5_person ∈ lw_g := gm (i := 213) (by decide +kernel) rfl
theorem l_X5_123 : Cond.methodLink RX5 123 yX4_hasPerson ∈ lw_g := gm (i := 217) (by decide +kernel) rfl
theorem l_X5_60 : Cond.methodLink RX5 60 yX5_refuse ∈ lw_g := gm (i := 221) (by decide +kernel) rfl
theorem l_X5_138 : Cond.methodLink RX5 138 yX1_pace ∈ lw_g := gm (i := 225) (by decide +kernel) rfl
theorem l_X5_144 : Cond.methodLink RX5 144 yX1_grabs ∈ lw_g := gm (i := 228) (by decide +kernel) rfl
theorem l_X5_147 : Cond.methodLink RX5 147 yX1_steam ∈ lw_g := gm (i := 231) (by decide +kernel) rfl
theorem l_X5_67 : Cond.methodLink RX5 67 yX0_begin ∈ lw_g := gm (i := 234) (by decide +kernel) rfl
theorem l_X0_36 : Cond.methodLink RX0 36 yX4_become ∈ lw_g := gm (i := 238) (by decide +kernel) rfl
theorem l_X4_58 : Cond.methodLink RX4 58 arraycopyName ∈ lw_g := gm (i := 242) (by decide +kernel) rfl
theorem l_X0_40 : Cond.methodLink RX0 40 yX0_look ∈ lw_g := gm (i := 245) (by decide +kernel) rfl
theorem l_X0_46 : Cond.methodLink RX0 46 yX3_rowOf ∈ lw_g := gm (i := 249) (by decide +kernel) rfl
theorem l_X3_37 : Cond.methodLink RX3 37 yX3_isOf ∈ lw_g := gm (i := 253) (by decide +kernel) rfl
theorem l_X3_41 : Cond.methodLink RX3 41 yX3_turnTo ∈ lw_g := gm (i := 257) (by decide +kernel) rfl
theorem l_X3_55 : Cond.methodLink RX3 55 arraycopyName ∈ lw_g := gm (i := 261) (by decide +kernel) rfl
theorem l_X3_45 : Cond.methodLink RX3 45 yX3_airAt ∈ lw_g := gm (i := 262) (by decide +kernel) rfl
theorem l_X3_61 : Cond.methodLink RX3 61 yJ9_max_7cf53 ∈ lw_g := gm (i := 266) (by decide +kernel) rfl
theorem l_X3_66 : Cond.methodLink RX3 66 yX3_airOfFront ∈ lw_g := gm (i := 269) (by decide +kernel) rfl
theorem l_X5_150 : Cond.methodLink RX5 150 yX0_look ∈ lw_g := gm (i := 273) (by decide +kernel) rfl
theorem l_X5_153 : Cond.methodLink RX5 153 yX0_goal ∈ lw_g := gm (i := 274) (by decide +kernel) rfl
theorem l_X0_127 : Cond.methodLink RX0 127 yX0_airiest ∈ lw_g := gm (i := 278) (by decide +kernel) rfl
theorem l_X0_54 : Cond.methodLink RX0 54 yX0_airOn ∈ lw_g := gm (i := 282) (by decide +kernel) rfl
theorem l_X0_131 : Cond.methodLink RX0 131 yX0_worthiest ∈ lw_g := gm (i := 286) (by decide +kernel) rfl
theorem l_X0_134 : Cond.methodLink RX0 134 yX0_nearest ∈ lw_g := gm (i := 290) (by decide +kernel) rfl
theorem l_X0_140 : Cond.methodLink RX0 140 yX0_distance ∈ lw_g := gm (i := 294) (by decide +kernel) rfl
theorem l_X0_143 : Cond.methodLink RX0 143 yJ9_abs_0f7a4 ∈ lw_g := gm (i := 297) (by decide +kernel) rfl
theorem l_X5_156 : Cond.methodLink RX5 156 yX4_worthsOf ∈ lw_g := gm (i := 300) (by decide +kernel) rfl
theorem l_L_69 : Cond.methodLink RL 69 yX5_thing ∈ lw_g := gm (i := 304) (by decide +kernel) rfl
theorem l_X5_159 : Cond.methodLink RX5 159 yX4_hasThing ∈ lw_g := gm (i := 308) (by decide +kernel) rfl
theorem l_X5_171 : Cond.methodLink RX5 171 yX5_orNone ∈ lw_g := gm (i := 312) (by decide +kernel) rfl
theorem l_L_94 : Cond.methodLink RL 94 yX5_cell ∈ lw_g := gm (i := 315) (by decide +kernel) rfl
theorem l_X5_186 : Cond.methodLink RX5 186 yX5_isCell ∈ lw_g := gm (i := 319) (by decide +kernel) rfl
theorem l_X5_189 : Cond.methodLink RX5 189 yX0_airOn ∈ lw_g := gm (i := 322) (by decide +kernel) rfl
theorem l_X5_192 : Cond.methodLink RX5 192 yX0_fogOn ∈ lw_g := gm (i := 323) (by decide +kernel) rfl
theorem l_X0_70 : Cond.methodLink RX0 70 yX1_steam ∈ lw_g := gm (i := 327) (by decide +kernel) rfl
theorem l_X0_76 : Cond.methodLink RX0 76 yJ9_max_7cf53 ∈ lw_g := gm (i := 328) (by decide +kernel) rfl
theorem l_X5_195 : Cond.methodLink RX5 195 yX0_isInFog ∈ lw_g := gm (i := 329) (by decide +kernel) rfl
theorem l_X0_81 : Cond.methodLink RX0 81 yX0_fogOn ∈ lw_g := gm (i := 333) (by decide +kernel) rfl
theorem l_X5_198 : Cond.methodLink RX5 198 yX4_peopleOn ∈ lw_g := gm (i := 334) (by decide +kernel) rfl
theorem l_X5_201 : Cond.methodLink RX5 201 yX4_thingsOn ∈ lw_g := gm (i := 338) (by decide +kernel) rfl
theorem l_L_47 : Cond.methodLink RL 47 yX5_count ∈ lw_g := gm (i := 342) (by decide +kernel) rfl
theorem l_X5_213 : Cond.methodLink RX5 213 yX4_ownedThings ∈ lw_g := gm (i := 346) (by decide +kernel) rfl
theorem l_X4_77 : Cond.methodLink RX4 77 yX4_nobodysThings ∈ lw_g := gm (i := 350) (by decide +kernel) rfl
theorem l_X4_81 : Cond.methodLink RX4 81 yJ6_bitCount_0f7a4 ∈ lw_g := gm (i := 354) (by decide +kernel) rfl
theorem k_J6_265 : Cond.constant RJ6 265 (1431655765) ∈ lw_g := gm (i := 357) (by decide +kernel) rfl
theorem k_J6_266 : Cond.constant RJ6 266 (858993459) ∈ lw_g := gm (i := 358) (by decide +kernel) rfl
theorem k_J6_267 : Cond.constant RJ6 267 (252645135) ∈ lw_g := gm (i := 359) (by decide +kernel) rfl
theorem l_X5_217 : Cond.methodLink RX5 217 yX0_foggyCells ∈ lw_g := gm (i := 360) (by decide +kernel) rfl
theorem l_X0_87 : Cond.methodLink RX0 87 yX0_isInFog ∈ lw_g := gm (i := 364) (by decide +kernel) rfl
theorem l_L_53 : Cond.methodLink RL 53 yX5_stands ∈ lw_g := gm (i := 365) (by decide +kernel) rfl
theorem l_X5_224 : Cond.methodLink RX5 224 yX5_keepForBack ∈ lw_g := gm (i := 369) (by decide +kernel) rfl
theorem l_X5_84 : Cond.methodLink RX5 84 yX4_become ∈ lw_g := gm (i := 373) (by decide +kernel) rfl
theorem l_L_59 : Cond.methodLink RL 59 yX5_hours ∈ lw_g := gm (i := 374) (by decide +kernel) rfl
theorem l_X5_220 : Cond.methodLink RX5 220 yX5_outOfRange ∈ lw_g := gm (i := 378) (by decide +kernel) rfl
theorem l_X5_227 : Cond.methodLink RX5 227 yX5_thinkOn ∈ lw_g := gm (i := 381) (by decide +kernel) rfl
theorem l_X5_119 : Cond.methodLink RX5 119 yX0_goOn ∈ lw_g := gm (i := 385) (by decide +kernel) rfl
theorem l_X0_91 : Cond.methodLink RX0 91 yX0_dropInTheClear ∈ lw_g := gm (i := 389) (by decide +kernel) rfl
theorem l_X0_94 : Cond.methodLink RX0 94 yX0_goal ∈ lw_g := gm (i := 393) (by decide +kernel) rfl
theorem l_X0_97 : Cond.methodLink RX0 97 yX0_walk ∈ lw_g := gm (i := 394) (by decide +kernel) rfl
theorem l_X0_114 : Cond.methodLink RX0 114 yX1_pace ∈ lw_g := gm (i := 398) (by decide +kernel) rfl
theorem l_X0_101 : Cond.methodLink RX0 101 yX0_grab ∈ lw_g := gm (i := 399) (by decide +kernel) rfl
theorem l_X0_117 : Cond.methodLink RX0 117 yX1_grabs ∈ lw_g := gm (i := 403) (by decide +kernel) rfl
theorem l_X0_123 : Cond.methodLink RX0 123 yX1_mayTakeAnothers ∈ lw_g := gm (i := 404) (by decide +kernel) rfl
theorem l_L_111 : Cond.methodLink RL 111 yX5_back ∈ lw_g := gm (i := 407) (by decide +kernel) rfl
theorem l_L_75 : Cond.methodLink RL 75 yX5_then ∈ lw_g := gm (i := 411) (by decide +kernel) rfl
theorem l_X5_230 : Cond.methodLink RX5 230 yX4_nobodysThings ∈ lw_g := gm (i := 415) (by decide +kernel) rfl
theorem l_L_108 : Cond.methodLink RL 108 yX5_personThen ∈ lw_g := gm (i := 416) (by decide +kernel) rfl
theorem l_L_96 : Cond.methodLink RL 96 yX5_clears ∈ lw_g := gm (i := 420) (by decide +kernel) rfl
theorem l_L_105 : Cond.methodLink RL 105 yX5_stand ∈ lw_g := gm (i := 424) (by decide +kernel) rfl
theorem l_L_99 : Cond.methodLink RL 99 yX5_islands ∈ lw_g := gm (i := 428) (by decide +kernel) rfl
theorem l_X5_279 : Cond.methodLink RX5 279 yX2_pieceWith ∈ lw_g := gm (i := 432) (by decide +kernel) rfl
theorem l_X2_13 : Cond.methodLink RX2 13 yX2_spread ∈ lw_g := gm (i := 435) (by decide +kernel) rfl
theorem k_X2_11 : Cond.constant RX2 11 (-8521761) ∈ lw_g := gm (i := 438) (by decide +kernel) rfl
theorem k_X2_12 : Cond.constant RX2 12 (-266306) ∈ lw_g := gm (i := 439) (by decide +kernel) rfl
theorem l_X5_284 : Cond.methodLink RX5 284 yX2_howMany ∈ lw_g := gm (i := 440) (by decide +kernel) rfl
theorem l_X2_17 : Cond.methodLink RX2 17 yX2_pieceWith ∈ lw_g := gm (i := 443) (by decide +kernel) rfl
theorem l_X5_287 : Cond.methodLink RX5 287 yX2_greatest ∈ lw_g := gm (i := 444) (by decide +kernel) rfl
theorem l_X2_20 : Cond.methodLink RX2 20 yJ6_bitCount_0f7a4 ∈ lw_g := gm (i := 447) (by decide +kernel) rfl
theorem l_X2_26 : Cond.methodLink RX2 26 yJ9_max_7cf53 ∈ lw_g := gm (i := 448) (by decide +kernel) rfl
theorem l_L_102 : Cond.methodLink RL 102 yX5_way ∈ lw_g := gm (i := 449) (by decide +kernel) rfl
theorem l_X5_295 : Cond.methodLink RX5 295 yX2_steps ∈ lw_g := gm (i := 453) (by decide +kernel) rfl
theorem l_L_78 : Cond.methodLink RL 78 yX5_sight ∈ lw_g := gm (i := 456) (by decide +kernel) rfl
theorem l_X5_298 : Cond.methodLink RX5 298 yX5_richest ∈ lw_g := gm (i := 460) (by decide +kernel) rfl
theorem l_X5_301 : Cond.methodLink RX5 301 yX5_wetThings ∈ lw_g := gm (i := 464) (by decide +kernel) rfl
theorem l_X5_304 : Cond.methodLink RX5 304 yX5_crowdedCell ∈ lw_g := gm (i := 468) (by decide +kernel) rfl
theorem l_X5_242 : Cond.methodLink RX5 242 yJ6_bitCount_0f7a4 ∈ lw_g := gm (i := 472) (by decide +kernel) rfl
theorem l_X5_307 : Cond.methodLink RX5 307 yX5_hoursAlike ∈ lw_g := gm (i := 473) (by decide +kernel) rfl
theorem l_L_66 : Cond.methodLink RL 66 yX5_image ∈ lw_g := gm (i := 477) (by decide +kernel) rfl
theorem l_L_114 : Cond.methodLink RL 114 yX5_restore ∈ lw_g := gm (i := 481) (by decide +kernel) rfl
theorem l_L_63 : Cond.methodLink RL 63 yL_coast ∈ lw_g := gm (i := 485) (by decide +kernel) rfl
theorem l_L_27 : Cond.methodLink RL 27 yL_cell ∈ lw_g := gm (i := 488) (by decide +kernel) rfl
theorem l_L_33 : Cond.methodLink RL 33 yL_pick ∈ lw_g := gm (i := 491) (by decide +kernel) rfl
theorem k_L_7 : Cond.constant RL 7 (2147483647) ∈ lw_g := gm (i := 494) (by decide +kernel) rfl
theorem l_L_37 : Cond.methodLink RL 37 yX5_blows ∈ lw_g := gm (i := 495) (by decide +kernel) rfl
theorem l_X5_93 : Cond.methodLink RX5 93 yX4_addFront ∈ lw_g := gm (i := 499) (by decide +kernel) rfl
theorem l_L_41 : Cond.methodLink RL 41 yX5_comes ∈ lw_g := gm (i := 503) (by decide +kernel) rfl
theorem l_X5_100 : Cond.methodLink RX5 100 yX4_addPerson ∈ lw_g := gm (i := 507) (by decide +kernel) rfl
theorem l_L_44 : Cond.methodLink RL 44 yX5_lies ∈ lw_g := gm (i := 512) (by decide +kernel) rfl
theorem l_X5_103 : Cond.methodLink RX5 103 yX4_addThing ∈ lw_g := gm (i := 516) (by decide +kernel) rfl
theorem l_L_50 : Cond.methodLink RL 50 yX5_owns ∈ lw_g := gm (i := 520) (by decide +kernel) rfl
theorem l_L_56 : Cond.methodLink RL 56 yX5_thick ∈ lw_g := gm (i := 524) (by decide +kernel) rfl
theorem l_L_81 : Cond.methodLink RL 81 yJ6_bitCount_0f7a4 ∈ lw_g := gm (i := 528) (by decide +kernel) rfl
theorem l_L_86 : Cond.methodLink RL 86 yJ9_abs_0f7a4 ∈ lw_g := gm (i := 529) (by decide +kernel) rfl
theorem l_L_91 : Cond.methodLink RL 91 yJ9_min_7cf53 ∈ lw_g := gm (i := 530) (by decide +kernel) rfl
theorem w_acN : Cond.native arraycopyName ∈ lw_g := gm (i := 244) (by decide +kernel) rfl
theorem w_acS : Cond.static arraycopyName ∈ lw_g := gm (i := 243) (by decide +kernel) rfl
theorem w_acI : Cond.initialized "java/lang/System" ∈ lw_g := gm (i := 23) (by decide +kernel) rfl
theorem w_mI : Cond.initialized "java/lang/Math" ∈ lw_g := gm (i := 24) (by decide +kernel) rfl
theorem w_maxS : Cond.static Lib.Math.max.name ∈ lw_g := gm (i := 267) (by decide +kernel) rfl
theorem w_maxC : Cond.code Lib.Math.max.name Lib.Math.max.code 2 (some .int) ∈ lw_g := gm (i := 268) (by decide +kernel) rfl
theorem w_absS : Cond.static Lib.Math.abs.name ∈ lw_g := gm (i := 298) (by decide +kernel) rfl
theorem w_absC : Cond.code Lib.Math.abs.name Lib.Math.abs.code 1 (some .int) ∈ lw_g := gm (i := 299) (by decide +kernel) rfl
theorem w_minS : Cond.static Lib.Math.min.name ∈ lw_g := gm (i := 531) (by decide +kernel) rfl
theorem w_minC : Cond.code Lib.Math.min.name Lib.Math.min.code 2 (some .int) ∈ lw_g := gm (i := 532) (by decide +kernel) rfl
