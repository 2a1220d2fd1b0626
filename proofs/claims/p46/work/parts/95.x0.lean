theorem df_X4 : ∀ j, j < 15 → defaultValue (tyX4 j) = vp_V [.null, .null, .null, .int 0, .null, .null, .null, .int 0, .null, .null, .null, .null, .int 0, .int 0, .int 0] j := by decide +kernel
theorem in_X4 : Cond.instantiable RX4 15 ∈ lw_g := gm (i := 36) (by decide +kernel) rfl
theorem df_X3 : ∀ j, j < 8 → defaultValue (tyX3 j) = vp_V [.null, .null, .null, .int 0, .null, .null, .null, .null] j := by decide +kernel
theorem in_X3 : Cond.instantiable RX3 8 ∈ lw_g := gm (i := 125) (by decide +kernel) rfl
theorem df_X0 : ∀ j, j < 5 → defaultValue (tyX0 j) = vp_V [.null, .null, .int 0, .int 0, .int 0] j := by decide +kernel
theorem in_X0 : Cond.instantiable RX0 5 ∈ lw_g := gm (i := 117) (by decide +kernel) rfl
theorem df_X5 : ∀ j, j < 13 → defaultValue (tyX5 j) = vp_V [.null, .null, .int 0, .null, .int 0, .null, .int 0, .null, .int 0, .null, .null, .null, .null] j := by decide +kernel
theorem in_X5 : Cond.instantiable RX5 13 ∈ lw_g := gm (i := 28) (by decide +kernel) rfl
set_option maxHeartbeats 4000000 in
set_option maxRecDepth 100000 in
theorem i_X0 (l : Launch) : InitC l yX0_init cX0_init 1 2 19 1715 0 [.null, .null, .int 0, .int 0, .int 0] I0 129 := by
  refine init_of (own := RX0) (by decide +kernel) rfl rfl (by decide) ?_
  intro D h0 p e s m below meth c hname hr hlocks
  refine z_aload (i := 0) (j := 0) dX0_init_0 rfl rfl ?_
  refine z_obj dX0_init_1 (gm (i := 121) (by decide +kernel) rfl) (Nat.le_of_ble_eq_true rfl) (Nat.le_of_ble_eq_true rfl) ?_
  refine z_aload (i := 0) (j := 0) dX0_init_4 rfl rfl ?_
  refine s_new (ci := 2) (ty0 := tyX4) (fs := [.null, .null, .null, .int 0, .null, .null, .null, .int 0, .null, .null, .null, .null, .int 0, .int 0, .int 0]) dX0_init_5 rfl fw_X4 tyX4_ok (gm (i := 122) (by decide +kernel) rfl) in_X4 mi_X4.2.2.1 df_X4 (Nat.le_of_ble_eq_true rfl) (Nat.le_of_ble_eq_true rfl) (fun q => ?_)
  refine z_dup dX0_init_8 ?_
  refine s_initN (I := (wI 22)) (q0 := 22) dX0_init_9 (i_X4 l (w := 22) (by decide)) (fun C => C.2.2.1) mi_X4 (Nat.le_of_ble_eq_true rfl) (Nat.le_of_ble_eq_true rfl) (by decide) (Nat.le_of_ble_eq_true rfl) (Nat.le_of_ble_eq_true rfl) (Nat.le_of_ble_eq_true rfl) (fun κw κwD κw_q => ?_)
  subst κw_q
  refine s_putF_X0 (k := 0) (fs' := [.ref (κw.1 22), .null, .int 0, .int 0, .int 0]) dX0_init_12 f_X0_12 (by decide) rfl rfl hname rfl rfl (Nat.le_of_ble_eq_true rfl) rfl ?_
  refine z_aload (i := 0) (j := 0) dX0_init_15 rfl rfl ?_
  refine s_new (ci := 1) (ty0 := tyX3) (fs := [.null, .null, .null, .int 0, .null, .null, .null, .null]) dX0_init_16 rfl fw_X3 tyX3_ok (gm (i := 124) (by decide +kernel) rfl) in_X3 mi_X3.2.2.1 df_X3 (Nat.le_of_ble_eq_true rfl) (Nat.le_of_ble_eq_true rfl) (fun q => ?_)
  refine z_dup dX0_init_19 ?_
  refine s_init (I := I3) (q0 := 121) dX0_init_20 (i_X3 l) (gm (i := 126) (by decide +kernel) rfl) mi_X3 (Nat.le_of_ble_eq_true rfl) (Nat.le_of_ble_eq_true rfl) (by decide) (Nat.le_of_ble_eq_true rfl) (Nat.le_of_ble_eq_true rfl) (Nat.le_of_ble_eq_true rfl) (fun κs κsD κs_q => ?_)
  subst κs_q
  refine s_putF_X0 (k := 1) (fs' := [.ref (κw.1 22), .ref (κs.1 121), .int 0, .int 0, .int 0]) dX0_init_23 f_X0_21 (by decide) rfl rfl hname rfl rfl (Nat.le_of_ble_eq_true rfl) rfl ?_
  refine z_aload (i := 0) (j := 0) dX0_init_26 rfl rfl ?_
  refine z_iconst (v := 0) dX0_init_27 (by decide) ?_
  refine s_put_X0 (k := 2) (fs' := [.ref (κw.1 22), .ref (κs.1 121), .int 0, .int 0, .int 0]) dX0_init_28 f_X0_25 (by decide) rfl  rfl rfl (Nat.le_of_ble_eq_true rfl) rfl ?_
  refine z_aload (i := 0) (j := 0) dX0_init_31 rfl rfl ?_
  refine z_iconst (v := (-1)) dX0_init_32 (by decide) ?_
  refine s_put_X0 (k := 3) (fs' := [.ref (κw.1 22), .ref (κs.1 121), .int 0, .int (-1), .int 0]) dX0_init_33 f_X0_29 (by decide) rfl  rfl rfl (Nat.le_of_ble_eq_true rfl) rfl ?_
  refine z_aload (i := 0) (j := 0) dX0_init_36 rfl rfl ?_
  refine z_iconst (v := 0) dX0_init_37 (by decide) ?_
  refine s_put_X0 (k := 4) (fs' := [.ref (κw.1 22), .ref (κs.1 121), .int 0, .int (-1), .int 0]) dX0_init_38 f_X0_32 (by decide) rfl  rfl rfl (Nat.le_of_ble_eq_true rfl) rfl ?_
  obtain ⟨κ, kD, k129, kw, ks⟩ : ∃ κ : KP, κ.2.2 = D ∧ (κ.1 129 = h0 ∧ κ.2.1 129 = κw.2.1 22) ∧ (∀ q ∈ wI 22, κw.1 q = κ.1 q ∧ κw.2.1 q = κ.2.1 q) ∧ ∀ q ∈ I3, κs.1 q = κ.1 q ∧ κs.2.1 q = κ.2.1 q := by
    refine ⟨(fun q => if q < 33 then κw.1 q else if q < 129 then κs.1 q else h0, fun q => if q < 33 then κw.2.1 q else if q < 129 then κs.2.1 q else κw.2.1 22, D), rfl, ⟨rfl, rfl⟩, fun q hq => ?_, fun q hq => ?_⟩
    · have h1 : q < 33 := (by decide +kernel : ∀ q ∈ wI 22, q < 33) q hq
      exact ⟨(if_pos h1).symm, (if_pos h1).symm⟩
    · have h1 : ¬ q < 33 ∧ q < 129 := (by decide +kernel : ∀ q ∈ I3, ¬ q < 33 ∧ q < 129) q hq
      exact ⟨((if_neg h1.1).trans (if_pos h1.2)).symm, ((if_neg h1.1).trans (if_pos h1.2)).symm⟩
  refine z_ret κ dX0_init_41 hr hlocks (Nat.le_of_ble_eq_true rfl) (Nat.le_of_ble_eq_true rfl) kD k129.1 ?_ ?_
  · rw [pt_congr (by decide +kernel) kw, pt_congr (by decide +kernel) ks, (kw 22 (by decide +kernel)).1, (ks 121 (by decide +kernel)).1, ← k129.1]
    show _ = (κ.1 129, c0 κ 129) :: pt κ (wI 22 ++ I3)
    rw [pt_app, c0_129]
    rfl
  · rw [pty_congr kw, pty_congr ks]
    intro e he
    rcases List.mem_cons.mp (show e ∈ (κ.2.1 129, FieldType.int) :: pty κ (wI 22 ++ I3) from he) with h | h
    · rw [h, k129.2, (kw 22 (by decide +kernel)).2]
      exact List.mem_append.mpr (.inl (List.mem_append.mpr (.inr List.mem_cons_self)))
    · rw [pty_app] at h
      rcases List.mem_append.mp h with h | h
      · exact List.mem_append.mpr (.inl (List.mem_append.mpr (.inr h)))
      · exact List.mem_append.mpr (.inr h)
