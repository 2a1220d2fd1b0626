theorem c0_122 (κ : KP) : c0 κ 122 = .inl (κ.2.1 122, 6, .inl (fun _ => 0)) := rfl
theorem c0_123 (κ : KP) : c0 κ 123 = .inl (κ.2.1 123, 6, .inl (fun _ => 0)) := rfl
theorem c0_124 (κ : KP) : c0 κ 124 = .inl (κ.2.1 124, 6, .inl (fun _ => 0)) := rfl
theorem c0_125 (κ : KP) : c0 κ 125 = .inl (κ.2.1 125, 1536, .inl (fun _ => 0)) := rfl
theorem c0_126 (κ : KP) : c0 κ 126 = .inl (κ.2.1 126, 64, .inl (M0 126)) := rfl
theorem c0_127 (κ : KP) : c0 κ 127 = .inl (κ.2.1 127, 6, .inl (fun _ => 0)) := rfl
theorem c0_128 (κ : KP) : c0 κ 128 = .inl (κ.2.1 128, 6, .inl (fun _ => 0)) := rfl
theorem c0_132 (κ : KP) : c0 κ 132 = .inl (κ.2.1 132, 96, .inl (fun _ => 0)) := rfl
theorem c0_133 (κ : KP) : c0 κ 133 = .inl (κ.2.1 133, 12, .inl (fun _ => 0)) := rfl
theorem c0_134 (κ : KP) : c0 κ 134 = .inl (κ.2.1 134, 7, .inl (fun _ => 0)) := rfl
theorem c0_135 (κ : KP) : c0 κ 135 = .inl (κ.2.1 135, 4, .inl (fun _ => 0)) := rfl
theorem c0_136 (κ : KP) : c0 κ 136 = .inl (κ.2.1 136, 4, .inl (fun _ => 0)) := rfl
theorem c0_121 (κ : KP) : c0 κ 121 = .inr (1, [.ref (κ.1 122), .ref (κ.1 123), .ref (κ.1 124), .int 0, .ref (κ.1 125), .ref (κ.1 126), .ref (κ.1 127), .ref (κ.1 128)]) := rfl
theorem c0_129 (κ : KP) : c0 κ 129 = .inr (0, [.ref (κ.1 22), .ref (κ.1 121), .int 0, .int (-1), .int 0]) := rfl
theorem c0_130 (κ : KP) : c0 κ 130 = .inr (3, [.ref (κ.1 0), .ref (κ.1 11), .int 0, .ref (κ.1 131), .int 0, .ref (κ.1 132), .int 0, .ref (κ.1 133), .int 0, .ref (κ.1 134), .ref (κ.1 129), .ref (κ.1 135), .ref (κ.1 136)]) := rfl
theorem c0_131 (κ : KP) : c0 κ 131 = .inl (κ.2.1 131, 8, .inr (.inr (.inr (.inr (fun i => if i < 8 then some (κ.1 (33 + 11 * i)) else none))))) := rfl
theorem x3_loop {D : va_G} {p : Program} {l : Launch} {e : Env} {R : Room} {s : State} {m : MethodId} {args : Array Value} {below : List Frame} {meth : Method} {c : Code} {A : Nat → Prop} {Q : State → Prop} {tys : List (ClassId × FieldType)} {cells slots : Nat} {h0 q1 q2 q3 q4 q5 q6 q7 : Nat} {c1 c2 c3 c4 c5 c6 c7 : ClassId} (ht : tys[4]? = some (c5, .int)) (K : ∀ x : Int32, Zj D RX3 cX3_init 2 p l e R s m args below meth c A Q 87 [(1, .int x), (0, .ref h0)] [] [(h0, .inr (1, [.ref q1, .ref q2, .ref q3, .int 0, .ref q4, .ref q5, .ref q6, .ref q7])), (q1, .inl (c1, 6, .inl (fun _ => 0))), (q2, .inl (c2, 6, .inl (fun _ => 0))), (q3, .inl (c3, 6, .inl (fun _ => 0))), (q4, .inl (c4, 1536, .inl (fun _ => 0))), (q5, .inl (c5, 64, .inl (M0 126))), (q6, .inl (c6, 6, .inl (fun _ => 0))), (q7, .inl (c7, 6, .inl (fun _ => 0)))] tys cells slots) : ∀ (n i : Nat) (f : Nat → Int32), i + n = 64 → (∀ j, f j = if j < i then -1 else 0) → Zj D RX3 cX3_init 2 p l e R s m args below meth c A Q 68 [(1, .int (Int32.ofInt (i : Int))), (0, .ref h0)] [] [(h0, .inr (1, [.ref q1, .ref q2, .ref q3, .int 0, .ref q4, .ref q5, .ref q6, .ref q7])), (q1, .inl (c1, 6, .inl (fun _ => 0))), (q2, .inl (c2, 6, .inl (fun _ => 0))), (q3, .inl (c3, 6, .inl (fun _ => 0))), (q4, .inl (c4, 1536, .inl (fun _ => 0))), (q5, .inl (c5, 64, .inl f)), (q6, .inl (c6, 6, .inl (fun _ => 0))), (q7, .inl (c7, 6, .inl (fun _ => 0)))] tys cells slots := by
  intro n
  induction n with
  | zero =>
    intro i f h hf
    refine z_iload (i := 1) (j := 0) dX3_init_68 rfl rfl ?_
    refine z_bipush (v := Int32.ofInt 64) dX3_init_69 (by decide) ?_
    refine z_icmpge (tgt := 87) dX3_init_71 (by decide) (fun _ => ?_) (fun hh => absurd ((i_le (a := 64) (by decide) ⟨by omega, by omega⟩).mpr (by omega)) hh)
    have ef : f = M0 126 := by
      funext j
      rw [hf j, show i = 64 by omega]
      rfl
    rw [ef]
    exact K _
  | succ n ih =>
    intro i f h hf
    refine z_iload (i := 1) (j := 0) dX3_init_68 rfl rfl ?_
    refine z_bipush (v := Int32.ofInt 64) dX3_init_69 (by decide) ?_
    refine z_icmpge (tgt := 87) dX3_init_71 (by decide) (fun hh => absurd ((i_le (a := 64) (by decide) ⟨by omega, by omega⟩).mp hh) (by omega)) (fun _ => ?_)
    refine z_aload (i := 0) (j := 1) dX3_init_74 rfl rfl ?_
    refine s_get_X3 (k := 5) dX3_init_75 f_X3_28 (by decide) rfl ?_
    refine z_iload (i := 1) (j := 0) dX3_init_78 rfl rfl ?_
    refine z_iconst (v := -1) dX3_init_79 (by decide) ?_
    refine z_iast (q0 := 5) (t0 := 4) (n := 64) dX3_init_80 rfl ht (i_in (by omega) (by omega) (by decide)) ?_
    refine z_iinc (j := 0) (v := Int32.ofInt ((i + 1 : Nat) : Int)) (lv' := [(1, .int (Int32.ofInt ((i + 1 : Nat) : Int))), (0, .ref h0)]) dX3_init_81 rfl (by rw [← Int32.ofInt_add]; rfl) (by decide) rfl ?_
    refine z_goto (tgt := 68) dX3_init_84 (by decide) ?_
    refine z_ws (ws' := [(h0, .inr (1, [.ref q1, .ref q2, .ref q3, .int 0, .ref q4, .ref q5, .ref q6, .ref q7])), (q1, .inl (c1, 6, .inl (fun _ => 0))), (q2, .inl (c2, 6, .inl (fun _ => 0))), (q3, .inl (c3, 6, .inl (fun _ => 0))), (q4, .inl (c4, 1536, .inl (fun _ => 0))), (q5, .inl (c5, 64, .inl (upd f (Int32.ofInt (i : Int)).toNatClampNeg (-1)))), (q6, .inl (c6, 6, .inl (fun _ => 0))), (q7, .inl (c7, 6, .inl (fun _ => 0)))]) rfl ?_
    refine ih (i + 1) _ (by omega) (fun j => ?_)
    rw [i_ix (by omega) (by omega)]
    show (if j = (i : Int).toNat then (-1 : Int32) else f j) = _
    rw [hf j, Int.toNat_natCast]
    by_cases h1 : j = i
    · rw [if_pos h1, if_pos (by omega)]
    · rw [if_neg h1]
      by_cases h2 : j < i
      · rw [if_pos h2, if_pos (by omega)]
      · rw [if_neg h2, if_neg (by omega)]
set_option maxHeartbeats 4000000 in
set_option maxRecDepth 100000 in
theorem i_X3 (l : Launch) : InitC l yX3_init cX3_init 2 1 7 1630 1 [.null, .null, .null, .int 0, .null, .null, .null, .null] I3 121 := by
  refine init_of (own := RX3) (by decide +kernel) rfl rfl (by decide) ?_
  intro D h0 p e s m below meth c hname hr hlocks
  refine z_aload (i := 0) (j := 0) dX3_init_0 rfl rfl ?_
  refine z_obj dX3_init_1 (gm (i := 129) (by decide +kernel) rfl) (Nat.le_of_ble_eq_true rfl) (Nat.le_of_ble_eq_true rfl) ?_
  refine z_aload (i := 0) (j := 0) dX3_init_4 rfl rfl ?_
  refine z_bipush (v := 6) dX3_init_5 (by decide) ?_
  refine s_newa (N := 6) dX3_init_7 (by decide) rfl (Nat.le_of_ble_eq_true rfl) (Nat.le_of_ble_eq_true rfl) (Nat.le_of_ble_eq_true rfl) (fun q1 c1 => ?_)
  refine s_putF_X3 (k := 0) (fs' := [.ref q1, .null, .null, .int 0, .null, .null, .null, .null]) dX3_init_9 f_X3_9 (by decide) rfl rfl hname rfl rfl (Nat.le_of_ble_eq_true rfl) rfl ?_
  refine z_aload (i := 0) (j := 0) dX3_init_12 rfl rfl ?_
  refine z_bipush (v := 6) dX3_init_13 (by decide) ?_
  refine s_newa (N := 6) dX3_init_15 (by decide) rfl (Nat.le_of_ble_eq_true rfl) (Nat.le_of_ble_eq_true rfl) (Nat.le_of_ble_eq_true rfl) (fun q2 c2 => ?_)
  refine s_putF_X3 (k := 1) (fs' := [.ref q1, .ref q2, .null, .int 0, .null, .null, .null, .null]) dX3_init_17 f_X3_15 (by decide) rfl rfl hname rfl rfl (Nat.le_of_ble_eq_true rfl) rfl ?_
  refine z_aload (i := 0) (j := 0) dX3_init_20 rfl rfl ?_
  refine z_bipush (v := 6) dX3_init_21 (by decide) ?_
  refine s_newa (N := 6) dX3_init_23 (by decide) rfl (Nat.le_of_ble_eq_true rfl) (Nat.le_of_ble_eq_true rfl) (Nat.le_of_ble_eq_true rfl) (fun q3 c3 => ?_)
  refine s_putF_X3 (k := 2) (fs' := [.ref q1, .ref q2, .ref q3, .int 0, .null, .null, .null, .null]) dX3_init_25 f_X3_18 (by decide) rfl rfl hname rfl rfl (Nat.le_of_ble_eq_true rfl) rfl ?_
  refine z_aload (i := 0) (j := 0) dX3_init_28 rfl rfl ?_
  refine z_iconst (v := 0) dX3_init_29 (by decide) ?_
  refine s_put_X3 (k := 3) (fs' := [.ref q1, .ref q2, .ref q3, .int 0, .null, .null, .null, .null]) dX3_init_30 f_X3_21 (by decide) rfl  rfl rfl (Nat.le_of_ble_eq_true rfl) rfl ?_
  refine z_aload (i := 0) (j := 0) dX3_init_33 rfl rfl ?_
  refine z_sipush (v := 1536) dX3_init_34 (by decide) ?_
  refine s_newa (N := 1536) dX3_init_37 (by decide) rfl (Nat.le_of_ble_eq_true rfl) (Nat.le_of_ble_eq_true rfl) (Nat.le_of_ble_eq_true rfl) (fun q4 c4 => ?_)
  refine s_putF_X3 (k := 4) (fs' := [.ref q1, .ref q2, .ref q3, .int 0, .ref q4, .null, .null, .null]) dX3_init_39 f_X3_25 (by decide) rfl rfl hname rfl rfl (Nat.le_of_ble_eq_true rfl) rfl ?_
  refine z_aload (i := 0) (j := 0) dX3_init_42 rfl rfl ?_
  refine z_bipush (v := 64) dX3_init_43 (by decide) ?_
  refine s_newa (N := 64) dX3_init_45 (by decide) rfl (Nat.le_of_ble_eq_true rfl) (Nat.le_of_ble_eq_true rfl) (Nat.le_of_ble_eq_true rfl) (fun q5 c5 => ?_)
  refine s_putF_X3 (k := 5) (fs' := [.ref q1, .ref q2, .ref q3, .int 0, .ref q4, .ref q5, .null, .null]) dX3_init_47 f_X3_28 (by decide) rfl rfl hname rfl rfl (Nat.le_of_ble_eq_true rfl) rfl ?_
  refine z_aload (i := 0) (j := 0) dX3_init_50 rfl rfl ?_
  refine z_bipush (v := 6) dX3_init_51 (by decide) ?_
  refine s_newa (N := 6) dX3_init_53 (by decide) rfl (Nat.le_of_ble_eq_true rfl) (Nat.le_of_ble_eq_true rfl) (Nat.le_of_ble_eq_true rfl) (fun q6 c6 => ?_)
  refine s_putF_X3 (k := 6) (fs' := [.ref q1, .ref q2, .ref q3, .int 0, .ref q4, .ref q5, .ref q6, .null]) dX3_init_55 f_X3_31 (by decide) rfl rfl hname rfl rfl (Nat.le_of_ble_eq_true rfl) rfl ?_
  refine z_aload (i := 0) (j := 0) dX3_init_58 rfl rfl ?_
  refine z_bipush (v := 6) dX3_init_59 (by decide) ?_
  refine s_newa (N := 6) dX3_init_61 (by decide) rfl (Nat.le_of_ble_eq_true rfl) (Nat.le_of_ble_eq_true rfl) (Nat.le_of_ble_eq_true rfl) (fun q7 c7 => ?_)
  refine s_putF_X3 (k := 7) (fs' := [.ref q1, .ref q2, .ref q3, .int 0, .ref q4, .ref q5, .ref q6, .ref q7]) dX3_init_63 f_X3_34 (by decide) rfl rfl hname rfl rfl (Nat.le_of_ble_eq_true rfl) rfl ?_
  refine z_iconst (v := Int32.ofInt ((0 : Nat) : Int)) dX3_init_66 (by decide) ?_
  refine z_istore (i := 1) (lv' := [(1, .int (Int32.ofInt ((0 : Nat) : Int))), (0, .ref h0)]) dX3_init_67 rfl (by decide) rfl ?_
  refine z_ws (ws' := [(h0, .inr (1, [.ref q1, .ref q2, .ref q3, .int 0, .ref q4, .ref q5, .ref q6, .ref q7])), (q1, .inl (c1, 6, .inl (fun _ => 0))), (q2, .inl (c2, 6, .inl (fun _ => 0))), (q3, .inl (c3, 6, .inl (fun _ => 0))), (q4, .inl (c4, 1536, .inl (fun _ => 0))), (q5, .inl (c5, 64, .inl (fun _ => 0))), (q6, .inl (c6, 6, .inl (fun _ => 0))), (q7, .inl (c7, 6, .inl (fun _ => 0)))]) rfl ?_
  refine x3_loop rfl (fun x => ?_) 64 0 (fun _ => 0) rfl (fun j => (if_neg (Nat.not_lt_zero j)).symm)
  refine z_ret (KL 121 [h0, q1, q2, q3, q4, q5, q6, q7] [c1, c1, c2, c3, c4, c5, c6, c7] D) dX3_init_87 hr hlocks (Nat.le_of_ble_eq_true rfl) (Nat.le_of_ble_eq_true rfl) rfl rfl ?_ (fm_mem [0, 0, 1, 2, 3, 4, 5, 6] ?_)
  · simp only [pt, I3, List.map_cons, List.map_nil, c0_121, c0_122, c0_123, c0_124, c0_125, c0_126, c0_127, c0_128]
    rfl
  · simp only [pty, I3, List.map_cons, List.map_nil]
    rfl
