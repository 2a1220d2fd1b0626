/-! constructors -/
def wI (w : Nat) : List Nat := [w, w + 1, w + 2, w + 3, w + 4, w + 5, w + 6, w + 7, w + 8, w + 9, w + 10]
def I3 : List Nat := [121, 122, 123, 124, 125, 126, 127, 128]
def I0 : List Nat := 129 :: (wI 22 ++ I3)
theorem pt_app (κ : KP) (I J : List Nat) : pt κ (I ++ J) = pt κ I ++ pt κ J := List.map_append
theorem pty_app (κ : KP) (I J : List Nat) : pty κ (I ++ J) = pty κ I ++ pty κ J := List.map_append
def clB (I : List Nat) (q : Nat) : Bool := match ob q with
  | some x => x.2.all (fun r => match r with | .inl p => I.contains p | .inr _ => true)
  | none => q != 131 || (List.range 8).all (fun i => I.contains (33 + 11 * i))
theorem c0_congr {κ κ' : KP} {I : List Nat} {q : Nat} (hq : q ∈ I) (hc : clB I q = true) (h : ∀ q ∈ I, κ.1 q = κ'.1 q ∧ κ.2.1 q = κ'.2.1 q) : c0 κ q = c0 κ' q := by
  unfold c0
  unfold clB at hc
  by_cases h1 : q = 131
  · rw [if_pos h1, if_pos h1, (h q hq).2]
    congr 7
    funext i
    by_cases hi : i < 8
    · rw [if_pos hi, if_pos hi]
      subst h1
      have h2 : (List.range 8).all (fun i => I.contains (33 + 11 * i)) = true := by simpa [ob] using hc
      have h3 := List.all_eq_true.mp h2 i (List.mem_range.mpr hi)
      rw [(h _ (List.contains_iff_mem.mp h3)).1]
    · rw [if_neg hi, if_neg hi]
  · rw [if_neg h1, if_neg h1]
    unfold cell
    cases ho : ob q with
    | none =>
      show (if q = 131 then _ else _) = (if q = 131 then _ else _)
      rw [if_neg h1, if_neg h1, (h q hq).2]
    | some x =>
      rw [ho] at hc
      show (Sum.inr (x.1, x.2.map (fv κ (M0 q))) : va_E) = .inr (x.1, x.2.map (fv κ' (M0 q)))
      congr 2
      refine List.map_congr_left (fun r hr => ?_)
      have h3 := List.all_eq_true.mp hc r hr
      rcases r with p | i
      · show Value.ref (κ.1 p) = .ref (κ'.1 p)
        rw [(h p (List.contains_iff_mem.mp h3)).1]
      · rfl
theorem pt_congr {κ κ' : KP} {I : List Nat} (hc : I.all (clB I) = true) (h : ∀ q ∈ I, κ.1 q = κ'.1 q ∧ κ.2.1 q = κ'.2.1 q) : pt κ I = pt κ' I :=
  List.map_congr_left (fun q hq => by rw [(h q hq).1, c0_congr hq (List.all_eq_true.mp hc q hq) h])
theorem pty_congr {κ κ' : KP} {I : List Nat} (h : ∀ q ∈ I, κ.1 q = κ'.1 q ∧ κ.2.1 q = κ'.2.1 q) : pty κ I = pty κ' I :=
  List.map_congr_left (fun q hq => by rw [(h q hq).2])
theorem fm_mem {α : Type} {t t' : List α} (ts : List Nat) (h : ts.filterMap (fun i => t[i]?) = t') : ∀ e ∈ t', e ∈ t := fun e he => by
  rw [← h] at he
  obtain ⟨i, _, hi⟩ := List.mem_filterMap.mp he
  exact List.mem_of_getElem? hi
theorem M0_w {w : Nat} (hw : isW w) : M0 w = fun i => if i = 14 then 3 else 0 := by
  unfold M0
  rw [if_neg (by omega), if_neg (by omega), if_neg (by omega), if_neg (by omega), if_pos hw]
theorem M0_wk {w k : Nat} (hw : isW w) (h1 : 0 < k) (h2 : k < 11) : M0 (w + k) = fun _ => 0 := by
  funext i
  exact M0_z ⟨by omega, by omega, by omega, by omega, by omega⟩ i
theorem c0_wk {κ : KP} {w k : Nat} (hw : isW w) (h1 : 0 < k) (h2 : k < 11) : c0 κ (w + k) = .inl (κ.2.1 (w + k), (if k ≤ 3 then 6 else if k ≤ 6 then 8 else 5), .inl (fun _ => 0)) := by
  unfold c0
  rw [if_neg (by omega), cell_ar κ (ar_w hw h1 h2), M0_wk hw h1 h2]
theorem c0_w {κ : KP} {w : Nat} (hw : isW w) : c0 κ w = .inr (2, [.ref (κ.1 (w+1)), .ref (κ.1 (w+2)), .ref (κ.1 (w+3)), .int 0, .ref (κ.1 (w+4)), .ref (κ.1 (w+5)), .ref (κ.1 (w+6)), .int 0, .ref (κ.1 (w+7)), .ref (κ.1 (w+8)), .ref (κ.1 (w+9)), .ref (κ.1 (w+10)), .int 0, .int 0, .int 3]) := by
  unfold c0
  rw [if_neg (by omega), cell_ob κ (ob_w hw), M0_w hw]
  rfl
def KL (b : Nat) (qs : List Nat) (cs : List ClassId) (D : va_G) : KP := (fun q => qs.getD (q - b) 0, fun q => cs.getD (q - b) 0, D)
theorem KL_0 (b : Nat) (qs : List Nat) (cs : List ClassId) (D : va_G) : (KL b qs cs D).1 b = qs.getD 0 0 ∧ (KL b qs cs D).2.1 b = cs.getD 0 0 := by
  constructor
  · show qs.getD (b - b) 0 = _
    rw [Nat.sub_self]
  · show cs.getD (b - b) 0 = _
    rw [Nat.sub_self]
theorem KL_k (b k : Nat) (qs : List Nat) (cs : List ClassId) (D : va_G) : (KL b qs cs D).1 (b + k) = qs.getD k 0 ∧ (KL b qs cs D).2.1 (b + k) = cs.getD k 0 := by
  constructor
  · show qs.getD (b + k - b) 0 = _
    rw [Nat.add_sub_cancel_left]
  · show cs.getD (b + k - b) 0 = _
    rw [Nat.add_sub_cancel_left]
theorem pt_wI {κ : KP} {w : Nat} (hw : isW w) : pt κ (wI w) = [(κ.1 w, .inr (2, [.ref (κ.1 (w+1)), .ref (κ.1 (w+2)), .ref (κ.1 (w+3)), .int 0, .ref (κ.1 (w+4)), .ref (κ.1 (w+5)), .ref (κ.1 (w+6)), .int 0, .ref (κ.1 (w+7)), .ref (κ.1 (w+8)), .ref (κ.1 (w+9)), .ref (κ.1 (w+10)), .int 0, .int 0, .int 3])), (κ.1 (w+1), .inl (κ.2.1 (w+1), 6, .inl (fun _ => 0))), (κ.1 (w+2), .inl (κ.2.1 (w+2), 6, .inl (fun _ => 0))), (κ.1 (w+3), .inl (κ.2.1 (w+3), 6, .inl (fun _ => 0))), (κ.1 (w+4), .inl (κ.2.1 (w+4), 8, .inl (fun _ => 0))), (κ.1 (w+5), .inl (κ.2.1 (w+5), 8, .inl (fun _ => 0))), (κ.1 (w+6), .inl (κ.2.1 (w+6), 8, .inl (fun _ => 0))), (κ.1 (w+7), .inl (κ.2.1 (w+7), 5, .inl (fun _ => 0))), (κ.1 (w+8), .inl (κ.2.1 (w+8), 5, .inl (fun _ => 0))), (κ.1 (w+9), .inl (κ.2.1 (w+9), 5, .inl (fun _ => 0))), (κ.1 (w+10), .inl (κ.2.1 (w+10), 5, .inl (fun _ => 0)))] := by
  unfold pt wI
  simp only [List.map_cons, List.map_nil]
  rw [c0_w hw, c0_wk (k := 1) hw (by decide) (by decide), c0_wk (k := 2) hw (by decide) (by decide), c0_wk (k := 3) hw (by decide) (by decide), c0_wk (k := 4) hw (by decide) (by decide), c0_wk (k := 5) hw (by decide) (by decide), c0_wk (k := 6) hw (by decide) (by decide), c0_wk (k := 7) hw (by decide) (by decide), c0_wk (k := 8) hw (by decide) (by decide), c0_wk (k := 9) hw (by decide) (by decide), c0_wk (k := 10) hw (by decide) (by decide)]
  rfl
theorem pty_wI {κ : KP} {w : Nat} (hw : isW w) : pty κ (wI w) = [(κ.2.1 w, .int), (κ.2.1 (w+1), .int), (κ.2.1 (w+2), .int), (κ.2.1 (w+3), .int), (κ.2.1 (w+4), .int), (κ.2.1 (w+5), .int), (κ.2.1 (w+6), .int), (κ.2.1 (w+7), .int), (κ.2.1 (w+8), .int), (κ.2.1 (w+9), .int), (κ.2.1 (w+10), .int)] := by
  unfold pty wI
  simp only [List.map_cons, List.map_nil]
  rw [if_neg (by omega), if_neg (by omega), if_neg (by omega), if_neg (by omega), if_neg (by omega), if_neg (by omega), if_neg (by omega), if_neg (by omega), if_neg (by omega), if_neg (by omega), if_neg (by omega)]
def MI (y : MethodName) (b : ByteArray) (n : Nat) : Prop := Cond.code y b n none ∈ lw_g ∧ Cond.instanceMethod y ∈ lw_g ∧ Cond.initialized y.cls ∈ lw_g ∧ y.name = "<init>" ∧ (y.cls ≠ "java/lang/invoke/MethodHandle" ∧ y.cls ≠ "java/lang/invoke/VarHandle" ∧ (parseMethodDescriptor y.desc).map (fun d => d.parameters.length) = some 0)
theorem mi_X5 : MI yX5_init cX5_init 2 := ⟨gm (i := 31) (by decide +kernel) rfl, gm (i := 30) (by decide +kernel) rfl, gm (i := 18) (by decide +kernel) rfl, rfl, by decide +kernel, by decide +kernel, by decide +kernel⟩
theorem mi_X4 : MI yX4_init cX4_init 1 := ⟨gm (i := 39) (by decide +kernel) rfl, gm (i := 38) (by decide +kernel) rfl, gm (i := 19) (by decide +kernel) rfl, rfl, by decide +kernel, by decide +kernel, by decide +kernel⟩
theorem mi_X0 : MI yX0_init cX0_init 1 := ⟨gm (i := 120) (by decide +kernel) rfl, gm (i := 119) (by decide +kernel) rfl, gm (i := 20) (by decide +kernel) rfl, rfl, by decide +kernel, by decide +kernel, by decide +kernel⟩
theorem mi_X3 : MI yX3_init cX3_init 2 := ⟨gm (i := 128) (by decide +kernel) rfl, gm (i := 127) (by decide +kernel) rfl, gm (i := 21) (by decide +kernel) rfl, rfl, by decide +kernel, by decide +kernel, by decide +kernel⟩
set_option maxHeartbeats 4000000 in
set_option maxRecDepth 100000 in
theorem i_X4 (l : Launch) {w : Nat} (hw : isW w) : InitC l yX4_init cX4_init 1 1 10 62 2 [.null, .null, .null, .int 0, .null, .null, .null, .int 0, .null, .null, .null, .null, .int 0, .int 0, .int 0] (wI w) w := by
  refine init_of (own := RX4) (by decide +kernel) rfl rfl (by decide) ?_
  intro D h0 p e s m below meth c hname hr hlocks
  refine z_aload (i := 0) (j := 0) dX4_init_0 rfl rfl ?_
  refine z_obj dX4_init_1 (gm (i := 40) (by decide +kernel) rfl) (Nat.le_of_ble_eq_true rfl) (Nat.le_of_ble_eq_true rfl) ?_
  refine z_aload (i := 0) (j := 0) dX4_init_4 rfl rfl ?_
  refine z_bipush (v := 6) dX4_init_5 (by decide) ?_
  refine s_newa (N := 6) dX4_init_7 (by decide) rfl (Nat.le_of_ble_eq_true rfl) (Nat.le_of_ble_eq_true rfl) (Nat.le_of_ble_eq_true rfl) (fun q1 c1 => ?_)
  refine s_putF_X4 (k := 0) (fs' := [.ref q1, .null, .null, .int 0, .null, .null, .null, .int 0, .null, .null, .null, .null, .int 0, .int 0, .int 0]) dX4_init_9 f_X4_9 (by decide) rfl rfl hname rfl rfl (Nat.le_of_ble_eq_true rfl) rfl ?_
  refine z_aload (i := 0) (j := 0) dX4_init_12 rfl rfl ?_
  refine z_bipush (v := 6) dX4_init_13 (by decide) ?_
  refine s_newa (N := 6) dX4_init_15 (by decide) rfl (Nat.le_of_ble_eq_true rfl) (Nat.le_of_ble_eq_true rfl) (Nat.le_of_ble_eq_true rfl) (fun q2 c2 => ?_)
  refine s_putF_X4 (k := 1) (fs' := [.ref q1, .ref q2, .null, .int 0, .null, .null, .null, .int 0, .null, .null, .null, .null, .int 0, .int 0, .int 0]) dX4_init_17 f_X4_15 (by decide) rfl rfl hname rfl rfl (Nat.le_of_ble_eq_true rfl) rfl ?_
  refine z_aload (i := 0) (j := 0) dX4_init_20 rfl rfl ?_
  refine z_bipush (v := 6) dX4_init_21 (by decide) ?_
  refine s_newa (N := 6) dX4_init_23 (by decide) rfl (Nat.le_of_ble_eq_true rfl) (Nat.le_of_ble_eq_true rfl) (Nat.le_of_ble_eq_true rfl) (fun q3 c3 => ?_)
  refine s_putF_X4 (k := 2) (fs' := [.ref q1, .ref q2, .ref q3, .int 0, .null, .null, .null, .int 0, .null, .null, .null, .null, .int 0, .int 0, .int 0]) dX4_init_25 f_X4_18 (by decide) rfl rfl hname rfl rfl (Nat.le_of_ble_eq_true rfl) rfl ?_
  refine z_aload (i := 0) (j := 0) dX4_init_28 rfl rfl ?_
  refine z_iconst (v := 0) dX4_init_29 (by decide) ?_
  refine s_put_X4 (k := 3) (fs' := [.ref q1, .ref q2, .ref q3, .int 0, .null, .null, .null, .int 0, .null, .null, .null, .null, .int 0, .int 0, .int 0]) dX4_init_30 f_X4_21 (by decide) rfl  rfl rfl (Nat.le_of_ble_eq_true rfl) rfl ?_
  refine z_aload (i := 0) (j := 0) dX4_init_33 rfl rfl ?_
  refine z_bipush (v := 8) dX4_init_34 (by decide) ?_
  refine s_newa (N := 8) dX4_init_36 (by decide) rfl (Nat.le_of_ble_eq_true rfl) (Nat.le_of_ble_eq_true rfl) (Nat.le_of_ble_eq_true rfl) (fun q4 c4 => ?_)
  refine s_putF_X4 (k := 4) (fs' := [.ref q1, .ref q2, .ref q3, .int 0, .ref q4, .null, .null, .int 0, .null, .null, .null, .null, .int 0, .int 0, .int 0]) dX4_init_38 f_X4_25 (by decide) rfl rfl hname rfl rfl (Nat.le_of_ble_eq_true rfl) rfl ?_
  refine z_aload (i := 0) (j := 0) dX4_init_41 rfl rfl ?_
  refine z_bipush (v := 8) dX4_init_42 (by decide) ?_
  refine s_newa (N := 8) dX4_init_44 (by decide) rfl (Nat.le_of_ble_eq_true rfl) (Nat.le_of_ble_eq_true rfl) (Nat.le_of_ble_eq_true rfl) (fun q5 c5 => ?_)
  refine s_putF_X4 (k := 5) (fs' := [.ref q1, .ref q2, .ref q3, .int 0, .ref q4, .ref q5, .null, .int 0, .null, .null, .null, .null, .int 0, .int 0, .int 0]) dX4_init_46 f_X4_28 (by decide) rfl rfl hname rfl rfl (Nat.le_of_ble_eq_true rfl) rfl ?_
  refine z_aload (i := 0) (j := 0) dX4_init_49 rfl rfl ?_
  refine z_bipush (v := 8) dX4_init_50 (by decide) ?_
  refine s_newa (N := 8) dX4_init_52 (by decide) rfl (Nat.le_of_ble_eq_true rfl) (Nat.le_of_ble_eq_true rfl) (Nat.le_of_ble_eq_true rfl) (fun q6 c6 => ?_)
  refine s_putF_X4 (k := 6) (fs' := [.ref q1, .ref q2, .ref q3, .int 0, .ref q4, .ref q5, .ref q6, .int 0, .null, .null, .null, .null, .int 0, .int 0, .int 0]) dX4_init_54 f_X4_31 (by decide) rfl rfl hname rfl rfl (Nat.le_of_ble_eq_true rfl) rfl ?_
  refine z_aload (i := 0) (j := 0) dX4_init_57 rfl rfl ?_
  refine z_iconst (v := 0) dX4_init_58 (by decide) ?_
  refine s_put_X4 (k := 7) (fs' := [.ref q1, .ref q2, .ref q3, .int 0, .ref q4, .ref q5, .ref q6, .int 0, .null, .null, .null, .null, .int 0, .int 0, .int 0]) dX4_init_59 f_X4_34 (by decide) rfl  rfl rfl (Nat.le_of_ble_eq_true rfl) rfl ?_
  refine z_aload (i := 0) (j := 0) dX4_init_62 rfl rfl ?_
  refine z_iconst (v := 5) dX4_init_63 (by decide) ?_
  refine s_newa (N := 5) dX4_init_64 (by decide) rfl (Nat.le_of_ble_eq_true rfl) (Nat.le_of_ble_eq_true rfl) (Nat.le_of_ble_eq_true rfl) (fun q7 c7 => ?_)
  refine s_putF_X4 (k := 8) (fs' := [.ref q1, .ref q2, .ref q3, .int 0, .ref q4, .ref q5, .ref q6, .int 0, .ref q7, .null, .null, .null, .int 0, .int 0, .int 0]) dX4_init_66 f_X4_37 (by decide) rfl rfl hname rfl rfl (Nat.le_of_ble_eq_true rfl) rfl ?_
  refine z_aload (i := 0) (j := 0) dX4_init_69 rfl rfl ?_
  refine z_iconst (v := 5) dX4_init_70 (by decide) ?_
  refine s_newa (N := 5) dX4_init_71 (by decide) rfl (Nat.le_of_ble_eq_true rfl) (Nat.le_of_ble_eq_true rfl) (Nat.le_of_ble_eq_true rfl) (fun q8 c8 => ?_)
  refine s_putF_X4 (k := 9) (fs' := [.ref q1, .ref q2, .ref q3, .int 0, .ref q4, .ref q5, .ref q6, .int 0, .ref q7, .ref q8, .null, .null, .int 0, .int 0, .int 0]) dX4_init_73 f_X4_40 (by decide) rfl rfl hname rfl rfl (Nat.le_of_ble_eq_true rfl) rfl ?_
  refine z_aload (i := 0) (j := 0) dX4_init_76 rfl rfl ?_
  refine z_iconst (v := 5) dX4_init_77 (by decide) ?_
  refine s_newa (N := 5) dX4_init_78 (by decide) rfl (Nat.le_of_ble_eq_true rfl) (Nat.le_of_ble_eq_true rfl) (Nat.le_of_ble_eq_true rfl) (fun q9 c9 => ?_)
  refine s_putF_X4 (k := 10) (fs' := [.ref q1, .ref q2, .ref q3, .int 0, .ref q4, .ref q5, .ref q6, .int 0, .ref q7, .ref q8, .ref q9, .null, .int 0, .int 0, .int 0]) dX4_init_80 f_X4_43 (by decide) rfl rfl hname rfl rfl (Nat.le_of_ble_eq_true rfl) rfl ?_
  refine z_aload (i := 0) (j := 0) dX4_init_83 rfl rfl ?_
  refine z_iconst (v := 5) dX4_init_84 (by decide) ?_
  refine s_newa (N := 5) dX4_init_85 (by decide) rfl (Nat.le_of_ble_eq_true rfl) (Nat.le_of_ble_eq_true rfl) (Nat.le_of_ble_eq_true rfl) (fun q10 c10 => ?_)
  refine s_putF_X4 (k := 11) (fs' := [.ref q1, .ref q2, .ref q3, .int 0, .ref q4, .ref q5, .ref q6, .int 0, .ref q7, .ref q8, .ref q9, .ref q10, .int 0, .int 0, .int 0]) dX4_init_87 f_X4_46 (by decide) rfl rfl hname rfl rfl (Nat.le_of_ble_eq_true rfl) rfl ?_
  refine z_aload (i := 0) (j := 0) dX4_init_90 rfl rfl ?_
  refine z_iconst (v := 0) dX4_init_91 (by decide) ?_
  refine s_put_X4 (k := 12) (fs' := [.ref q1, .ref q2, .ref q3, .int 0, .ref q4, .ref q5, .ref q6, .int 0, .ref q7, .ref q8, .ref q9, .ref q10, .int 0, .int 0, .int 0]) dX4_init_92 f_X4_49 (by decide) rfl  rfl rfl (Nat.le_of_ble_eq_true rfl) rfl ?_
  refine z_aload (i := 0) (j := 0) dX4_init_95 rfl rfl ?_
  refine z_iconst (v := 0) dX4_init_96 (by decide) ?_
  refine s_put_X4 (k := 13) (fs' := [.ref q1, .ref q2, .ref q3, .int 0, .ref q4, .ref q5, .ref q6, .int 0, .ref q7, .ref q8, .ref q9, .ref q10, .int 0, .int 0, .int 0]) dX4_init_97 f_X4_52 (by decide) rfl  rfl rfl (Nat.le_of_ble_eq_true rfl) rfl ?_
  refine z_aload (i := 0) (j := 0) dX4_init_100 rfl rfl ?_
  refine z_iconst (v := 3) dX4_init_101 (by decide) ?_
  refine s_put_X4 (k := 14) (fs' := [.ref q1, .ref q2, .ref q3, .int 0, .ref q4, .ref q5, .ref q6, .int 0, .ref q7, .ref q8, .ref q9, .ref q10, .int 0, .int 0, .int 3]) dX4_init_102 f_X4_55 (by decide) rfl  rfl rfl (Nat.le_of_ble_eq_true rfl) rfl ?_
  refine z_ret (KL w [h0, q1, q2, q3, q4, q5, q6, q7, q8, q9, q10] [c1, c1, c2, c3, c4, c5, c6, c7, c8, c9, c10] D) dX4_init_105 hr hlocks (Nat.le_of_ble_eq_true rfl) (Nat.le_of_ble_eq_true rfl) rfl (KL_0 _ _ _ _).1 ?_ (fm_mem [0, 0, 1, 2, 3, 4, 5, 6, 7, 8, 9] ?_)
  · rw [pt_wI hw]
    simp only [(KL_0 w _ _ D).1, (KL_k w 1 _ _ D).1, (KL_k w 2 _ _ D).1, (KL_k w 3 _ _ D).1, (KL_k w 4 _ _ D).1, (KL_k w 5 _ _ D).1, (KL_k w 6 _ _ D).1, (KL_k w 7 _ _ D).1, (KL_k w 8 _ _ D).1, (KL_k w 9 _ _ D).1, (KL_k w 10 _ _ D).1, (KL_k w 1 _ _ D).2, (KL_k w 2 _ _ D).2, (KL_k w 3 _ _ D).2, (KL_k w 4 _ _ D).2, (KL_k w 5 _ _ D).2, (KL_k w 6 _ _ D).2, (KL_k w 7 _ _ D).2, (KL_k w 8 _ _ D).2, (KL_k w 9 _ _ D).2, (KL_k w 10 _ _ D).2]
    rfl
  · rw [pty_wI hw]
    simp only [(KL_0 w _ _ D).2, (KL_k w 1 _ _ D).2, (KL_k w 2 _ _ D).2, (KL_k w 3 _ _ D).2, (KL_k w 4 _ _ D).2, (KL_k w 5 _ _ D).2, (KL_k w 6 _ _ D).2, (KL_k w 7 _ _ D).2, (KL_k w 8 _ _ D).2, (KL_k w 9 _ _ D).2, (KL_k w 10 _ _ D).2]
    rfl
