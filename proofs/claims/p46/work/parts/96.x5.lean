section Z5
variable {D : va_G} {own : String} {cc : ByteArray} {nL : Nat} {p : Program} {l : Launch} {e : Env} {R : Room} {s : State} {m : MethodId} {args : Array Value} {below : List Frame} {meth : Method} {c : Code} {A : Nat → Prop} {Q : State → Prop} {pc : Nat} {lv : List (Nat × Value)} {st : List Value} {ws Rr Ll : va_W} {x y : Nat × va_E} {tys : List (ClassId × FieldType)} {cells slots : Nat}
theorem z_cons (k : Zj D own cc nL p l e R s m args below meth c A Q pc lv st (x :: y :: (Rr ++ Ll)) tys cells slots) : Zj D own cc nL p l e R s m args below meth c A Q pc lv st (x :: ((y :: Rr) ++ Ll)) tys cells slots := k
theorem z_mv (kk : Zj D own cc nL p l e R s m args below meth c A Q pc lv st (x :: y :: Rr) tys cells slots) : Zj D own cc nL p l e R s m args below meth c A Q pc lv st (x :: (Rr ++ [y])) tys cells slots := by
  intro C H locs ls hK hP hD hS hl
  have e2 : (x :: (Rr ++ [y]))[Rr.length + 1]? = some y := last_at Rr y
  have e3 : ((List.range Rr.length).map (fun i => i + 1)).map (fun i => (x :: (Rr ++ [y]))[i]?) = Rr.map some := by
    rw [List.map_map]
    exact front_at Rr y
  have hs : (0 :: (Rr.length + 1) :: (List.range Rr.length).map (fun i => i + 1)).map (fun i => (x :: (Rr ++ [y]))[i]?) = (x :: y :: Rr).map some := by
    show some x :: (x :: (Rr ++ [y]))[Rr.length + 1]? :: ((List.range Rr.length).map (fun i => i + 1)).map (fun i => (x :: (Rr ++ [y]))[i]?) = some x :: some y :: Rr.map some
    rw [e2, e3]
  have hn : (0 :: (Rr.length + 1) :: (List.range Rr.length).map (fun i => i + 1)).Nodup := by
    refine List.nodup_cons.mpr ⟨?_, List.nodup_cons.mpr ⟨?_, List.Pairwise.map _ (fun a b (h : a ≠ b) => by omega) List.nodup_range⟩⟩
    · intro h
      rcases List.mem_cons.mp h with h | h
      · omega
      · obtain ⟨a, _, h2⟩ := List.mem_map.mp h
        omega
    · intro h
      obtain ⟨a, h1, h2⟩ := List.mem_map.mp h
      have := List.mem_range.mp h1
      omega
  refine kk C H locs ls hK (fun k q hk => ?_) (hD.sub _ (nd_of _ hn) hs) hS hl
  have h1 : ((x :: y :: Rr).map some)[k]? = some (some q) := by rw [List.getElem?_map, hk]; rfl
  rw [← hs, List.getElem?_map] at h1
  cases h2 : (0 :: (Rr.length + 1) :: (List.range Rr.length).map (fun i => i + 1))[k]? with
  | none => rw [h2] at h1; cases h1
  | some i => rw [h2] at h1; exact hP i q (Option.some.inj h1)
theorem at_new {α : Type} (x y a : α) (R L : List α) : (x :: y :: (R ++ a :: L))[R.length + 2]? = some a := by
  show (R ++ a :: L)[R.length]? = some a
  rw [List.getElem?_append_right (Nat.le_refl _), Nat.sub_self]
  rfl
theorem get_app {α : Type} {t u : List α} {i : Nat} {y : α} (h : t[i]? = some y) : (t ++ u)[i]? = some y := by
  rw [List.getElem?_append_left (List.getElem?_eq_some_iff.mp h).1, h]
theorem s_astq {a v n t0 qk ci k : Nat} {cA : ClassId} {r : vw_C} {vs : List Value} {f : Nat → Option Nat} {i : Int32} {ee : va_E} (hd : decode cc pc = .ok (.aastore, 1)) (ht : tys[t0]? = some (cA, .object r.1)) (hv : (x :: (a, .inl (cA, n, .inr (.inr (.inr (.inr f))))) :: Rr)[qk]? = some (v, ee)) (he : ee = .inr (ci, vs)) (hc : kcl[ci]? = some r) (hin : vp_in i n) (hi : i.toNatClampNeg = k) (kk : Zj D own cc nL p l e R s m args below meth c A Q (pc + 1) lv st (x :: (a, .inl (cA, n, .inr (.inr (.inr (.inr (va_up f k (some v))))))) :: Rr) tys cells slots) : Zj D own cc nL p l e R s m args below meth c A Q pc lv (.ref v :: .int i :: .ref a :: st) (x :: (a, .inl (cA, n, .inr (.inr (.inr (.inr f))))) :: Rr) tys cells slots := by
  subst he
  subst hi
  exact z_astq (q0 := 1) hd rfl ht hv hc hin kk
end Z5
theorem pt_cons (κ : KP) (q : Nat) (I : List Nat) : pt κ (q :: I) = (κ.1 q, c0 κ q) :: pt κ I := rfl
theorem pt_nil (κ : KP) : pt κ [] = [] := rfl
def T5 : List Nat := (((((((((((((((([] ++ wI 0) ++ wI 11) ++ [132]) ++ [133]) ++ [134]) ++ I0) ++ [135]) ++ [136]) ++ wI 33) ++ wI 44) ++ wI 55) ++ wI 66) ++ wI 77) ++ wI 88) ++ wI 99) ++ wI 110)
def I5 : List Nat := 130 :: 131 :: T5
set_option maxHeartbeats 4000000 in
set_option maxRecDepth 100000 in
theorem i_X5 (l : Launch) : InitC l yX5_init cX5_init 2 3 136 2621 3 [.null, .null, .int 0, .null, .int 0, .null, .int 0, .null, .int 0, .null, .null, .null, .null] I5 130 := by
  refine init_of (own := RX5) (by decide +kernel) rfl rfl (by decide) ?_
  intro D h0 p e s m below meth c hname hr hlocks
  refine z_aload (i := 0) (j := 0) dX5_init_0 rfl rfl ?_
  refine z_obj dX5_init_1 (gm (i := 32) (by decide +kernel) rfl) (Nat.le_of_ble_eq_true rfl) (Nat.le_of_ble_eq_true rfl) ?_
  refine z_aload (i := 0) (j := 0) dX5_init_4 rfl rfl ?_
  refine s_new (ci := 2) (ty0 := tyX4) (fs := [.null, .null, .null, .int 0, .null, .null, .null, .int 0, .null, .null, .null, .null, .int 0, .int 0, .int 0]) dX5_init_5 rfl fw_X4 tyX4_ok (gm (i := 35) (by decide +kernel) rfl) in_X4 mi_X4.2.2.1 df_X4 (Nat.le_of_ble_eq_true rfl) (Nat.le_of_ble_eq_true rfl) (fun q => ?_)
  refine z_dup dX5_init_8 ?_
  refine s_initN (I := (wI 0)) (q0 := 0) dX5_init_9 (i_X4 l (w := 0) (by decide)) (fun C => C.1) mi_X4 (Nat.le_of_ble_eq_true rfl) (Nat.le_of_ble_eq_true rfl) (by decide) (Nat.le_of_ble_eq_true rfl) (Nat.le_of_ble_eq_true rfl) (Nat.le_of_ble_eq_true rfl) (fun κa κaD κa_q => ?_)
  subst κa_q
  refine s_putF_X5 (k := 0) (fs' := [.ref (κa.1 0), .null, .int 0, .null, .int 0, .null, .int 0, .null, .int 0, .null, .null, .null, .null]) dX5_init_12 f_X5_10 (by decide) rfl rfl hname rfl rfl (Nat.le_of_ble_eq_true rfl) rfl ?_
  refine z_aload (i := 0) (j := 0) dX5_init_15 rfl rfl ?_
  refine s_new (ci := 2) (ty0 := tyX4) (fs := [.null, .null, .null, .int 0, .null, .null, .null, .int 0, .null, .null, .null, .null, .int 0, .int 0, .int 0]) dX5_init_16 rfl fw_X4 tyX4_ok (gm (i := 35) (by decide +kernel) rfl) in_X4 mi_X4.2.2.1 df_X4 (Nat.le_of_ble_eq_true rfl) (Nat.le_of_ble_eq_true rfl) (fun q => ?_)
  refine z_dup dX5_init_19 ?_
  refine s_initN (I := (wI 11)) (q0 := 11) dX5_init_20 (i_X4 l (w := 11) (by decide)) (fun C => C.1) mi_X4 (Nat.le_of_ble_eq_true rfl) (Nat.le_of_ble_eq_true rfl) (by decide) (Nat.le_of_ble_eq_true rfl) (Nat.le_of_ble_eq_true rfl) (Nat.le_of_ble_eq_true rfl) (fun κb κbD κb_q => ?_)
  subst κb_q
  refine s_putF_X5 (k := 1) (fs' := [.ref (κa.1 0), .ref (κb.1 11), .int 0, .null, .int 0, .null, .int 0, .null, .int 0, .null, .null, .null, .null]) dX5_init_23 f_X5_16 (by decide) rfl rfl hname rfl rfl (Nat.le_of_ble_eq_true rfl) rfl ?_
  refine z_aload (i := 0) (j := 0) dX5_init_26 rfl rfl ?_
  refine z_iconst (v := 0) dX5_init_27 (by decide) ?_
  refine s_put_X5 (k := 2) (fs' := [.ref (κa.1 0), .ref (κb.1 11), .int 0, .null, .int 0, .null, .int 0, .null, .int 0, .null, .null, .null, .null]) dX5_init_28 f_X5_19 (by decide) rfl  rfl rfl (Nat.le_of_ble_eq_true rfl) rfl ?_
  refine z_aload (i := 0) (j := 0) dX5_init_31 rfl rfl ?_
  refine z_bipush (v := 8) dX5_init_32 (by decide) ?_
  refine s_newq (N := 8) dX5_init_34 (gm (i := 35) (by decide +kernel) rfl) (fun C => C.2.2.2) (by decide) rfl (Nat.le_of_ble_eq_true rfl) (Nat.le_of_ble_eq_true rfl) (Nat.le_of_ble_eq_true rfl) (fun qE cE => ?_)
  refine s_putF_X5 (k := 3) (fs' := [.ref (κa.1 0), .ref (κb.1 11), .int 0, .ref qE, .int 0, .null, .int 0, .null, .int 0, .null, .null, .null, .null]) dX5_init_37 f_X5_23 (by decide) rfl rfl hname rfl rfl (Nat.le_of_ble_eq_true rfl) rfl ?_
  refine z_mv ?_
  refine z_aload (i := 0) (j := 0) dX5_init_40 rfl rfl ?_
  refine z_iconst (v := 0) dX5_init_41 (by decide) ?_
  refine s_put_X5 (k := 4) (fs' := [.ref (κa.1 0), .ref (κb.1 11), .int 0, .ref qE, .int 0, .null, .int 0, .null, .int 0, .null, .null, .null, .null]) dX5_init_42 f_X5_27 (by decide) rfl  rfl rfl (Nat.le_of_ble_eq_true rfl) rfl ?_
  refine z_aload (i := 0) (j := 0) dX5_init_45 rfl rfl ?_
  refine z_bipush (v := 96) dX5_init_46 (by decide) ?_
  refine s_newa (N := 96) dX5_init_48 (by decide) rfl (Nat.le_of_ble_eq_true rfl) (Nat.le_of_ble_eq_true rfl) (Nat.le_of_ble_eq_true rfl) (fun q1 c1 => ?_)
  refine s_putF_X5 (k := 5) (fs' := [.ref (κa.1 0), .ref (κb.1 11), .int 0, .ref qE, .int 0, .ref q1, .int 0, .null, .int 0, .null, .null, .null, .null]) dX5_init_50 f_X5_31 (by decide) rfl rfl hname rfl rfl (Nat.le_of_ble_eq_true rfl) rfl ?_
  refine z_aload (i := 0) (j := 0) dX5_init_53 rfl rfl ?_
  refine z_iconst (v := 0) dX5_init_54 (by decide) ?_
  refine s_put_X5 (k := 6) (fs' := [.ref (κa.1 0), .ref (κb.1 11), .int 0, .ref qE, .int 0, .ref q1, .int 0, .null, .int 0, .null, .null, .null, .null]) dX5_init_55 f_X5_35 (by decide) rfl  rfl rfl (Nat.le_of_ble_eq_true rfl) rfl ?_
  refine z_aload (i := 0) (j := 0) dX5_init_58 rfl rfl ?_
  refine z_bipush (v := 12) dX5_init_59 (by decide) ?_
  refine s_newa (N := 12) dX5_init_61 (by decide) rfl (Nat.le_of_ble_eq_true rfl) (Nat.le_of_ble_eq_true rfl) (Nat.le_of_ble_eq_true rfl) (fun q2 c2 => ?_)
  refine s_putF_X5 (k := 7) (fs' := [.ref (κa.1 0), .ref (κb.1 11), .int 0, .ref qE, .int 0, .ref q1, .int 0, .ref q2, .int 0, .null, .null, .null, .null]) dX5_init_63 f_X5_38 (by decide) rfl rfl hname rfl rfl (Nat.le_of_ble_eq_true rfl) rfl ?_
  refine z_aload (i := 0) (j := 0) dX5_init_66 rfl rfl ?_
  refine z_iconst (v := 0) dX5_init_67 (by decide) ?_
  refine s_put_X5 (k := 8) (fs' := [.ref (κa.1 0), .ref (κb.1 11), .int 0, .ref qE, .int 0, .ref q1, .int 0, .ref q2, .int 0, .null, .null, .null, .null]) dX5_init_68 f_X5_41 (by decide) rfl  rfl rfl (Nat.le_of_ble_eq_true rfl) rfl ?_
  refine z_aload (i := 0) (j := 0) dX5_init_71 rfl rfl ?_
  refine z_bipush (v := 7) dX5_init_72 (by decide) ?_
  refine s_newa (N := 7) dX5_init_74 (by decide) rfl (Nat.le_of_ble_eq_true rfl) (Nat.le_of_ble_eq_true rfl) (Nat.le_of_ble_eq_true rfl) (fun q3 c3 => ?_)
  refine s_putF_X5 (k := 9) (fs' := [.ref (κa.1 0), .ref (κb.1 11), .int 0, .ref qE, .int 0, .ref q1, .int 0, .ref q2, .int 0, .ref q3, .null, .null, .null]) dX5_init_76 f_X5_44 (by decide) rfl rfl hname rfl rfl (Nat.le_of_ble_eq_true rfl) rfl ?_
  refine z_aload (i := 0) (j := 0) dX5_init_79 rfl rfl ?_
  refine s_new (ci := 0) (ty0 := tyX0) (fs := [.null, .null, .int 0, .int 0, .int 0]) dX5_init_80 rfl fw_X0 tyX0_ok (gm (i := 116) (by decide +kernel) rfl) in_X0 mi_X0.2.2.1 df_X0 (Nat.le_of_ble_eq_true rfl) (Nat.le_of_ble_eq_true rfl) (fun q => ?_)
  refine z_dup dX5_init_83 ?_
  refine s_initN (I := I0) (q0 := 129) dX5_init_84 (i_X0 l) (fun C => C.2.1) mi_X0 (Nat.le_of_ble_eq_true rfl) (Nat.le_of_ble_eq_true rfl) (by decide) (Nat.le_of_ble_eq_true rfl) (Nat.le_of_ble_eq_true rfl) (Nat.le_of_ble_eq_true rfl) (fun κm κmD κm_q => ?_)
  subst κm_q
  refine s_putF_X5 (k := 10) (fs' := [.ref (κa.1 0), .ref (κb.1 11), .int 0, .ref qE, .int 0, .ref q1, .int 0, .ref q2, .int 0, .ref q3, .ref (κm.1 129), .null, .null]) dX5_init_87 f_X5_50 (by decide) rfl rfl hname rfl rfl (Nat.le_of_ble_eq_true rfl) rfl ?_
  refine z_aload (i := 0) (j := 0) dX5_init_90 rfl rfl ?_
  refine z_iconst (v := 4) dX5_init_91 (by decide) ?_
  refine s_newa (N := 4) dX5_init_92 (by decide) rfl (Nat.le_of_ble_eq_true rfl) (Nat.le_of_ble_eq_true rfl) (Nat.le_of_ble_eq_true rfl) (fun q4 c4 => ?_)
  refine s_putF_X5 (k := 11) (fs' := [.ref (κa.1 0), .ref (κb.1 11), .int 0, .ref qE, .int 0, .ref q1, .int 0, .ref q2, .int 0, .ref q3, .ref (κm.1 129), .ref q4, .null]) dX5_init_94 f_X5_54 (by decide) rfl rfl hname rfl rfl (Nat.le_of_ble_eq_true rfl) rfl ?_
  refine z_aload (i := 0) (j := 0) dX5_init_97 rfl rfl ?_
  refine z_iconst (v := 4) dX5_init_98 (by decide) ?_
  refine s_newa (N := 4) dX5_init_99 (by decide) rfl (Nat.le_of_ble_eq_true rfl) (Nat.le_of_ble_eq_true rfl) (Nat.le_of_ble_eq_true rfl) (fun q5 c5 => ?_)
  refine s_putF_X5 (k := 12) (fs' := [.ref (κa.1 0), .ref (κb.1 11), .int 0, .ref qE, .int 0, .ref q1, .int 0, .ref q2, .int 0, .ref q3, .ref (κm.1 129), .ref q4, .ref q5]) dX5_init_101 f_X5_57 (by decide) rfl rfl hname rfl rfl (Nat.le_of_ble_eq_true rfl) rfl ?_
  refine z_iconst (v := 0) dX5_init_104 (by decide) ?_
  refine z_istore (i := 1) (lv' := [(1, .int 0), (0, .ref h0)]) dX5_init_105 rfl (by decide) rfl ?_
  simp only [List.cons_append]
  refine z_iload (i := 1) (j := 0) dX5_init_106 rfl rfl ?_
  refine z_bipush (v := 8) dX5_init_107 (by decide) ?_
  refine z_icmpge (tgt := 131) dX5_init_109 (by decide) (fun hh => absurd hh (by decide)) (fun _ => ?_)
  refine z_aload (i := 0) (j := 1) dX5_init_112 rfl rfl ?_
  refine s_get_X5 (k := 3) dX5_init_113 f_X5_23 (by decide) rfl ?_
  refine z_iload (i := 1) (j := 0) dX5_init_116 rfl rfl ?_
  refine s_new (ci := 2) (ty0 := tyX4) (fs := [.null, .null, .null, .int 0, .null, .null, .null, .int 0, .null, .null, .null, .null, .int 0, .int 0, .int 0]) dX5_init_117 rfl fw_X4 tyX4_ok (gm (i := 35) (by decide +kernel) rfl) in_X4 mi_X4.2.2.1 df_X4 (Nat.le_of_ble_eq_true rfl) (Nat.le_of_ble_eq_true rfl) (fun q => ?_)
  refine z_dup dX5_init_120 ?_
  refine s_initN (I := (wI 33)) (q0 := 33) dX5_init_121 (i_X4 l (w := 33) (by decide)) (fun C => C.1) mi_X4 (Nat.le_of_ble_eq_true rfl) (Nat.le_of_ble_eq_true rfl) (by decide) (Nat.le_of_ble_eq_true rfl) (Nat.le_of_ble_eq_true rfl) (Nat.le_of_ble_eq_true rfl) (fun κ0 κ0D κ0_q => ?_)
  subst κ0_q
  refine z_cons ?_
  refine s_astq (r := (RX4, TX4, 15)) (t0 := 22) (k := 0) (qk := _ + 2) (ee := c0 κ0 33) dX5_init_124 (get_app (get_app (get_app (get_app (get_app (get_app (get_app ((rfl : (([] ++ pty κa (wI 0) ++ pty κb (wI 11)) ++ [(cE, FieldType.object "OnlyInFog$World")])[22]? = some (cE, FieldType.object "OnlyInFog$World")))))))))) (at_new _ _ _ _ _) (c0_w (by decide)) rfl (vp_in_iff.mpr (by decide)) rfl ?_
  refine z_iinc (j := 0) (v := 1) (lv' := [(1, .int 1), (0, .ref h0)]) dX5_init_125 rfl (by decide) (by decide) rfl ?_
  refine z_goto (tgt := 106) dX5_init_128 (by decide) ?_
  refine z_iload (i := 1) (j := 0) dX5_init_106 rfl rfl ?_
  refine z_bipush (v := 8) dX5_init_107 (by decide) ?_
  refine z_icmpge (tgt := 131) dX5_init_109 (by decide) (fun hh => absurd hh (by decide)) (fun _ => ?_)
  refine z_aload (i := 0) (j := 1) dX5_init_112 rfl rfl ?_
  refine s_get_X5 (k := 3) dX5_init_113 f_X5_23 (by decide) rfl ?_
  refine z_iload (i := 1) (j := 0) dX5_init_116 rfl rfl ?_
  refine s_new (ci := 2) (ty0 := tyX4) (fs := [.null, .null, .null, .int 0, .null, .null, .null, .int 0, .null, .null, .null, .null, .int 0, .int 0, .int 0]) dX5_init_117 rfl fw_X4 tyX4_ok (gm (i := 35) (by decide +kernel) rfl) in_X4 mi_X4.2.2.1 df_X4 (Nat.le_of_ble_eq_true rfl) (Nat.le_of_ble_eq_true rfl) (fun q => ?_)
  refine z_dup dX5_init_120 ?_
  refine s_initN (I := (wI 44)) (q0 := 44) dX5_init_121 (i_X4 l (w := 44) (by decide)) (fun C => C.1) mi_X4 (Nat.le_of_ble_eq_true rfl) (Nat.le_of_ble_eq_true rfl) (by decide) (Nat.le_of_ble_eq_true rfl) (Nat.le_of_ble_eq_true rfl) (Nat.le_of_ble_eq_true rfl) (fun κ1 κ1D κ1_q => ?_)
  subst κ1_q
  refine z_cons ?_
  refine s_astq (r := (RX4, TX4, 15)) (t0 := 22) (k := 1) (qk := _ + 2) (ee := c0 κ1 44) dX5_init_124 (get_app (get_app (get_app (get_app (get_app (get_app (get_app (get_app ((rfl : (([] ++ pty κa (wI 0) ++ pty κb (wI 11)) ++ [(cE, FieldType.object "OnlyInFog$World")])[22]? = some (cE, FieldType.object "OnlyInFog$World"))))))))))) (at_new _ _ _ _ _) (c0_w (by decide)) rfl (vp_in_iff.mpr (by decide)) rfl ?_
  refine z_iinc (j := 0) (v := 2) (lv' := [(1, .int 2), (0, .ref h0)]) dX5_init_125 rfl (by decide) (by decide) rfl ?_
  refine z_goto (tgt := 106) dX5_init_128 (by decide) ?_
  refine z_iload (i := 1) (j := 0) dX5_init_106 rfl rfl ?_
  refine z_bipush (v := 8) dX5_init_107 (by decide) ?_
  refine z_icmpge (tgt := 131) dX5_init_109 (by decide) (fun hh => absurd hh (by decide)) (fun _ => ?_)
  refine z_aload (i := 0) (j := 1) dX5_init_112 rfl rfl ?_
  refine s_get_X5 (k := 3) dX5_init_113 f_X5_23 (by decide) rfl ?_
  refine z_iload (i := 1) (j := 0) dX5_init_116 rfl rfl ?_
  refine s_new (ci := 2) (ty0 := tyX4) (fs := [.null, .null, .null, .int 0, .null, .null, .null, .int 0, .null, .null, .null, .null, .int 0, .int 0, .int 0]) dX5_init_117 rfl fw_X4 tyX4_ok (gm (i := 35) (by decide +kernel) rfl) in_X4 mi_X4.2.2.1 df_X4 (Nat.le_of_ble_eq_true rfl) (Nat.le_of_ble_eq_true rfl) (fun q => ?_)
  refine z_dup dX5_init_120 ?_
  refine s_initN (I := (wI 55)) (q0 := 55) dX5_init_121 (i_X4 l (w := 55) (by decide)) (fun C => C.1) mi_X4 (Nat.le_of_ble_eq_true rfl) (Nat.le_of_ble_eq_true rfl) (by decide) (Nat.le_of_ble_eq_true rfl) (Nat.le_of_ble_eq_true rfl) (Nat.le_of_ble_eq_true rfl) (fun κ2 κ2D κ2_q => ?_)
  subst κ2_q
  refine z_cons ?_
  refine s_astq (r := (RX4, TX4, 15)) (t0 := 22) (k := 2) (qk := _ + 2) (ee := c0 κ2 55) dX5_init_124 (get_app (get_app (get_app (get_app (get_app (get_app (get_app (get_app (get_app ((rfl : (([] ++ pty κa (wI 0) ++ pty κb (wI 11)) ++ [(cE, FieldType.object "OnlyInFog$World")])[22]? = some (cE, FieldType.object "OnlyInFog$World")))))))))))) (at_new _ _ _ _ _) (c0_w (by decide)) rfl (vp_in_iff.mpr (by decide)) rfl ?_
  refine z_iinc (j := 0) (v := 3) (lv' := [(1, .int 3), (0, .ref h0)]) dX5_init_125 rfl (by decide) (by decide) rfl ?_
  refine z_goto (tgt := 106) dX5_init_128 (by decide) ?_
  refine z_iload (i := 1) (j := 0) dX5_init_106 rfl rfl ?_
  refine z_bipush (v := 8) dX5_init_107 (by decide) ?_
  refine z_icmpge (tgt := 131) dX5_init_109 (by decide) (fun hh => absurd hh (by decide)) (fun _ => ?_)
  refine z_aload (i := 0) (j := 1) dX5_init_112 rfl rfl ?_
  refine s_get_X5 (k := 3) dX5_init_113 f_X5_23 (by decide) rfl ?_
  refine z_iload (i := 1) (j := 0) dX5_init_116 rfl rfl ?_
  refine s_new (ci := 2) (ty0 := tyX4) (fs := [.null, .null, .null, .int 0, .null, .null, .null, .int 0, .null, .null, .null, .null, .int 0, .int 0, .int 0]) dX5_init_117 rfl fw_X4 tyX4_ok (gm (i := 35) (by decide +kernel) rfl) in_X4 mi_X4.2.2.1 df_X4 (Nat.le_of_ble_eq_true rfl) (Nat.le_of_ble_eq_true rfl) (fun q => ?_)
  refine z_dup dX5_init_120 ?_
  refine s_initN (I := (wI 66)) (q0 := 66) dX5_init_121 (i_X4 l (w := 66) (by decide)) (fun C => C.1) mi_X4 (Nat.le_of_ble_eq_true rfl) (Nat.le_of_ble_eq_true rfl) (by decide) (Nat.le_of_ble_eq_true rfl) (Nat.le_of_ble_eq_true rfl) (Nat.le_of_ble_eq_true rfl) (fun κ3 κ3D κ3_q => ?_)
  subst κ3_q
  refine z_cons ?_
  refine s_astq (r := (RX4, TX4, 15)) (t0 := 22) (k := 3) (qk := _ + 2) (ee := c0 κ3 66) dX5_init_124 (get_app (get_app (get_app (get_app (get_app (get_app (get_app (get_app (get_app (get_app ((rfl : (([] ++ pty κa (wI 0) ++ pty κb (wI 11)) ++ [(cE, FieldType.object "OnlyInFog$World")])[22]? = some (cE, FieldType.object "OnlyInFog$World"))))))))))))) (at_new _ _ _ _ _) (c0_w (by decide)) rfl (vp_in_iff.mpr (by decide)) rfl ?_
  refine z_iinc (j := 0) (v := 4) (lv' := [(1, .int 4), (0, .ref h0)]) dX5_init_125 rfl (by decide) (by decide) rfl ?_
  refine z_goto (tgt := 106) dX5_init_128 (by decide) ?_
  refine z_iload (i := 1) (j := 0) dX5_init_106 rfl rfl ?_
  refine z_bipush (v := 8) dX5_init_107 (by decide) ?_
  refine z_icmpge (tgt := 131) dX5_init_109 (by decide) (fun hh => absurd hh (by decide)) (fun _ => ?_)
  refine z_aload (i := 0) (j := 1) dX5_init_112 rfl rfl ?_
  refine s_get_X5 (k := 3) dX5_init_113 f_X5_23 (by decide) rfl ?_
  refine z_iload (i := 1) (j := 0) dX5_init_116 rfl rfl ?_
  refine s_new (ci := 2) (ty0 := tyX4) (fs := [.null, .null, .null, .int 0, .null, .null, .null, .int 0, .null, .null, .null, .null, .int 0, .int 0, .int 0]) dX5_init_117 rfl fw_X4 tyX4_ok (gm (i := 35) (by decide +kernel) rfl) in_X4 mi_X4.2.2.1 df_X4 (Nat.le_of_ble_eq_true rfl) (Nat.le_of_ble_eq_true rfl) (fun q => ?_)
  refine z_dup dX5_init_120 ?_
  refine s_initN (I := (wI 77)) (q0 := 77) dX5_init_121 (i_X4 l (w := 77) (by decide)) (fun C => C.1) mi_X4 (Nat.le_of_ble_eq_true rfl) (Nat.le_of_ble_eq_true rfl) (by decide) (Nat.le_of_ble_eq_true rfl) (Nat.le_of_ble_eq_true rfl) (Nat.le_of_ble_eq_true rfl) (fun κ4 κ4D κ4_q => ?_)
  subst κ4_q
  refine z_cons ?_
  refine s_astq (r := (RX4, TX4, 15)) (t0 := 22) (k := 4) (qk := _ + 2) (ee := c0 κ4 77) dX5_init_124 (get_app (get_app (get_app (get_app (get_app (get_app (get_app (get_app (get_app (get_app (get_app ((rfl : (([] ++ pty κa (wI 0) ++ pty κb (wI 11)) ++ [(cE, FieldType.object "OnlyInFog$World")])[22]? = some (cE, FieldType.object "OnlyInFog$World")))))))))))))) (at_new _ _ _ _ _) (c0_w (by decide)) rfl (vp_in_iff.mpr (by decide)) rfl ?_
  refine z_iinc (j := 0) (v := 5) (lv' := [(1, .int 5), (0, .ref h0)]) dX5_init_125 rfl (by decide) (by decide) rfl ?_
  refine z_goto (tgt := 106) dX5_init_128 (by decide) ?_
  refine z_iload (i := 1) (j := 0) dX5_init_106 rfl rfl ?_
  refine z_bipush (v := 8) dX5_init_107 (by decide) ?_
  refine z_icmpge (tgt := 131) dX5_init_109 (by decide) (fun hh => absurd hh (by decide)) (fun _ => ?_)
  refine z_aload (i := 0) (j := 1) dX5_init_112 rfl rfl ?_
  refine s_get_X5 (k := 3) dX5_init_113 f_X5_23 (by decide) rfl ?_
  refine z_iload (i := 1) (j := 0) dX5_init_116 rfl rfl ?_
  refine s_new (ci := 2) (ty0 := tyX4) (fs := [.null, .null, .null, .int 0, .null, .null, .null, .int 0, .null, .null, .null, .null, .int 0, .int 0, .int 0]) dX5_init_117 rfl fw_X4 tyX4_ok (gm (i := 35) (by decide +kernel) rfl) in_X4 mi_X4.2.2.1 df_X4 (Nat.le_of_ble_eq_true rfl) (Nat.le_of_ble_eq_true rfl) (fun q => ?_)
  refine z_dup dX5_init_120 ?_
  refine s_initN (I := (wI 88)) (q0 := 88) dX5_init_121 (i_X4 l (w := 88) (by decide)) (fun C => C.1) mi_X4 (Nat.le_of_ble_eq_true rfl) (Nat.le_of_ble_eq_true rfl) (by decide) (Nat.le_of_ble_eq_true rfl) (Nat.le_of_ble_eq_true rfl) (Nat.le_of_ble_eq_true rfl) (fun κ5 κ5D κ5_q => ?_)
  subst κ5_q
  refine z_cons ?_
  refine s_astq (r := (RX4, TX4, 15)) (t0 := 22) (k := 5) (qk := _ + 2) (ee := c0 κ5 88) dX5_init_124 (get_app (get_app (get_app (get_app (get_app (get_app (get_app (get_app (get_app (get_app (get_app (get_app ((rfl : (([] ++ pty κa (wI 0) ++ pty κb (wI 11)) ++ [(cE, FieldType.object "OnlyInFog$World")])[22]? = some (cE, FieldType.object "OnlyInFog$World"))))))))))))))) (at_new _ _ _ _ _) (c0_w (by decide)) rfl (vp_in_iff.mpr (by decide)) rfl ?_
  refine z_iinc (j := 0) (v := 6) (lv' := [(1, .int 6), (0, .ref h0)]) dX5_init_125 rfl (by decide) (by decide) rfl ?_
  refine z_goto (tgt := 106) dX5_init_128 (by decide) ?_
  refine z_iload (i := 1) (j := 0) dX5_init_106 rfl rfl ?_
  refine z_bipush (v := 8) dX5_init_107 (by decide) ?_
  refine z_icmpge (tgt := 131) dX5_init_109 (by decide) (fun hh => absurd hh (by decide)) (fun _ => ?_)
  refine z_aload (i := 0) (j := 1) dX5_init_112 rfl rfl ?_
  refine s_get_X5 (k := 3) dX5_init_113 f_X5_23 (by decide) rfl ?_
  refine z_iload (i := 1) (j := 0) dX5_init_116 rfl rfl ?_
  refine s_new (ci := 2) (ty0 := tyX4) (fs := [.null, .null, .null, .int 0, .null, .null, .null, .int 0, .null, .null, .null, .null, .int 0, .int 0, .int 0]) dX5_init_117 rfl fw_X4 tyX4_ok (gm (i := 35) (by decide +kernel) rfl) in_X4 mi_X4.2.2.1 df_X4 (Nat.le_of_ble_eq_true rfl) (Nat.le_of_ble_eq_true rfl) (fun q => ?_)
  refine z_dup dX5_init_120 ?_
  refine s_initN (I := (wI 99)) (q0 := 99) dX5_init_121 (i_X4 l (w := 99) (by decide)) (fun C => C.1) mi_X4 (Nat.le_of_ble_eq_true rfl) (Nat.le_of_ble_eq_true rfl) (by decide) (Nat.le_of_ble_eq_true rfl) (Nat.le_of_ble_eq_true rfl) (Nat.le_of_ble_eq_true rfl) (fun κ6 κ6D κ6_q => ?_)
  subst κ6_q
  refine z_cons ?_
  refine s_astq (r := (RX4, TX4, 15)) (t0 := 22) (k := 6) (qk := _ + 2) (ee := c0 κ6 99) dX5_init_124 (get_app (get_app (get_app (get_app (get_app (get_app (get_app (get_app (get_app (get_app (get_app (get_app (get_app ((rfl : (([] ++ pty κa (wI 0) ++ pty κb (wI 11)) ++ [(cE, FieldType.object "OnlyInFog$World")])[22]? = some (cE, FieldType.object "OnlyInFog$World")))))))))))))))) (at_new _ _ _ _ _) (c0_w (by decide)) rfl (vp_in_iff.mpr (by decide)) rfl ?_
  refine z_iinc (j := 0) (v := 7) (lv' := [(1, .int 7), (0, .ref h0)]) dX5_init_125 rfl (by decide) (by decide) rfl ?_
  refine z_goto (tgt := 106) dX5_init_128 (by decide) ?_
  refine z_iload (i := 1) (j := 0) dX5_init_106 rfl rfl ?_
  refine z_bipush (v := 8) dX5_init_107 (by decide) ?_
  refine z_icmpge (tgt := 131) dX5_init_109 (by decide) (fun hh => absurd hh (by decide)) (fun _ => ?_)
  refine z_aload (i := 0) (j := 1) dX5_init_112 rfl rfl ?_
  refine s_get_X5 (k := 3) dX5_init_113 f_X5_23 (by decide) rfl ?_
  refine z_iload (i := 1) (j := 0) dX5_init_116 rfl rfl ?_
  refine s_new (ci := 2) (ty0 := tyX4) (fs := [.null, .null, .null, .int 0, .null, .null, .null, .int 0, .null, .null, .null, .null, .int 0, .int 0, .int 0]) dX5_init_117 rfl fw_X4 tyX4_ok (gm (i := 35) (by decide +kernel) rfl) in_X4 mi_X4.2.2.1 df_X4 (Nat.le_of_ble_eq_true rfl) (Nat.le_of_ble_eq_true rfl) (fun q => ?_)
  refine z_dup dX5_init_120 ?_
  refine s_initN (I := (wI 110)) (q0 := 110) dX5_init_121 (i_X4 l (w := 110) (by decide)) (fun C => C.1) mi_X4 (Nat.le_of_ble_eq_true rfl) (Nat.le_of_ble_eq_true rfl) (by decide) (Nat.le_of_ble_eq_true rfl) (Nat.le_of_ble_eq_true rfl) (Nat.le_of_ble_eq_true rfl) (fun κ7 κ7D κ7_q => ?_)
  subst κ7_q
  refine z_cons ?_
  refine s_astq (r := (RX4, TX4, 15)) (t0 := 22) (k := 7) (qk := _ + 2) (ee := c0 κ7 110) dX5_init_124 (get_app (get_app (get_app (get_app (get_app (get_app (get_app (get_app (get_app (get_app (get_app (get_app (get_app (get_app ((rfl : (([] ++ pty κa (wI 0) ++ pty κb (wI 11)) ++ [(cE, FieldType.object "OnlyInFog$World")])[22]? = some (cE, FieldType.object "OnlyInFog$World"))))))))))))))))) (at_new _ _ _ _ _) (c0_w (by decide)) rfl (vp_in_iff.mpr (by decide)) rfl ?_
  refine z_iinc (j := 0) (v := 8) (lv' := [(1, .int 8), (0, .ref h0)]) dX5_init_125 rfl (by decide) (by decide) rfl ?_
  refine z_goto (tgt := 106) dX5_init_128 (by decide) ?_
  refine z_iload (i := 1) (j := 0) dX5_init_106 rfl rfl ?_
  refine z_bipush (v := 8) dX5_init_107 (by decide) ?_
  refine z_icmpge (tgt := 131) dX5_init_109 (by decide) (fun _ => ?_) (fun hh => (hh (by decide)).elim)
  obtain ⟨κ, kD, k130, k131, k132, k133, k134, k135, k136, km, ga, gb, g0, g1, g2, g3, g4, g5, g6, g7⟩ : ∃ κ : KP, κ.2.2 = D ∧ (κ.1 130 = h0 ∧ κ.2.1 130 = c1) ∧ (κ.1 131 = qE ∧ κ.2.1 131 = cE) ∧ (κ.1 132 = q1 ∧ κ.2.1 132 = c1) ∧ (κ.1 133 = q2 ∧ κ.2.1 133 = c2) ∧ (κ.1 134 = q3 ∧ κ.2.1 134 = c3) ∧ (κ.1 135 = q4 ∧ κ.2.1 135 = c4) ∧ (κ.1 136 = q5 ∧ κ.2.1 136 = c5) ∧ (∀ q ∈ I0, κm.1 q = κ.1 q ∧ κm.2.1 q = κ.2.1 q) ∧ (∀ q ∈ wI 0, κa.1 q = κ.1 q ∧ κa.2.1 q = κ.2.1 q) ∧ (∀ q ∈ wI 11, κb.1 q = κ.1 q ∧ κb.2.1 q = κ.2.1 q) ∧ (∀ q ∈ wI 33, κ0.1 q = κ.1 q ∧ κ0.2.1 q = κ.2.1 q) ∧ (∀ q ∈ wI 44, κ1.1 q = κ.1 q ∧ κ1.2.1 q = κ.2.1 q) ∧ (∀ q ∈ wI 55, κ2.1 q = κ.1 q ∧ κ2.2.1 q = κ.2.1 q) ∧ (∀ q ∈ wI 66, κ3.1 q = κ.1 q ∧ κ3.2.1 q = κ.2.1 q) ∧ (∀ q ∈ wI 77, κ4.1 q = κ.1 q ∧ κ4.2.1 q = κ.2.1 q) ∧ (∀ q ∈ wI 88, κ5.1 q = κ.1 q ∧ κ5.2.1 q = κ.2.1 q) ∧ (∀ q ∈ wI 99, κ6.1 q = κ.1 q ∧ κ6.2.1 q = κ.2.1 q) ∧ (∀ q ∈ wI 110, κ7.1 q = κ.1 q ∧ κ7.2.1 q = κ.2.1 q) := by
    refine ⟨(fun q => if q < 11 then κa.1 q else if q < 22 then κb.1 q else if q < 33 then κm.1 q else if q < 44 then κ0.1 q else if q < 55 then κ1.1 q else if q < 66 then κ2.1 q else if q < 77 then κ3.1 q else if q < 88 then κ4.1 q else if q < 99 then κ5.1 q else if q < 110 then κ6.1 q else if q < 121 then κ7.1 q else if q < 130 then κm.1 q else [h0, qE, q1, q2, q3, q4, q5].getD (q - 130) 0, fun q => if q < 11 then κa.2.1 q else if q < 22 then κb.2.1 q else if q < 33 then κm.2.1 q else if q < 44 then κ0.2.1 q else if q < 55 then κ1.2.1 q else if q < 66 then κ2.2.1 q else if q < 77 then κ3.2.1 q else if q < 88 then κ4.2.1 q else if q < 99 then κ5.2.1 q else if q < 110 then κ6.2.1 q else if q < 121 then κ7.2.1 q else if q < 130 then κm.2.1 q else [c1, cE, c1, c2, c3, c4, c5].getD (q - 130) 0, D), rfl, ⟨rfl, rfl⟩, ⟨rfl, rfl⟩, ⟨rfl, rfl⟩, ⟨rfl, rfl⟩, ⟨rfl, rfl⟩, ⟨rfl, rfl⟩, ⟨rfl, rfl⟩, fun q hq => ?_, fun q hq => ?_, fun q hq => ?_, fun q hq => ?_, fun q hq => ?_, fun q hq => ?_, fun q hq => ?_, fun q hq => ?_, fun q hq => ?_, fun q hq => ?_, fun q hq => ?_⟩
    · rcases (by decide +kernel : ∀ q ∈ I0, (22 ≤ q ∧ q < 33) ∨ (121 ≤ q ∧ q < 130)) q hq with h1 | h1
      · exact ⟨by dsimp only; rw [if_neg (by omega), if_neg (by omega), if_pos (by omega)], by dsimp only; rw [if_neg (by omega), if_neg (by omega), if_pos (by omega)]⟩
      · exact ⟨by dsimp only; rw [if_neg (by omega), if_neg (by omega), if_neg (by omega), if_neg (by omega), if_neg (by omega), if_neg (by omega), if_neg (by omega), if_neg (by omega), if_neg (by omega), if_neg (by omega), if_neg (by omega), if_pos (by omega)], by dsimp only; rw [if_neg (by omega), if_neg (by omega), if_neg (by omega), if_neg (by omega), if_neg (by omega), if_neg (by omega), if_neg (by omega), if_neg (by omega), if_neg (by omega), if_neg (by omega), if_neg (by omega), if_pos (by omega)]⟩
    · have h1 := (by decide +kernel : ∀ q ∈ wI 0, 0 ≤ q ∧ q < 11) q hq
      exact ⟨by dsimp only; rw [if_pos (by omega)], by dsimp only; rw [if_pos (by omega)]⟩
    · have h1 := (by decide +kernel : ∀ q ∈ wI 11, 11 ≤ q ∧ q < 22) q hq
      exact ⟨by dsimp only; rw [if_neg (by omega), if_pos (by omega)], by dsimp only; rw [if_neg (by omega), if_pos (by omega)]⟩
    · have h1 := (by decide +kernel : ∀ q ∈ wI 33, 33 ≤ q ∧ q < 44) q hq
      exact ⟨by dsimp only; rw [if_neg (by omega), if_neg (by omega), if_neg (by omega), if_pos (by omega)], by dsimp only; rw [if_neg (by omega), if_neg (by omega), if_neg (by omega), if_pos (by omega)]⟩
    · have h1 := (by decide +kernel : ∀ q ∈ wI 44, 44 ≤ q ∧ q < 55) q hq
      exact ⟨by dsimp only; rw [if_neg (by omega), if_neg (by omega), if_neg (by omega), if_neg (by omega), if_pos (by omega)], by dsimp only; rw [if_neg (by omega), if_neg (by omega), if_neg (by omega), if_neg (by omega), if_pos (by omega)]⟩
    · have h1 := (by decide +kernel : ∀ q ∈ wI 55, 55 ≤ q ∧ q < 66) q hq
      exact ⟨by dsimp only; rw [if_neg (by omega), if_neg (by omega), if_neg (by omega), if_neg (by omega), if_neg (by omega), if_pos (by omega)], by dsimp only; rw [if_neg (by omega), if_neg (by omega), if_neg (by omega), if_neg (by omega), if_neg (by omega), if_pos (by omega)]⟩
    · have h1 := (by decide +kernel : ∀ q ∈ wI 66, 66 ≤ q ∧ q < 77) q hq
      exact ⟨by dsimp only; rw [if_neg (by omega), if_neg (by omega), if_neg (by omega), if_neg (by omega), if_neg (by omega), if_neg (by omega), if_pos (by omega)], by dsimp only; rw [if_neg (by omega), if_neg (by omega), if_neg (by omega), if_neg (by omega), if_neg (by omega), if_neg (by omega), if_pos (by omega)]⟩
    · have h1 := (by decide +kernel : ∀ q ∈ wI 77, 77 ≤ q ∧ q < 88) q hq
      exact ⟨by dsimp only; rw [if_neg (by omega), if_neg (by omega), if_neg (by omega), if_neg (by omega), if_neg (by omega), if_neg (by omega), if_neg (by omega), if_pos (by omega)], by dsimp only; rw [if_neg (by omega), if_neg (by omega), if_neg (by omega), if_neg (by omega), if_neg (by omega), if_neg (by omega), if_neg (by omega), if_pos (by omega)]⟩
    · have h1 := (by decide +kernel : ∀ q ∈ wI 88, 88 ≤ q ∧ q < 99) q hq
      exact ⟨by dsimp only; rw [if_neg (by omega), if_neg (by omega), if_neg (by omega), if_neg (by omega), if_neg (by omega), if_neg (by omega), if_neg (by omega), if_neg (by omega), if_pos (by omega)], by dsimp only; rw [if_neg (by omega), if_neg (by omega), if_neg (by omega), if_neg (by omega), if_neg (by omega), if_neg (by omega), if_neg (by omega), if_neg (by omega), if_pos (by omega)]⟩
    · have h1 := (by decide +kernel : ∀ q ∈ wI 99, 99 ≤ q ∧ q < 110) q hq
      exact ⟨by dsimp only; rw [if_neg (by omega), if_neg (by omega), if_neg (by omega), if_neg (by omega), if_neg (by omega), if_neg (by omega), if_neg (by omega), if_neg (by omega), if_neg (by omega), if_pos (by omega)], by dsimp only; rw [if_neg (by omega), if_neg (by omega), if_neg (by omega), if_neg (by omega), if_neg (by omega), if_neg (by omega), if_neg (by omega), if_neg (by omega), if_neg (by omega), if_pos (by omega)]⟩
    · have h1 := (by decide +kernel : ∀ q ∈ wI 110, 110 ≤ q ∧ q < 121) q hq
      exact ⟨by dsimp only; rw [if_neg (by omega), if_neg (by omega), if_neg (by omega), if_neg (by omega), if_neg (by omega), if_neg (by omega), if_neg (by omega), if_neg (by omega), if_neg (by omega), if_neg (by omega), if_pos (by omega)], by dsimp only; rw [if_neg (by omega), if_neg (by omega), if_neg (by omega), if_neg (by omega), if_neg (by omega), if_neg (by omega), if_neg (by omega), if_neg (by omega), if_neg (by omega), if_neg (by omega), if_pos (by omega)]⟩
  refine z_ret κ dX5_init_131 hr hlocks (Nat.le_of_ble_eq_true rfl) (Nat.le_of_ble_eq_true rfl) kD k130.1 ?_ ?_
  · have hE : (va_up (va_up (va_up (va_up (va_up (va_up (va_up (va_up (fun _ => none) 0 (some (κ0.1 33))) 1 (some (κ1.1 44))) 2 (some (κ2.1 55))) 3 (some (κ3.1 66))) 4 (some (κ4.1 77))) 5 (some (κ5.1 88))) 6 (some (κ6.1 99))) 7 (some (κ7.1 110))) = fun i => if i < 8 then some (κ.1 (33 + 11 * i)) else none := by
      rw [(g0 33 (by decide +kernel)).1, (g1 44 (by decide +kernel)).1, (g2 55 (by decide +kernel)).1, (g3 66 (by decide +kernel)).1, (g4 77 (by decide +kernel)).1, (g5 88 (by decide +kernel)).1, (g6 99 (by decide +kernel)).1, (g7 110 (by decide +kernel)).1]
      funext i
      match i with
      | 0 => rfl
      | 1 => rfl
      | 2 => rfl
      | 3 => rfl
      | 4 => rfl
      | 5 => rfl
      | 6 => rfl
      | 7 => rfl
      | i + 8 => rw [if_neg (by omega)]; rfl
    rw [hE, (ga 0 (by decide +kernel)).1, (gb 11 (by decide +kernel)).1, (km 129 (by decide +kernel)).1, pt_congr (by decide +kernel) ga, pt_congr (by decide +kernel) gb, pt_congr (by decide +kernel) g0, pt_congr (by decide +kernel) g1, pt_congr (by decide +kernel) g2, pt_congr (by decide +kernel) g3, pt_congr (by decide +kernel) g4, pt_congr (by decide +kernel) g5, pt_congr (by decide +kernel) g6, pt_congr (by decide +kernel) g7, pt_congr (by decide +kernel) km, ← k130.1, ← k131.1, ← k132.1, ← k133.1, ← k134.1, ← k135.1, ← k136.1, ← k131.2, ← k132.2, ← k133.2, ← k134.2, ← k135.2, ← k136.2]
    simp only [I5, T5, pt_app, pt_cons, pt_nil, c0_130, c0_131, c0_132, c0_133, c0_134, c0_135, c0_136]
  · rw [pty_congr ga, pty_congr gb, pty_congr g0, pty_congr g1, pty_congr g2, pty_congr g3, pty_congr g4, pty_congr g5, pty_congr g6, pty_congr g7, pty_congr km, ← k131.2, ← k132.2, ← k133.2, ← k134.2, ← k135.2, ← k136.2]
    intro e he
    have he : e ∈ (κ.2.1 130, FieldType.int) :: (κ.2.1 131, FieldType.object "OnlyInFog$World") :: pty κ T5 := he
    have e5 : pty κ T5 = (((((((((((((((([] ++ pty κ (wI 0)) ++ pty κ (wI 11)) ++ [(κ.2.1 132, .int)]) ++ [(κ.2.1 133, .int)]) ++ [(κ.2.1 134, .int)]) ++ pty κ I0) ++ [(κ.2.1 135, .int)]) ++ [(κ.2.1 136, .int)]) ++ pty κ (wI 33)) ++ pty κ (wI 44)) ++ pty κ (wI 55)) ++ pty κ (wI 66)) ++ pty κ (wI 77)) ++ pty κ (wI 88)) ++ pty κ (wI 99)) ++ pty κ (wI 110)) := by
      simp only [T5, pty_app]
      rfl
    rw [e5, k130.2, ← k132.2] at he
    simp only [List.mem_append, List.mem_cons, List.not_mem_nil, or_false, false_or, or_assoc] at he ⊢
    rcases he with he | he | he | he | he | he | he | he | he | he | he | he | he | he | he | he | he | he
    all_goals simp only [he, true_or, or_true]
