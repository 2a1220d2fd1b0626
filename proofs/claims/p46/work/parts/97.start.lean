/-! THE CLAIM OUT OF ONE WALK OF THE LAW'S BODY. Your part is whole_start (and what it stands on); all else here is the same for every law, but numbers. -/
def R_law : String := "OnlyInFogLaw"
def lw_P (b : Addr) (xs : List Int32) (args : Array Value) (s : State) : Prop := args = #[.ref b] ∧ s.IntsAt b xs ∧ xs.length ≤ 260 ∧ (Jvm.Cond.and given_1 narrow_1).before args s = true
def lw_Q (_ : Array Value) (s : State) (o : Outcome) (t : State) : Prop := o = .returned (some (.int 1)) ∧ Framed s o t [] 600000 7302250
def lw_Z (below : List Frame) (a : Array Value) (s : State) : State → Prop := fun t => ∃ o, t.status = .running ∧ Ended t below o ∧ lw_Q a s o t
/-- the law's own end, with 1 on the stack, nothing written that was there before, its room as the claim has it -/
theorem lw_ret {p : Program} {l : Launch} {e : Env} {s : State} {m : MethodId} {below : List Frame} {meth : Method} {c : Code} {b : Nat} (hx : p.tables.exec = Jvm.exec) (hb : c.code = code) (hr : meth.sig.returnType = ret) (hlocks : meth.locks = false) {pc : Nat} {H : Heap} {ls : Array Slot} (hdg : decode code pc = .ok (.ireturn, 1)) : W p l e room_1 s m #[Value.ref b] below meth c H [] 600000 7302250 (lw_Z below #[Value.ref b] s) (F0 m pc ls [.int 1]) := by
  intro T hT X
  obtain ⟨fs, hret, hrun, hended, hW, hframe⟩ := X.leave (v := some (.int 1)) (hlocks := hlocks) (fun h => by rw [hr] at h; cases h)
  have hmeth' : T.vm.method? m = some meth := X.method'
  refine ⟨T.setFrames fs, ?_, .returned (some (.int 1)), hrun, hended, rfl, ⟨_, rfl⟩, hW, hframe⟩
  jvm_step X.here [X.here.top, hx, hb, hdg, hmeth', hr, ret, narrow_b1]
  (try refine ⟨rfl, ?_⟩); (try refine ⟨rfl, ?_⟩)
  first | (intro acts; rw [hret _ acts rfl rfl rfl]) | rw [hret _ _ rfl rfl rfl]
  exact Steps.refl _
/-- what holds at the law's entry: the machine, the code, the tables' words (any of lw_tbl by 'hts w (by decide +kernel)'), the script of L ints xs at the cell b, what the Statement gives of the start (any of its parts by flat_of_before) -/
def lw_At (p : Program) (s : State) (m : MethodId) (meth : Method) (c : Code) (b L : Nat) (xs : Nat → Int32) : Prop :=
  p.tables.exec = Jvm.exec ∧ c.code = code ∧ meth.sig.returnType = ret ∧ c.maxLocals = 19 ∧ s.vm.findClass R_law = some m.cls ∧ (∀ w ∈ lw_tbl, w.before #[Value.ref b] s = true) ∧ va_X b L xs s s.heap ∧ b < s.heap.size ∧ meth.locks = false ∧ (Jvm.Cond.and given_1 narrow_1).before #[Value.ref b] s = true
theorem cell131 (κ : KP) : vp_cell (κ.2.1 131) (8, .inr (.inr (.inr (.inr (fun i => if i < 8 then some (κ.1 (33 + 11 * i)) else none))))) = vp_cell (κ.2.1 131) (8, .inr (.inr (.inr (.inr (fun i => some (κ.1 (M0 131 i).toInt.toNat)))))) := by
  show ({ cls := κ.2.1 131, slots := Array.ofFn (n := 8) fun j => va_rf (if j.val < 8 then some (κ.1 (33 + 11 * j.val)) else none), vm := .none } : Cell) = { cls := κ.2.1 131, slots := Array.ofFn (n := 8) fun j => va_rf (some (κ.1 (M0 131 j.val).toInt.toNat)), vm := .none }
  have h : (fun j : Fin 8 => va_rf (if j.val < 8 then some (κ.1 (33 + 11 * j.val)) else none)) = fun j : Fin 8 => va_rf (some (κ.1 (M0 131 j.val).toInt.toNat)) := by
    funext j
    have hj := j.isLt
    have e1 : (M0 131 j.val).toInt = 33 + 11 * (j.val : Int) := rd0_131 hj
    rw [if_pos hj, e1]
    congr 3
  rw [h]
theorem cw_of_pt {D : va_G} {κ : KP} {J : List Nat} {H : Heap} (hJ : ∀ q, q < 137 → q ∈ J) (h : va_P D kcl (pt κ J) H) : va_P D kcl (cw κ M0) H := by
  intro k e hk
  by_cases hk' : k < 137
  · rw [cw_at κ M0 hk'] at hk
    cases hk
    obtain ⟨i, hi⟩ := List.getElem?_of_mem (hJ k hk')
    have h1 := h i (κ.1 k, c0 κ k) (by rw [pt, List.getElem?_map, hi]; rfl)
    by_cases h131 : k = 131
    · subst h131
      rw [c0_131] at h1
      show H[κ.1 131]? = some (vp_cell (κ.2.1 131) (8, .inr (.inr (.inr (.inr (fun i => some (κ.1 (M0 131 i).toInt.toNat)))))))
      rw [← cell131]
      exact h1
    · have e1 : c0 κ k = cell κ k (M0 k) := if_neg h131
      rw [e1] at h1
      exact h1
  · rw [cw_ge κ M0 hk'] at hk
    cases hk
theorem cwD_of_pt {A : Nat → Prop} {κ : KP} {J : List Nat} (hJ : ∀ q, q < 137 → q ∈ J) (h : va_D A (pt κ J)) : va_D A (cw κ M0) := by
  have hat : ∀ {k : Nat} {e : Nat × va_E}, (cw κ M0)[k]? = some e → ∃ i : Nat, J[i]? = some k ∧ (pt κ J)[i]? = some (κ.1 k, c0 κ k) ∧ e.1 = κ.1 k := by
    intro k e hk
    by_cases hk' : k < 137
    · rw [cw_at κ M0 hk'] at hk
      cases hk
      obtain ⟨i, hi⟩ := List.getElem?_of_mem (hJ k hk')
      exact ⟨i, hi, by rw [pt, List.getElem?_map, hi]; rfl, rfl⟩
    · rw [cw_ge κ M0 hk'] at hk
      cases hk
  refine ⟨fun i j p q hi hj hpq => ?_, fun k q hk => ?_⟩
  · obtain ⟨i', a1, a2, a3⟩ := hat hi
    obtain ⟨j', b1, b2, b3⟩ := hat hj
    have := h.1 i' j' _ _ a2 b2 (by show κ.1 i = κ.1 j; rw [← a3, ← b3]; exact hpq)
    subst this
    rw [a1] at b1
    exact Option.some.inj b1
  · obtain ⟨i', a1, a2, a3⟩ := hat hk
    rw [a3]
    exact h.2 i' _ a2
theorem tys_of_pty {κ : KP} {J : List Nat} (hJ : ∀ q, q < 137 → q ∈ J) : ∀ e ∈ tys κ, e ∈ pty κ J := fun e he => by
  obtain ⟨q, hq, h⟩ := List.mem_map.mp he
  exact List.mem_map.mpr ⟨q, hJ q (List.mem_range.mp hq), h⟩
theorem all_J : ∀ q, q < 137 → q ∈ I5 := by decide +kernel
set_option maxHeartbeats 4000000 in
set_option maxRecDepth 100000 in
theorem z_end {p : Program} {e : Env} {s : State} {m : MethodId} {below : List Frame} {meth : Method} {c : Code} (l : Launch) {b L : Nat} {xs : Nat → Int32} (hL : L ≤ 260) (C0 : lw_At p s m meth c b L xs) {D : va_G} {κ5 : KP} {cells slots : Nat} (hc : cells ≤ 10000) (hs : slots ≤ 10000) : Zj D RL code 19 p l e room_1 s m #[Value.ref b] below meth c (fun q => s.heap.size ≤ q) (lw_Z below #[Value.ref b] s) 8 [(1, .ref (κ5.1 130)), (0, .ref b)] [] ([] ++ pt κ5 I5) ([] ++ pty κ5 I5) cells slots := by
  intro C H locs ls hK hP hD hS hl
  obtain ⟨hx, hb, hr, hml, hown, hts, hX, hbl, hlocks, hgv⟩ := id C0
  obtain ⟨κ, kD, kb, kx, k5⟩ : ∃ κ : KP, κ.2.2 = D ∧ κ.1 158 = b ∧ (∀ j, κ.2.1 (3000000000 + j) = κ.2.1 1) ∧ ∀ q ∈ I5, κ5.1 q = κ.1 q ∧ κ5.2.1 q = κ.2.1 q := by
    refine ⟨(fun q => if q < 137 then κ5.1 q else b, fun q => if q < 137 then κ5.2.1 q else κ5.2.1 1, D), rfl, rfl, fun j => ?_, fun q hq => ?_⟩
    · show (if 3000000000 + j < 137 then κ5.2.1 (3000000000 + j) else κ5.2.1 1) = κ5.2.1 1
      rw [if_neg (by omega)]
    · have h1 : q < 137 := (by decide +kernel : ∀ q ∈ I5, q < 137) q hq
      exact ⟨(if_pos h1).symm, (if_pos h1).symm⟩
  subst kD
  rw [List.nil_append, pt_congr (by decide +kernel) k5] at hP hD
  rw [List.nil_append, pty_congr k5] at hK
  rw [(k5 130 (by decide +kernel)).1] at hl
  have hl32 : I32 ((L : Nat) : Int) := ⟨by omega, by omega⟩
  obtain ⟨r, M', h1, h2⟩ := law_M0 (Ls := L) (xs := xs) (fun _ _ => 0)
  have h2 : r = 1 := h2
  subst h2
  have hag : agr κ ls 19 (some (rv 158) :: some (rv 130) :: List.replicate 17 none) := agr_of hl (fun i v h => by
    match i, h with
    | 0, h => cases h; show (0, Value.ref (κ.1 158)) ∈ _; rw [kb]; simp
    | 1, h => cases h; show (1, Value.ref (κ.1 130)) ∈ _; simp
    | i + 2, h =>
      exfalso
      have h : (List.replicate 17 (none : Option AV))[i]? = some (some v) := h
      rw [List.getElem?_replicate] at h
      split at h <;> simp at h)
  refine t_L_law_8 L xs (by omega) hl32 2000 M0 (fun _ _ => 0) 10000 (1, M') h1 κ p l e room_1 s m #[Value.ref b] below meth c cells slots (fun q => s.heap.size ≤ q) (lw_Z below #[Value.ref b] s) ?_ ?_ H locs ls ?_ hag
  · refine ⟨C.1, C.2.1, C.2.2.1, C.2.2.2.1, C.2.2.2.2.1, Nat.le_of_ble_eq_true rfl, Nat.le_of_ble_eq_true rfl, Nat.le_of_ble_eq_true rfl, Nat.le_of_ble_eq_true rfl, va_K_mem hK (fun e he => ?_), C.2.2.2.2.2.1, ?_, va_Nw.of rfl (hts _ (List.mem_of_getElem? (i := 511) (by decide +kernel)))⟩
    · rcases List.mem_append.mp he with h | h
      · exact tys_of_pty all_J e h
      · obtain ⟨j, _, hj⟩ := List.mem_map.mp h
        subst hj
        rw [kx j]
        exact tys_of_pty all_J _ (List.mem_map.mpr ⟨1, by decide, rfl⟩)
    · intro L' xs' h
      cases h
      rw [kb]
      exact ⟨hX, hbl, Nat.not_le.mpr hbl⟩
  · intro H locs ls pc cells slots hS hc hs _ hd
    have e1 : Int32.ofInt 1 = 1 := by decide
    show W p l e room_1 s m #[Value.ref b] below meth c H locs cells slots (lw_Z below #[Value.ref b] s) (F0 m pc ls [.int (Int32.ofInt 1)])
    rw [e1]
    exact va_forget hS.2.2 (W.widen (Nat.le_trans hc (Nat.le_of_ble_eq_true rfl)) (Nat.le_trans hs (Nat.le_of_ble_eq_true rfl)) (lw_ret hx hb hr hlocks hd))
  · have e0 : cw κ M0 ++ exs κ (fun _ _ => 0) 0 = cw κ M0 := List.append_nil _
    exact ⟨by rw [e0]; exact cw_of_pt all_J hP, by rw [e0]; exact cwD_of_pt all_J hD, hS, hc, hs, Nat.le_of_ble_eq_true rfl⟩
set_option maxHeartbeats 4000000 in
set_option maxRecDepth 100000 in
/-- from the entry, for every script of at most 260 ints, the law comes to its end with true -/
theorem whole_start {p : Program} {e : Env} {s : State} {m : MethodId} {below : List Frame} {meth : Method} {c : Code} (l : Launch) (hflags : l.flags = flags0) {b L : Nat} {xs : Nat → Int32} (hL : L ≤ 260) (C0 : lw_At p s m meth c b L xs) : W p l e room_1 s m #[Value.ref b] below meth c s.heap [] 0 0 (lw_Z below #[Value.ref b] s) (entryFrame m ([Value.ref b] : List Value).toArray 19) := by
  obtain ⟨hx, hb, hr, hml, hown, hts, hX, hbl, hlocks, hgv⟩ := id C0
  have htg : ∀ w ∈ lw_g, w.before #[Value.ref b] s = true := fun w hw => hts w (List.mem_filter.mp hw).1
  obtain ⟨cl0, iS0, k0⟩ := u_known (C := RX0) (T := TX0) (N := 5) (n := 5) htg fw_X0 (htg _ in_X0)
  obtain ⟨cl1, iS1, k1⟩ := u_known (C := RX3) (T := TX3) (N := 8) (n := 8) htg fw_X3 (htg _ in_X3)
  obtain ⟨cl2, iS2, k2⟩ := u_known (C := RX4) (T := TX4) (N := 15) (n := 15) htg fw_X4 (htg _ in_X4)
  obtain ⟨cl3, iS3, k3⟩ := u_known (C := RX5) (T := TX5) (N := 13) (n := 13) htg fw_X5 (htg _ in_X5)
  obtain ⟨D, hKc⟩ : ∃ D : va_G, ∀ (k : Nat) (q : vw_C), kcl[k]? = some q → u_Kn s q.1 q.2.1 q.2.2 (D.1 k) (D.2 k) := by
    refine ⟨(fun k => if k = 0 then cl0 else if k = 1 then cl1 else if k = 2 then cl2 else cl3, fun k => if k = 0 then iS0 else if k = 1 then iS1 else if k = 2 then iS2 else iS3), ?_⟩
    intro k q hq
    match k, hq with
    | 0, hq => cases hq; exact k0
    | 1, hq => cases hq; exact k1
    | 2, hq => cases hq; exact k2
    | 3, hq => cases hq; exact k3
    | k + 4, hq => simp [kcl] at hq
  have hK : va_K D kcl [] s := ⟨hKc, fun k q h => by simp at h⟩
  have hP : va_P D kcl [] s.heap := fun k q h => by simp at h
  have hD : va_D (fun q : Nat => s.heap.size ≤ q) [] := ⟨fun i j p q h => by simp at h, fun k q h => by simp at h⟩
  have hN : NWA s := ⟨va_Nw.of rfl (hts _ (List.mem_of_getElem? (i := 37) (by decide +kernel))), va_Nw.of rfl (hts _ (List.mem_of_getElem? (i := 118) (by decide +kernel))), va_Nw.of rfl (hts _ (List.mem_of_getElem? (i := 123) (by decide +kernel))), va_AO.of (hts _ (List.mem_of_getElem? (i := 115) (by decide +kernel)))⟩
  have hl := lv_entry ([.ref b]) (n := 19) (Nat.le_of_ble_eq_true rfl)
  rw [lg_entry_eq]
  have hZ : Zj D RL code 19 p l e room_1 s m #[Value.ref b] below meth c (fun q => s.heap.size ≤ q) (lw_Z below #[Value.ref b] s) 0 [(0, .ref b)] [] [] [] 0 0 := by
    refine z_new (ci := 3) (ty0 := tyX5) (fs := [.null, .null, .int 0, .null, .int 0, .null, .int 0, .null, .int 0, .null, .null, .null, .null]) dL_law_0 rfl fw_X5 tyX5_ok (gm (i := 27) (by decide +kernel) rfl) in_X5 mi_X5.2.2.1 df_X5 (Nat.le_of_ble_eq_true rfl) (Nat.le_of_ble_eq_true rfl) (fun q => ?_)
    refine z_dup dL_law_3 ?_
    refine z_init (I := I5) (q0 := 130) dL_law_4 (i_X5 l) (gm (i := 29) (by decide +kernel) rfl) mi_X5.1 mi_X5.2.1 mi_X5.2.2.1 mi_X5.2.2.2.1 mi_X5.2.2.2.2 (Nat.le_of_ble_eq_true rfl) (Nat.le_of_ble_eq_true rfl) (by decide) (Nat.le_of_ble_eq_true rfl) (Nat.le_of_ble_eq_true rfl) (Nat.le_of_ble_eq_true rfl) (fun κ5 κ5D κ5q => ?_)
    subst κ5q
    refine z_astore (i := 1) (lv' := [(1, .ref (κ5.1 130)), (0, .ref b)]) dL_law_7 rfl (by decide) rfl ?_
    exact z_end l hL C0 (Nat.le_of_ble_eq_true rfl) (Nat.le_of_ble_eq_true rfl)
  exact hZ ⟨hx, hb, hml, hown, htg, fun _ h => h, hN⟩ s.heap [] _ hK hP hD va_S.rf hl
