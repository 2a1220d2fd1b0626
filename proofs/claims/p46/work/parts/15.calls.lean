def BT (κ : KP) (M M' : Mem) (sz : Nat) (t : State) : Prop := va_P κ.2.2 kcl (cw κ M') t.heap ∧ va_K κ.2.2 kcl (tys κ) t ∧ va_D (va_A (cw κ M) sz) (cw κ M')
/-- the law's script lies beside the world, where a method is told of it -/
def SX (sc : SC) (κ : KP) (M : Mem) (sz : Nat) (U : State) : Prop := ∀ L xs, sc = some (L, xs) → va_X (κ.1 158) L xs U U.heap ∧ κ.1 158 < sz ∧ ¬ va_A (cw κ M) sz (κ.1 158)
def PT (sc : SC) (κ : KP) (as : List AV) (M : Mem) (sz : Nat) : Array Value → State → Prop := va_Pc (as.map (cv κ)) (fun U => U.heap.size = sz ∧ va_P κ.2.2 kcl (cw κ M) U.heap ∧ va_K κ.2.2 kcl (tys κ) U ∧ va_D (fun _ => True) (cw κ M) ∧ NW U ∧ SX sc κ M sz U)
theorem PT_blind (sc : SC) (κ : KP) (as : List AV) (M : Mem) (sz : Nat) : FrameBlind (PT sc κ as M sz) := by
  intro a U g mk q
  obtain ⟨q0, q1, qP, qK, qD, qN, qX⟩ := q
  exact ⟨q0, q1, qP, va_K.moved (u := U) (U := U.calling g mk a) (Vm.Alike.refl U.vm) qK, qD, va_Nw.same rfl rfl qN, fun L xs h => ⟨va_X.moved (u := U) (U := U.calling g mk a) (Vm.Alike.refl U.vm) (qX L xs h).1, (qX L xs h).2⟩⟩
theorem sx_call {sc sc' : SC} {κ : KP} {s U : State} {A : Nat → Prop} {M : Mem} {H : Heap} {locs : List Loc} (hsc : ∀ x, sc' = some x → sc = some x) (h : ∀ L xs, sc = some (L, xs) → va_X (κ.1 158) L xs s s.heap ∧ κ.1 158 < s.heap.size ∧ ¬ A (κ.1 158)) (hD : va_D A (cw κ M)) (hS : va_S A s.heap H locs) (hU : U.heap = H) (hA : s.vm.Alike U.vm) : SX sc' κ M H.size U := by
  intro L xs hx
  obtain ⟨h1, h2, h3⟩ := h L xs (hsc _ hx)
  have h4 : κ.1 158 < H.size := Nat.lt_of_lt_of_le h2 hS.1
  refine ⟨?_, h4, ?_⟩
  · rw [hU]
    exact va_X.moved hA (h1.kept (hS.2.1 _ h2 h3))
  · rintro (⟨k, e, hk⟩ | h)
    · exact h3 (hD.2 k _ hk)
    · exact absurd h4 (Nat.not_lt.mpr h)
theorem gd_in {w : Cond} (h : w ∈ lw_g) : w ∈ lw_g ∧ ((w.onTables && w.keeps) = true ∨ ∃ ty, w = .arrayClass ty) := ⟨h, good_of_word (List.mem_filter.mp h).2⟩
theorem good_S {own : String} {index : Nat} {y : MethodName} {b : ByteArray} {n np : Nat} {ret : Option FieldType} (hS : SY y b n ret np) (hl : Cond.methodLink own index y ∈ lw_g) : GoodIn lw_g (va_wsS own index y (Cond.code y b n ret :: lw_g)) := by
  intro w hw
  apply gd_in
  unfold va_wsS at hw
  rcases List.mem_append.mp hw with h | h
  · rcases List.mem_cons.mp h with h | h
    · rw [h]; exact hl
    · rcases List.mem_cons.mp h with h | h
      · rw [h]; exact hS.2
      · rcases List.mem_cons.mp h with h | h
        · rw [h]; exact hS.1.1
        · cases h
  · rcases List.mem_cons.mp h with h | h
    · rw [h]; exact hS.1.2.1
    · exact h
theorem good_V {own : String} {index : Nat} {y : MethodName} {b : ByteArray} {n np : Nat} {ret : Option FieldType} (hS : VY y b n ret np) (hl : Cond.methodLink own index y ∈ lw_g) : GoodIn lw_g (wsV own index y.cls y (Cond.code y b n ret :: lw_g)) := by
  intro w hw
  apply gd_in
  unfold wsV at hw
  rcases List.mem_append.mp hw with h | h
  · rcases List.mem_cons.mp h with h | h
    · rw [h]; exact hl
    · rcases List.mem_cons.mp h with h | h
      · rw [h]; exact hS.2.1
      · rcases List.mem_cons.mp h with h | h
        · rw [h]; exact hS.2.2
        · rcases List.mem_cons.mp h with h | h
          · rw [h]; exact hS.1.1
          · cases h
  · rcases List.mem_cons.mp h with h | h
    · rw [h]; exact hS.1.2.1
    · exact h
theorem pic_free {κ : KP} {s : State} {A : Nat → Prop} {M : Mem} {H : Heap} {locs : List Loc} (hP : Pic κ s A M H locs) (hA : ∀ q, s.heap.size ≤ q → A q) : ∀ q, va_A (cw κ M) H.size q → A q := by
  rintro q (⟨k, e, hk⟩ | h)
  · exact hP.2.1.2 k _ hk
  · exact hA q (Nat.le_trans hP.2.2.1 h)
theorem pic_back {κ : KP} {s t : State} {A : Nat → Prop} {M M' : Mem} {H H1 : Heap} {locs locs1 : List Loc} (hP : Pic κ s A M H locs) (hB : BT κ M M' H.size t) (ht : t.heap = H1) (hS : va_S A s.heap H1 locs1) : Pic κ s A M' H1 locs1 := by
  refine ⟨by rw [← ht]; exact hB.1, ⟨hB.2.2.1, fun k q hk => ?_⟩, hS⟩
  obtain ⟨e', h1, h2⟩ := cw_fst κ M' M hk
  rw [← h2]
  exact hP.2.1.2 k e' h1
def CTi (sc : SC) (y : MethodName) (b : ByteArray) (n : Nat) (ret : Option FieldType) (d : Nat) (as : List AV) (M : Mem) (res : Int × Mem) : Prop := ∀ (κ : KP) (l : Launch) (sz : Nat), Met l y (Cond.code y b n ret :: lw_g) (rmd d) (PT sc κ as M sz) (va_Qi (fun (r : Int32) (_ : Unit) => r = Int32.ofInt res.1) (fun _ t => BT κ M res.2 sz t) (va_A (cw κ M) sz)) 0 0 (va_A (cw κ M) sz)
def CTl (sc : SC) (y : MethodName) (b : ByteArray) (n : Nat) (d : Nat) (as : List AV) (M : Mem) (res : Int × Mem) : Prop := ∀ (κ : KP) (l : Launch) (sz : Nat), Met l y (Cond.code y b n (some .long) :: lw_g) (rmd d) (PT sc κ as M sz) (va_Ql (fun (r : Int64) (_ : Unit) => r = Int64.ofInt res.1) (fun _ t => BT κ M res.2 sz t) (va_A (cw κ M) sz)) 0 0 (va_A (cw κ M) sz)
def CTv (sc : SC) (y : MethodName) (b : ByteArray) (n : Nat) (d : Nat) (as : List AV) (M : Mem) (res : Int × Mem) : Prop := ∀ (κ : KP) (l : Launch) (sz : Nat), Met l y (Cond.code y b n none :: lw_g) (rmd d) (PT sc κ as M sz) (va_Qv (fun (_ : Unit) => True) (fun _ t => BT κ M res.2 sz t) (va_A (cw κ M) sz)) 0 0 (va_A (cw κ M) sz)
section CALLS
variable {own : String} {cc : ByteArray} {nL d rk : Nat} {sc : SC} {pc : Nat} {L : List (Option AV)} {st : List AV} {M : Mem}
theorem y_callSi {index np d' n' : Nat} {sc' : SC} {y : MethodName} {b : ByteArray} {ret : Option FieldType} {as st1 : List AV} {o1 : Rs} {k : Int → Mem → Rs} (hS : SY y b n' ret np) (hlk : Cond.methodLink own index y ∈ lw_g) (hd : decode cc pc = .ok (.invokestatic index, 3)) (hc : ∀ r, o1 = some r → CTi sc' y b n' ret d' as M r) (hsc : ∀ x, sc' = some x → sc = some x) (hst : as.reverse ++ st = st1) (hnp : as.length = np) (hd' : d' + 1 ≤ d) (hn' : n' ≤ 15) (hcat : (st.map catA).sum ≤ 8) (kk : ∀ r M', o1 = some (r, M') → Y own cc nL d rk sc (pc + 3) L (iv r :: st) M' (k r M')) : Y own cc nL d rk sc pc L st1 M (bd o1 k) := by
  intro res ho κ p l eV R s m args below meth c cells slots A Fin hF hR H locs ls hP hl
  obtain ⟨x, h1, h2⟩ := bd_some ho
  subst hst
  have hts := hF.2.2.2.2.1
  have hK := hF.2.2.2.2.2.2.2.2.2.1
  have hM := hc x h1 κ l H.size
  have hfree := pic_free hP hF.2.2.2.2.2.2.2.2.2.2.1
  have hfr : (rmd d').frames + 1 ≤ R.frames := Nat.le_trans hd' hF.2.2.2.2.2.1
  have hlo : 8 + (n' + 11) + (rmd d').locals ≤ R.locals := Nat.le_trans (by show 8 + (n' + 11) + 34 * d' ≤ 34 * d; omega) hF.2.2.2.2.2.2.1
  have hcs : ((st.map (cv κ)).map fun v => v.category).sum ≤ 8 := by rw [cats_cv]; exact hcat
  have hM' := fun (U : State) (hU : U.heap = H) (hW : s.WarmedH U.vm) => (⟨rfl, by rw [hU], by rw [hU]; exact hP.1, va_K.moved hW.alike hK, hP.2.1.weaken (fun _ _ _ _ => trivial), va_Nw.warmM hW hF.2.2.2.2.2.2.2.2.2.2.2.2, sx_call hsc hF.2.2.2.2.2.2.2.2.2.2.2.1 hP.2.1 hP.2.2 hU hW.alike⟩ : PT sc' κ as M H.size (as.map (cv κ)).toArray U)
  refine va_calli (va_runS (As := as.map (cv κ)) (rest := st.map (cv κ)) ⟨hF.1, hF.2.1, hF.2.2.1, hF.2.2.2.1, hts⟩ hM (va_cwS np hts (good_S hS hlk) rfl rfl rfl ⟨hS.1.2.2.1, hS.1.2.2.2.1, hS.1.2.2.2.2⟩ ⟨hfr, hlo⟩) ⟨PT_blind sc' κ _ M H.size, hM'⟩ rfl (by rw [List.length_map]; exact hnp) hl.1 (by rw [← List.map_reverse]; exact List.map_append) (lv_room hcs) hd ⟨hF.2.2.2.2.2.2.2.1, hF.2.2.2.2.2.2.2.2.1⟩) hP.2.2 (fun q _ h => hfree q h) hfree (fun r u t H1 locs1 ht hvm hw hB hz1 hk1 hS1 => ?_)
  rw [hw]
  exact kk x.1 x.2 h1 res h2 κ p l eV R s m args below meth c cells slots A Fin hF hR H1 locs1 ls (pic_back hP hB ht hS1) hl
theorem y_callSl {index np d' n' : Nat} {sc' : SC} {y : MethodName} {b : ByteArray} {as st1 : List AV} {o1 : Rs} {k : Int → Mem → Rs} (hS : SY y b n' (some .long) np) (hlk : Cond.methodLink own index y ∈ lw_g) (hd : decode cc pc = .ok (.invokestatic index, 3)) (hc : ∀ r, o1 = some r → CTl sc' y b n' d' as M r) (hsc : ∀ x, sc' = some x → sc = some x) (hst : as.reverse ++ st = st1) (hnp : as.length = np) (hd' : d' + 1 ≤ d) (hn' : n' ≤ 15) (hcat : (st.map catA).sum ≤ 8) (kk : ∀ r M', o1 = some (r, M') → Y own cc nL d rk sc (pc + 3) L (jv r :: st) M' (k r M')) : Y own cc nL d rk sc pc L st1 M (bd o1 k) := by
  intro res ho κ p l eV R s m args below meth c cells slots A Fin hF hR H locs ls hP hl
  obtain ⟨x, h1, h2⟩ := bd_some ho
  subst hst
  have hts := hF.2.2.2.2.1
  have hK := hF.2.2.2.2.2.2.2.2.2.1
  have hM := hc x h1 κ l H.size
  have hfree := pic_free hP hF.2.2.2.2.2.2.2.2.2.2.1
  have hfr : (rmd d').frames + 1 ≤ R.frames := Nat.le_trans hd' hF.2.2.2.2.2.1
  have hlo : 8 + (n' + 11) + (rmd d').locals ≤ R.locals := Nat.le_trans (by show 8 + (n' + 11) + 34 * d' ≤ 34 * d; omega) hF.2.2.2.2.2.2.1
  have hcs : ((st.map (cv κ)).map fun v => v.category).sum ≤ 8 := by rw [cats_cv]; exact hcat
  have hM' := fun (U : State) (hU : U.heap = H) (hW : s.WarmedH U.vm) => (⟨rfl, by rw [hU], by rw [hU]; exact hP.1, va_K.moved hW.alike hK, hP.2.1.weaken (fun _ _ _ _ => trivial), va_Nw.warmM hW hF.2.2.2.2.2.2.2.2.2.2.2.2, sx_call hsc hF.2.2.2.2.2.2.2.2.2.2.2.1 hP.2.1 hP.2.2 hU hW.alike⟩ : PT sc' κ as M H.size (as.map (cv κ)).toArray U)
  refine va_calll (va_runS (As := as.map (cv κ)) (rest := st.map (cv κ)) ⟨hF.1, hF.2.1, hF.2.2.1, hF.2.2.2.1, hts⟩ hM (va_cwS np hts (good_S hS hlk) rfl rfl rfl ⟨hS.1.2.2.1, hS.1.2.2.2.1, hS.1.2.2.2.2⟩ ⟨hfr, hlo⟩) ⟨PT_blind sc' κ _ M H.size, hM'⟩ rfl (by rw [List.length_map]; exact hnp) hl.1 (by rw [← List.map_reverse]; exact List.map_append) (lv_room hcs) hd ⟨hF.2.2.2.2.2.2.2.1, hF.2.2.2.2.2.2.2.2.1⟩) hP.2.2 (fun q _ h => hfree q h) hfree (fun r u t H1 locs1 ht hvm hw hB hz1 hk1 hS1 => ?_)
  rw [hw]
  exact kk x.1 x.2 h1 res h2 κ p l eV R s m args below meth c cells slots A Fin hF hR H1 locs1 ls (pic_back hP hB ht hS1) hl
theorem y_callSv {index np d' n' : Nat} {sc' : SC} {y : MethodName} {b : ByteArray} {as st1 : List AV} {o1 : Rs} {k : Mem → Rs} (hS : SY y b n' none np) (hlk : Cond.methodLink own index y ∈ lw_g) (hd : decode cc pc = .ok (.invokestatic index, 3)) (hc : ∀ r, o1 = some r → CTv sc' y b n' d' as M r) (hsc : ∀ x, sc' = some x → sc = some x) (hst : as.reverse ++ st = st1) (hnp : as.length = np) (hd' : d' + 1 ≤ d) (hn' : n' ≤ 15) (hcat : (st.map catA).sum ≤ 8) (kk : ∀ r M', o1 = some (r, M') → Y own cc nL d rk sc (pc + 3) L st M' (k M')) : Y own cc nL d rk sc pc L st1 M (bd o1 (fun _ => k)) := by
  intro res ho κ p l eV R s m args below meth c cells slots A Fin hF hR H locs ls hP hl
  obtain ⟨x, h1, h2⟩ := bd_some ho
  subst hst
  have hts := hF.2.2.2.2.1
  have hK := hF.2.2.2.2.2.2.2.2.2.1
  have hM := hc x h1 κ l H.size
  have hfree := pic_free hP hF.2.2.2.2.2.2.2.2.2.2.1
  have hfr : (rmd d').frames + 1 ≤ R.frames := Nat.le_trans hd' hF.2.2.2.2.2.1
  have hlo : 8 + (n' + 11) + (rmd d').locals ≤ R.locals := Nat.le_trans (by show 8 + (n' + 11) + 34 * d' ≤ 34 * d; omega) hF.2.2.2.2.2.2.1
  have hcs : ((st.map (cv κ)).map fun v => v.category).sum ≤ 8 := by rw [cats_cv]; exact hcat
  have hM' := fun (U : State) (hU : U.heap = H) (hW : s.WarmedH U.vm) => (⟨rfl, by rw [hU], by rw [hU]; exact hP.1, va_K.moved hW.alike hK, hP.2.1.weaken (fun _ _ _ _ => trivial), va_Nw.warmM hW hF.2.2.2.2.2.2.2.2.2.2.2.2, sx_call hsc hF.2.2.2.2.2.2.2.2.2.2.2.1 hP.2.1 hP.2.2 hU hW.alike⟩ : PT sc' κ as M H.size (as.map (cv κ)).toArray U)
  refine va_callv (va_runS (As := as.map (cv κ)) (rest := st.map (cv κ)) ⟨hF.1, hF.2.1, hF.2.2.1, hF.2.2.2.1, hts⟩ hM (va_cwS np hts (good_S hS hlk) rfl rfl rfl ⟨hS.1.2.2.1, hS.1.2.2.2.1, hS.1.2.2.2.2⟩ ⟨hfr, hlo⟩) ⟨PT_blind sc' κ _ M H.size, hM'⟩ rfl (by rw [List.length_map]; exact hnp) hl.1 (by rw [← List.map_reverse]; exact List.map_append) (lv_room hcs) hd ⟨hF.2.2.2.2.2.2.2.1, hF.2.2.2.2.2.2.2.2.1⟩) hP.2.2 (fun q _ h => hfree q h) hfree (fun u t H1 locs1 ht hvm hw hB hz1 hk1 hS1 => ?_)
  exact kk x.1 x.2 h1 res h2 κ p l eV R s m args below meth c cells slots A Fin hF hR H1 locs1 ls (pic_back hP hB ht hS1) hl
/-- place q holds an object of the class C -/
def RC (C : String) (q : Nat) : Prop := ∃ (ci : Nat) (fl : List (Nat ⊕ Nat)) (T : u_T) (N : Nat), ob q = some (ci, fl) ∧ kcl[ci]? = some (C, T, N)
theorem y_callVi {index np d' n' : Nat} {sc' : SC} {q : Nat} {y : MethodName} {b : ByteArray} {ret : Option FieldType} {as st1 : List AV} {o1 : Rs} {k : Int → Mem → Rs} (hS : VY y b n' ret np) (hlk : Cond.methodLink own index y ∈ lw_g) (hd : decode cc pc = .ok (.invokevirtual index, 3)) (hc : ∀ r, o1 = some r → CTi sc' y b n' ret d' (rv q :: as) M r) (hsc : ∀ x, sc' = some x → sc = some x) (hst : as.reverse ++ rv q :: st = st1) (hrv : RC y.cls q) (hnp : as.length = np) (hd' : d' + 1 ≤ d) (hn' : n' ≤ 15) (hcat : (st.map catA).sum ≤ 8) (kk : ∀ r M', o1 = some (r, M') → Y own cc nL d rk sc (pc + 3) L (iv r :: st) M' (k r M')) : Y own cc nL d rk sc pc L st1 M (bd o1 k) := by
  intro res ho κ p l eV R s m args below meth c cells slots A Fin hF hR H locs ls hP hl
  obtain ⟨x, h1, h2⟩ := bd_some ho
  subst hst
  have hts := hF.2.2.2.2.1
  have hK := hF.2.2.2.2.2.2.2.2.2.1
  have hM := hc x h1 κ l H.size
  have hfree := pic_free hP hF.2.2.2.2.2.2.2.2.2.2.1
  have hfr : (rmd d').frames + 1 ≤ R.frames := Nat.le_trans hd' hF.2.2.2.2.2.1
  have hlo : 8 + (n' + 11) + (rmd d').locals ≤ R.locals := Nat.le_trans (by show 8 + (n' + 11) + 34 * d' ≤ 34 * d; omega) hF.2.2.2.2.2.2.1
  have hcs : ((st.map (cv κ)).map fun v => v.category).sum ≤ 8 := by rw [cats_cv]; exact hcat
  obtain ⟨ci, fl, T, N, hob, hkc⟩ := hrv
  have hrc := va_recv hK hP.1 (ci := ci) (q0 := q) hkc ((cw_at κ M (ob_lt hob)).trans (by rw [cell_ob κ hob]))
  have hM' := fun (U : State) (hU : U.heap = H) (hW : s.WarmedH U.vm) => (⟨rfl, by rw [hU], by rw [hU]; exact hP.1, va_K.moved hW.alike hK, hP.2.1.weaken (fun _ _ _ _ => trivial), va_Nw.warmM hW hF.2.2.2.2.2.2.2.2.2.2.2.2, sx_call hsc hF.2.2.2.2.2.2.2.2.2.2.2.1 hP.2.1 hP.2.2 hU hW.alike⟩ : PT sc' κ (rv q :: as) M H.size ((rv q :: as).map (cv κ)).toArray U)
  refine va_calli (va_runV (C := y.cls) (b := κ.1 q) (As := as.map (cv κ)) (rest := st.map (cv κ)) ⟨hF.1, hF.2.1, hF.2.2.1, hF.2.2.2.1, hts⟩ hM (cwV np hts (good_V hS hlk) rfl rfl rfl ⟨rfl, hS.1.2.2.1, hS.1.2.2.2.1, hS.1.2.2.2.2⟩ ⟨hfr, hlo⟩) ⟨PT_blind sc' κ _ M H.size, hrc, hM'⟩ rfl (by rw [List.length_map]; exact hnp) hl.1 (by rw [← List.map_reverse]; exact List.map_append) (lv_room hcs) hd ⟨hF.2.2.2.2.2.2.2.1, hF.2.2.2.2.2.2.2.2.1⟩) hP.2.2 (fun q _ h => hfree q h) hfree (fun r u t H1 locs1 ht hvm hw hB hz1 hk1 hS1 => ?_)
  rw [hw]
  exact kk x.1 x.2 h1 res h2 κ p l eV R s m args below meth c cells slots A Fin hF hR H1 locs1 ls (pic_back hP hB ht hS1) hl
theorem y_callVl {index np d' n' : Nat} {sc' : SC} {q : Nat} {y : MethodName} {b : ByteArray} {as st1 : List AV} {o1 : Rs} {k : Int → Mem → Rs} (hS : VY y b n' (some .long) np) (hlk : Cond.methodLink own index y ∈ lw_g) (hd : decode cc pc = .ok (.invokevirtual index, 3)) (hc : ∀ r, o1 = some r → CTl sc' y b n' d' (rv q :: as) M r) (hsc : ∀ x, sc' = some x → sc = some x) (hst : as.reverse ++ rv q :: st = st1) (hrv : RC y.cls q) (hnp : as.length = np) (hd' : d' + 1 ≤ d) (hn' : n' ≤ 15) (hcat : (st.map catA).sum ≤ 8) (kk : ∀ r M', o1 = some (r, M') → Y own cc nL d rk sc (pc + 3) L (jv r :: st) M' (k r M')) : Y own cc nL d rk sc pc L st1 M (bd o1 k) := by
  intro res ho κ p l eV R s m args below meth c cells slots A Fin hF hR H locs ls hP hl
  obtain ⟨x, h1, h2⟩ := bd_some ho
  subst hst
  have hts := hF.2.2.2.2.1
  have hK := hF.2.2.2.2.2.2.2.2.2.1
  have hM := hc x h1 κ l H.size
  have hfree := pic_free hP hF.2.2.2.2.2.2.2.2.2.2.1
  have hfr : (rmd d').frames + 1 ≤ R.frames := Nat.le_trans hd' hF.2.2.2.2.2.1
  have hlo : 8 + (n' + 11) + (rmd d').locals ≤ R.locals := Nat.le_trans (by show 8 + (n' + 11) + 34 * d' ≤ 34 * d; omega) hF.2.2.2.2.2.2.1
  have hcs : ((st.map (cv κ)).map fun v => v.category).sum ≤ 8 := by rw [cats_cv]; exact hcat
  obtain ⟨ci, fl, T, N, hob, hkc⟩ := hrv
  have hrc := va_recv hK hP.1 (ci := ci) (q0 := q) hkc ((cw_at κ M (ob_lt hob)).trans (by rw [cell_ob κ hob]))
  have hM' := fun (U : State) (hU : U.heap = H) (hW : s.WarmedH U.vm) => (⟨rfl, by rw [hU], by rw [hU]; exact hP.1, va_K.moved hW.alike hK, hP.2.1.weaken (fun _ _ _ _ => trivial), va_Nw.warmM hW hF.2.2.2.2.2.2.2.2.2.2.2.2, sx_call hsc hF.2.2.2.2.2.2.2.2.2.2.2.1 hP.2.1 hP.2.2 hU hW.alike⟩ : PT sc' κ (rv q :: as) M H.size ((rv q :: as).map (cv κ)).toArray U)
  refine va_calll (va_runV (C := y.cls) (b := κ.1 q) (As := as.map (cv κ)) (rest := st.map (cv κ)) ⟨hF.1, hF.2.1, hF.2.2.1, hF.2.2.2.1, hts⟩ hM (cwV np hts (good_V hS hlk) rfl rfl rfl ⟨rfl, hS.1.2.2.1, hS.1.2.2.2.1, hS.1.2.2.2.2⟩ ⟨hfr, hlo⟩) ⟨PT_blind sc' κ _ M H.size, hrc, hM'⟩ rfl (by rw [List.length_map]; exact hnp) hl.1 (by rw [← List.map_reverse]; exact List.map_append) (lv_room hcs) hd ⟨hF.2.2.2.2.2.2.2.1, hF.2.2.2.2.2.2.2.2.1⟩) hP.2.2 (fun q _ h => hfree q h) hfree (fun r u t H1 locs1 ht hvm hw hB hz1 hk1 hS1 => ?_)
  rw [hw]
  exact kk x.1 x.2 h1 res h2 κ p l eV R s m args below meth c cells slots A Fin hF hR H1 locs1 ls (pic_back hP hB ht hS1) hl
theorem y_callVv {index np d' n' : Nat} {sc' : SC} {q : Nat} {y : MethodName} {b : ByteArray} {as st1 : List AV} {o1 : Rs} {k : Mem → Rs} (hS : VY y b n' none np) (hlk : Cond.methodLink own index y ∈ lw_g) (hd : decode cc pc = .ok (.invokevirtual index, 3)) (hc : ∀ r, o1 = some r → CTv sc' y b n' d' (rv q :: as) M r) (hsc : ∀ x, sc' = some x → sc = some x) (hst : as.reverse ++ rv q :: st = st1) (hrv : RC y.cls q) (hnp : as.length = np) (hd' : d' + 1 ≤ d) (hn' : n' ≤ 15) (hcat : (st.map catA).sum ≤ 8) (kk : ∀ r M', o1 = some (r, M') → Y own cc nL d rk sc (pc + 3) L st M' (k M')) : Y own cc nL d rk sc pc L st1 M (bd o1 (fun _ => k)) := by
  intro res ho κ p l eV R s m args below meth c cells slots A Fin hF hR H locs ls hP hl
  obtain ⟨x, h1, h2⟩ := bd_some ho
  subst hst
  have hts := hF.2.2.2.2.1
  have hK := hF.2.2.2.2.2.2.2.2.2.1
  have hM := hc x h1 κ l H.size
  have hfree := pic_free hP hF.2.2.2.2.2.2.2.2.2.2.1
  have hfr : (rmd d').frames + 1 ≤ R.frames := Nat.le_trans hd' hF.2.2.2.2.2.1
  have hlo : 8 + (n' + 11) + (rmd d').locals ≤ R.locals := Nat.le_trans (by show 8 + (n' + 11) + 34 * d' ≤ 34 * d; omega) hF.2.2.2.2.2.2.1
  have hcs : ((st.map (cv κ)).map fun v => v.category).sum ≤ 8 := by rw [cats_cv]; exact hcat
  obtain ⟨ci, fl, T, N, hob, hkc⟩ := hrv
  have hrc := va_recv hK hP.1 (ci := ci) (q0 := q) hkc ((cw_at κ M (ob_lt hob)).trans (by rw [cell_ob κ hob]))
  have hM' := fun (U : State) (hU : U.heap = H) (hW : s.WarmedH U.vm) => (⟨rfl, by rw [hU], by rw [hU]; exact hP.1, va_K.moved hW.alike hK, hP.2.1.weaken (fun _ _ _ _ => trivial), va_Nw.warmM hW hF.2.2.2.2.2.2.2.2.2.2.2.2, sx_call hsc hF.2.2.2.2.2.2.2.2.2.2.2.1 hP.2.1 hP.2.2 hU hW.alike⟩ : PT sc' κ (rv q :: as) M H.size ((rv q :: as).map (cv κ)).toArray U)
  refine va_callv (va_runV (C := y.cls) (b := κ.1 q) (As := as.map (cv κ)) (rest := st.map (cv κ)) ⟨hF.1, hF.2.1, hF.2.2.1, hF.2.2.2.1, hts⟩ hM (cwV np hts (good_V hS hlk) rfl rfl rfl ⟨rfl, hS.1.2.2.1, hS.1.2.2.2.1, hS.1.2.2.2.2⟩ ⟨hfr, hlo⟩) ⟨PT_blind sc' κ _ M H.size, hrc, hM'⟩ rfl (by rw [List.length_map]; exact hnp) hl.1 (by rw [← List.map_reverse]; exact List.map_append) (lv_room hcs) hd ⟨hF.2.2.2.2.2.2.2.1, hF.2.2.2.2.2.2.2.2.1⟩) hP.2.2 (fun q _ h => hfree q h) hfree (fun u t H1 locs1 ht hvm hw hB hz1 hk1 hS1 => ?_)
  exact kk x.1 x.2 h1 res h2 κ p l eV R s m args below meth c cells slots A Fin hF hR H1 locs1 ls (pic_back hP hB ht hS1) hl
theorem y_callNi {index np d' n' : Nat} {sc' : SC} {y : MethodName} {b : ByteArray} {ret : Option FieldType} {as st1 : List AV} {o1 : Rs} {k : Int → Mem → Rs} (hS : SY y b n' ret np) (hlk : Cond.methodLinkNest RX4 64 yX5_isCell RX5 = Cond.methodLinkNest own index y RX5) (hd : decode cc pc = .ok (.invokestatic index, 3)) (hc : ∀ r, o1 = some r → CTi sc' y b n' ret d' as M r) (hsc : ∀ x, sc' = some x → sc = some x) (hst : as.reverse ++ st = st1) (hnp : as.length = np) (hd' : d' + 1 ≤ d) (hn' : n' ≤ 15) (hcat : (st.map catA).sum ≤ 8) (kk : ∀ r M', o1 = some (r, M') → Y own cc nL d rk sc (pc + 3) L (iv r :: st) M' (k r M')) : Y own cc nL d rk sc pc L st1 M (bd o1 k) := by
  intro res ho κ p l eV R s m args below meth c cells slots A Fin hF hR H locs ls hP hl
  obtain ⟨x, h1, h2⟩ := bd_some ho
  subst hst
  have hts := hF.2.2.2.2.1
  have hK := hF.2.2.2.2.2.2.2.2.2.1
  have hM := hc x h1 κ l H.size
  have hfree := pic_free hP hF.2.2.2.2.2.2.2.2.2.2.1
  have hfr : (rmd d').frames + 1 ≤ R.frames := Nat.le_trans hd' hF.2.2.2.2.2.1
  have hlo : 8 + (n' + 11) + (rmd d').locals ≤ R.locals := Nat.le_trans (by show 8 + (n' + 11) + 34 * d' ≤ 34 * d; omega) hF.2.2.2.2.2.2.1
  have hcs : ((st.map (cv κ)).map fun v => v.category).sum ≤ 8 := by rw [cats_cv]; exact hcat
  have hM' := fun (U : State) (hU : U.heap = H) (hW : s.WarmedH U.vm) => (⟨rfl, by rw [hU], by rw [hU]; exact hP.1, va_K.moved hW.alike hK, hP.2.1.weaken (fun _ _ _ _ => trivial), va_Nw.warmM hW hF.2.2.2.2.2.2.2.2.2.2.2.2, sx_call hsc hF.2.2.2.2.2.2.2.2.2.2.2.1 hP.2.1 hP.2.2 hU hW.alike⟩ : PT sc' κ as M H.size (as.map (cv κ)).toArray U)
  refine va_calli (va_runSN (As := as.map (cv κ)) (rest := st.map (cv κ)) ⟨hF.1, hF.2.1, hF.2.2.1, hF.2.2.2.1, hts⟩ hM ⟨va_cnB (host := RX5) np hts (fun w hw => by rcases List.mem_cons.mp hw with h | h <;> first | (subst h; exact gd_in hS.1.2.1) | exact gd_in h) rfl rfl rfl (hlk ▸ hF.2.2.2.2.2.2.2.2.2.2.2.2) (hts _ hS.1.1) ⟨hS.1.2.2.1, hS.1.2.2.2.1, hS.1.2.2.2.2⟩ ⟨hfr, hlo⟩, hts _ hS.2, trivial⟩ ⟨PT_blind sc' κ _ M H.size, hM'⟩ rfl (by rw [List.length_map]; exact hnp) hl.1 (by rw [← List.map_reverse]; exact List.map_append) (lv_room hcs) hd ⟨hF.2.2.2.2.2.2.2.1, hF.2.2.2.2.2.2.2.2.1⟩) hP.2.2 (fun q _ h => hfree q h) hfree (fun r u t H1 locs1 ht hvm hw hB hz1 hk1 hS1 => ?_)
  rw [hw]
  exact kk x.1 x.2 h1 res h2 κ p l eV R s m args below meth c cells slots A Fin hF hR H1 locs1 ls (pic_back hP hB ht hS1) hl
end CALLS
theorem CTi_of {sc : SC} {own : String} {y : MethodName} {b : ByteArray} {n d : Nat} {as : List AV} {L0 : List (Option AV)} {M : Mem} {o : Rs} (hp : plainName y.cls = true) (hc : y.cls = own) (hn : (la as).length ≤ n) (hL : la as ++ List.replicate (n - (la as).length) none = L0) (hY : Y own b n d 0 sc 0 L0 [] M o) (res : Int × Mem) (ho : o = some res) : CTi sc y b n (some .int) d as M res := by
  intro κ l sz
  refine Met.ofW (cc := b) (maxL := n) (ret := (some .int)) hp rfl ?_
  intro p eV s m args below meth c s₁ B hml hv
  obtain ⟨rfl, hsz, hP, hK, hD0, hN, hX⟩ := hv
  have hx := B.exec
  have hb := B.bytes
  have hr := B.returns
  have hts := atoms_spec (ws := Cond.code y b n (some .int) :: lw_g) B.pre
  have hown := findClass_of_methodNamed B.named
  have hlocks := B.notSynchronized
  subst hsz
  have hD := hD0.self (sz := s.heap.size)
  rw [lg_entry_eq]
  have hl := agr_entry κ as hn hL
  have hF : Fx own b n d sc κ p (headSpec (Cond.code y b n (some .int) :: lw_g) (rmd d)).room s m (as.map (cv κ)).toArray c 0 0 (va_A (cw κ M) s.heap.size) := ⟨hx, hb, hml, hc ▸ hown, fun w hw => hts w (List.mem_cons_of_mem _ hw), Nat.le_refl _, Nat.le_refl _, Nat.le_refl _, Nat.le_refl _, hK, fun q h => Or.inr h, hX, hN⟩
  refine hY res ho κ p l eV _ s m _ below meth c 0 0 (va_A (cw κ M) s.heap.size) _ hF ?_ s.heap [] _ ⟨hP, hD, va_S.rf⟩ hl
  intro H locs ls pc hP
  exact ⟨fun _ hd => W.iret (v := Int32.ofInt res.1) hx hb hr (fun t ht hW => ⟨⟨_, (), rfl, rfl, ⟨by rw [ht]; exact hP.1, va_K.moved hW.alike hK, hP.2.1⟩⟩, hP.2.2.F ht⟩) hP.2.2.2.2 hd, fun h => absurd h (by decide), fun h => absurd h (by decide)⟩
theorem CTz_of {sc : SC} {own : String} {y : MethodName} {b : ByteArray} {n d : Nat} {as : List AV} {L0 : List (Option AV)} {M : Mem} {o : Rs} (hp : plainName y.cls = true) (hc : y.cls = own) (hn : (la as).length ≤ n) (hL : la as ++ List.replicate (n - (la as).length) none = L0) (hY : Y own b n d 1 sc 0 L0 [] M o) (res : Int × Mem) (ho : o = some res) : CTi sc y b n (some .boolean) d as M res := by
  intro κ l sz
  refine Met.ofW (cc := b) (maxL := n) (ret := (some .boolean)) hp rfl ?_
  intro p eV s m args below meth c s₁ B hml hv
  obtain ⟨rfl, hsz, hP, hK, hD0, hN, hX⟩ := hv
  have hx := B.exec
  have hb := B.bytes
  have hr := B.returns
  have hts := atoms_spec (ws := Cond.code y b n (some .boolean) :: lw_g) B.pre
  have hown := findClass_of_methodNamed B.named
  have hlocks := B.notSynchronized
  subst hsz
  have hD := hD0.self (sz := s.heap.size)
  rw [lg_entry_eq]
  have hl := agr_entry κ as hn hL
  have hF : Fx own b n d sc κ p (headSpec (Cond.code y b n (some .boolean) :: lw_g) (rmd d)).room s m (as.map (cv κ)).toArray c 0 0 (va_A (cw κ M) s.heap.size) := ⟨hx, hb, hml, hc ▸ hown, fun w hw => hts w (List.mem_cons_of_mem _ hw), Nat.le_refl _, Nat.le_refl _, Nat.le_refl _, Nat.le_refl _, hK, fun q h => Or.inr h, hX, hN⟩
  refine hY res ho κ p l eV _ s m _ below meth c 0 0 (va_A (cw κ M) s.heap.size) _ hF ?_ s.heap [] _ ⟨hP, hD, va_S.rf⟩ hl
  intro H locs ls pc hP
  exact ⟨fun h01 hd => W.zret (v := Int32.ofInt res.1) hx hb hr (by rcases h01 with h | ⟨_, h | h⟩ <;> first | (cases h; done) | (rw [h]; rfl)) (fun t ht hW => ⟨⟨_, (), rfl, rfl, ⟨by rw [ht]; exact hP.1, va_K.moved hW.alike hK, hP.2.1⟩⟩, hP.2.2.F ht⟩) hP.2.2.2.2 hd, fun h => absurd h (by decide), fun h => absurd h (by decide)⟩
theorem CTl_of {sc : SC} {own : String} {y : MethodName} {b : ByteArray} {n d : Nat} {as : List AV} {L0 : List (Option AV)} {M : Mem} {o : Rs} (hp : plainName y.cls = true) (hc : y.cls = own) (hn : (la as).length ≤ n) (hL : la as ++ List.replicate (n - (la as).length) none = L0) (hY : Y own b n d 2 sc 0 L0 [] M o) (res : Int × Mem) (ho : o = some res) : CTl sc y b n d as M res := by
  intro κ l sz
  refine Met.ofW (cc := b) (maxL := n) (ret := (some .long)) hp rfl ?_
  intro p eV s m args below meth c s₁ B hml hv
  obtain ⟨rfl, hsz, hP, hK, hD0, hN, hX⟩ := hv
  have hx := B.exec
  have hb := B.bytes
  have hr := B.returns
  have hts := atoms_spec (ws := Cond.code y b n (some .long) :: lw_g) B.pre
  have hown := findClass_of_methodNamed B.named
  have hlocks := B.notSynchronized
  subst hsz
  have hD := hD0.self (sz := s.heap.size)
  rw [lg_entry_eq]
  have hl := agr_entry κ as hn hL
  have hF : Fx own b n d sc κ p (headSpec (Cond.code y b n (some .long) :: lw_g) (rmd d)).room s m (as.map (cv κ)).toArray c 0 0 (va_A (cw κ M) s.heap.size) := ⟨hx, hb, hml, hc ▸ hown, fun w hw => hts w (List.mem_cons_of_mem _ hw), Nat.le_refl _, Nat.le_refl _, Nat.le_refl _, Nat.le_refl _, hK, fun q h => Or.inr h, hX, hN⟩
  refine hY res ho κ p l eV _ s m _ below meth c 0 0 (va_A (cw κ M) s.heap.size) _ hF ?_ s.heap [] _ ⟨hP, hD, va_S.rf⟩ hl
  intro H locs ls pc hP
  exact ⟨fun h01 _ => (by rcases h01 with h | ⟨h, _⟩ <;> cases h), fun _ hd => W.lret (v := Int64.ofInt res.1) hx hb hr (fun t ht hW => ⟨⟨_, (), rfl, rfl, ⟨by rw [ht]; exact hP.1, va_K.moved hW.alike hK, hP.2.1⟩⟩, hP.2.2.F ht⟩) hP.2.2.2.2 hd, fun h => absurd h (by decide)⟩
theorem CTv_of {sc : SC} {own : String} {y : MethodName} {b : ByteArray} {n d : Nat} {as : List AV} {L0 : List (Option AV)} {M : Mem} {o : Rs} (hp : plainName y.cls = true) (hc : y.cls = own) (hn : (la as).length ≤ n) (hL : la as ++ List.replicate (n - (la as).length) none = L0) (hY : Y own b n d 3 sc 0 L0 [] M o) (res : Int × Mem) (ho : o = some res) : CTv sc y b n d as M res := by
  intro κ l sz
  refine Met.ofW (cc := b) (maxL := n) (ret := none) hp rfl ?_
  intro p eV s m args below meth c s₁ B hml hv
  obtain ⟨rfl, hsz, hP, hK, hD0, hN, hX⟩ := hv
  have hx := B.exec
  have hb := B.bytes
  have hr := B.returns
  have hts := atoms_spec (ws := Cond.code y b n none :: lw_g) B.pre
  have hown := findClass_of_methodNamed B.named
  have hlocks := B.notSynchronized
  subst hsz
  have hD := hD0.self (sz := s.heap.size)
  rw [lg_entry_eq]
  have hl := agr_entry κ as hn hL
  have hF : Fx own b n d sc κ p (headSpec (Cond.code y b n none :: lw_g) (rmd d)).room s m (as.map (cv κ)).toArray c 0 0 (va_A (cw κ M) s.heap.size) := ⟨hx, hb, hml, hc ▸ hown, fun w hw => hts w (List.mem_cons_of_mem _ hw), Nat.le_refl _, Nat.le_refl _, Nat.le_refl _, Nat.le_refl _, hK, fun q h => Or.inr h, hX, hN⟩
  refine hY res ho κ p l eV _ s m _ below meth c 0 0 (va_A (cw κ M) s.heap.size) _ hF ?_ s.heap [] _ ⟨hP, hD, va_S.rf⟩ hl
  intro H locs ls pc hP
  exact ⟨fun h01 _ => (by rcases h01 with h | ⟨h, _⟩ <;> cases h), fun h => absurd h (by decide), fun _ hd => W.vret hx hb hr (fun t ht hW => ⟨⟨(), rfl, trivial, ⟨by rw [ht]; exact hP.1, va_K.moved hW.alike hK, hP.2.1⟩⟩, hP.2.2.F ht⟩) hP.2.2.2.2 hd⟩
