section LCALLS
variable {own : String} {cc : ByteArray} {nL d rk : Nat} {sc : SC} {pc : Nat} {L : List (Option AV)} {st : List AV} {M E : Mem} {nx u : Nat}
theorem x_callSi {index np d' n' : Nat} {sc' : SC} {y : MethodName} {b : ByteArray} {ret : Option FieldType} {as st1 : List AV} {o1 : Rs} {k : Int → Mem → Rs} (hS : SY y b n' ret np) (hlk : Cond.methodLink own index y ∈ lw_g) (hd : decode cc pc = .ok (.invokestatic index, 3)) (hc : ∀ r, o1 = some r → CTi sc' y b n' ret d' as M r) (hsc : ∀ x, sc' = some x → sc = some x) (hst : as.reverse ++ st = st1) (hnp : as.length = np) (hd' : d' + 1 ≤ d) (hn' : n' ≤ 15) (hcat : (st.map catA).sum ≤ 8) (kk : ∀ r M', o1 = some (r, M') → X own cc nL d rk sc (pc + 3) L (iv r :: st) M' E nx u (k r M')) : X own cc nL d rk sc pc L st1 M E nx u (bd o1 k) := by
  intro res ho κ p l eV R s m args below meth c cells slots A Fin hF hR H locs ls hP hl
  obtain ⟨x, h1, h2⟩ := bd_some ho
  subst hst
  have hts := hF.2.2.2.2.1
  have hK := fx_K hF
  have hM := hc x h1 κ l H.size
  have hfree := px_free hP hF.2.2.2.2.2.2.2.2.2.2.1
  have hu := hP.2.2.2
  have hr1 := hF.2.2.2.2.2.2.2.1
  have hr2 := hF.2.2.2.2.2.2.2.2.1
  have hfr : (rmd d').frames + 1 ≤ R.frames := Nat.le_trans hd' hF.2.2.2.2.2.1
  have hlo : 8 + (n' + 11) + (rmd d').locals ≤ R.locals := Nat.le_trans (by show 8 + (n' + 11) + 34 * d' ≤ 34 * d; omega) hF.2.2.2.2.2.2.1
  have hcs : ((st.map (cv κ)).map fun v => v.category).sum ≤ 8 := by rw [cats_cv]; exact hcat
  have hM' := fun (U : State) (hU : U.heap = H) (hW : s.WarmedH U.vm) => (⟨rfl, by rw [hU], by rw [hU]; exact px_cwP hP, va_K.moved hW.alike hK, (px_cwD hP).weaken (fun _ _ _ _ => trivial), va_Nw.warmM hW hF.2.2.2.2.2.2.2.2.2.2.2.2, sx_call hsc hF.2.2.2.2.2.2.2.2.2.2.2.1 (px_cwD hP) hP.2.2.1 hU hW.alike⟩ : PT sc' κ as M H.size (as.map (cv κ)).toArray U)
  refine va_calli (va_runS (As := as.map (cv κ)) (rest := st.map (cv κ)) ⟨hF.1, hF.2.1, hF.2.2.1, hF.2.2.2.1, hts⟩ hM (va_cwS np hts (good_S hS hlk) rfl rfl rfl ⟨hS.1.2.2.1, hS.1.2.2.2.1, hS.1.2.2.2.2⟩ ⟨hfr, hlo⟩) ⟨PT_blind sc' κ _ M H.size, hM'⟩ rfl (by rw [List.length_map]; exact hnp) hl.1 (by rw [← List.map_reverse]; exact List.map_append) (lv_room hcs) hd ⟨by omega, by omega⟩) hP.2.2.1 (fun q _ h => hfree q h) hfree (fun r ug t H1 locs1 ht hvm hw hB hz1 hk1 hS1 => ?_)
  rw [hw]
  exact kk x.1 x.2 h1 res h2 κ p l eV R s m args below meth c (cells + 0) (slots + 0) A Fin hF hR H1 locs1 ls (px_back hP hB ht hk1 hS1) hl
theorem x_callSv {index np d' n' : Nat} {sc' : SC} {y : MethodName} {b : ByteArray} {as st1 : List AV} {o1 : Rs} {k : Mem → Rs} (hS : SY y b n' none np) (hlk : Cond.methodLink own index y ∈ lw_g) (hd : decode cc pc = .ok (.invokestatic index, 3)) (hc : ∀ r, o1 = some r → CTv sc' y b n' d' as M r) (hsc : ∀ x, sc' = some x → sc = some x) (hst : as.reverse ++ st = st1) (hnp : as.length = np) (hd' : d' + 1 ≤ d) (hn' : n' ≤ 15) (hcat : (st.map catA).sum ≤ 8) (kk : ∀ r M', o1 = some (r, M') → X own cc nL d rk sc (pc + 3) L st M' E nx u (k M')) : X own cc nL d rk sc pc L st1 M E nx u (bd o1 (fun _ => k)) := by
  intro res ho κ p l eV R s m args below meth c cells slots A Fin hF hR H locs ls hP hl
  obtain ⟨x, h1, h2⟩ := bd_some ho
  subst hst
  have hts := hF.2.2.2.2.1
  have hK := fx_K hF
  have hM := hc x h1 κ l H.size
  have hfree := px_free hP hF.2.2.2.2.2.2.2.2.2.2.1
  have hu := hP.2.2.2
  have hr1 := hF.2.2.2.2.2.2.2.1
  have hr2 := hF.2.2.2.2.2.2.2.2.1
  have hfr : (rmd d').frames + 1 ≤ R.frames := Nat.le_trans hd' hF.2.2.2.2.2.1
  have hlo : 8 + (n' + 11) + (rmd d').locals ≤ R.locals := Nat.le_trans (by show 8 + (n' + 11) + 34 * d' ≤ 34 * d; omega) hF.2.2.2.2.2.2.1
  have hcs : ((st.map (cv κ)).map fun v => v.category).sum ≤ 8 := by rw [cats_cv]; exact hcat
  have hM' := fun (U : State) (hU : U.heap = H) (hW : s.WarmedH U.vm) => (⟨rfl, by rw [hU], by rw [hU]; exact px_cwP hP, va_K.moved hW.alike hK, (px_cwD hP).weaken (fun _ _ _ _ => trivial), va_Nw.warmM hW hF.2.2.2.2.2.2.2.2.2.2.2.2, sx_call hsc hF.2.2.2.2.2.2.2.2.2.2.2.1 (px_cwD hP) hP.2.2.1 hU hW.alike⟩ : PT sc' κ as M H.size (as.map (cv κ)).toArray U)
  refine va_callv (va_runS (As := as.map (cv κ)) (rest := st.map (cv κ)) ⟨hF.1, hF.2.1, hF.2.2.1, hF.2.2.2.1, hts⟩ hM (va_cwS np hts (good_S hS hlk) rfl rfl rfl ⟨hS.1.2.2.1, hS.1.2.2.2.1, hS.1.2.2.2.2⟩ ⟨hfr, hlo⟩) ⟨PT_blind sc' κ _ M H.size, hM'⟩ rfl (by rw [List.length_map]; exact hnp) hl.1 (by rw [← List.map_reverse]; exact List.map_append) (lv_room hcs) hd ⟨by omega, by omega⟩) hP.2.2.1 (fun q _ h => hfree q h) hfree (fun ug t H1 locs1 ht hvm hw hB hz1 hk1 hS1 => ?_)
  exact kk x.1 x.2 h1 res h2 κ p l eV R s m args below meth c (cells + 0) (slots + 0) A Fin hF hR H1 locs1 ls (px_back hP hB ht hk1 hS1) hl
theorem x_callVi {index np d' n' : Nat} {sc' : SC} {q : Nat} {y : MethodName} {b : ByteArray} {ret : Option FieldType} {as st1 : List AV} {o1 : Rs} {k : Int → Mem → Rs} (hS : VY y b n' ret np) (hlk : Cond.methodLink own index y ∈ lw_g) (hd : decode cc pc = .ok (.invokevirtual index, 3)) (hc : ∀ r, o1 = some r → CTi sc' y b n' ret d' (rv q :: as) M r) (hsc : ∀ x, sc' = some x → sc = some x) (hst : as.reverse ++ rv q :: st = st1) (hrv : RC y.cls q) (hnp : as.length = np) (hd' : d' + 1 ≤ d) (hn' : n' ≤ 15) (hcat : (st.map catA).sum ≤ 8) (kk : ∀ r M', o1 = some (r, M') → X own cc nL d rk sc (pc + 3) L (iv r :: st) M' E nx u (k r M')) : X own cc nL d rk sc pc L st1 M E nx u (bd o1 k) := by
  intro res ho κ p l eV R s m args below meth c cells slots A Fin hF hR H locs ls hP hl
  obtain ⟨x, h1, h2⟩ := bd_some ho
  subst hst
  have hts := hF.2.2.2.2.1
  have hK := fx_K hF
  have hM := hc x h1 κ l H.size
  have hfree := px_free hP hF.2.2.2.2.2.2.2.2.2.2.1
  have hu := hP.2.2.2
  have hr1 := hF.2.2.2.2.2.2.2.1
  have hr2 := hF.2.2.2.2.2.2.2.2.1
  have hfr : (rmd d').frames + 1 ≤ R.frames := Nat.le_trans hd' hF.2.2.2.2.2.1
  have hlo : 8 + (n' + 11) + (rmd d').locals ≤ R.locals := Nat.le_trans (by show 8 + (n' + 11) + 34 * d' ≤ 34 * d; omega) hF.2.2.2.2.2.2.1
  have hcs : ((st.map (cv κ)).map fun v => v.category).sum ≤ 8 := by rw [cats_cv]; exact hcat
  obtain ⟨ci, fl, T, N, hob, hkc⟩ := hrv
  have hrc := va_recv hK (px_cwP hP) (ci := ci) (q0 := q) hkc ((cw_at κ M (ob_lt hob)).trans (by rw [cell_ob κ hob]))
  have hM' := fun (U : State) (hU : U.heap = H) (hW : s.WarmedH U.vm) => (⟨rfl, by rw [hU], by rw [hU]; exact px_cwP hP, va_K.moved hW.alike hK, (px_cwD hP).weaken (fun _ _ _ _ => trivial), va_Nw.warmM hW hF.2.2.2.2.2.2.2.2.2.2.2.2, sx_call hsc hF.2.2.2.2.2.2.2.2.2.2.2.1 (px_cwD hP) hP.2.2.1 hU hW.alike⟩ : PT sc' κ (rv q :: as) M H.size ((rv q :: as).map (cv κ)).toArray U)
  refine va_calli (va_runV (C := y.cls) (b := κ.1 q) (As := as.map (cv κ)) (rest := st.map (cv κ)) ⟨hF.1, hF.2.1, hF.2.2.1, hF.2.2.2.1, hts⟩ hM (cwV np hts (good_V hS hlk) rfl rfl rfl ⟨rfl, hS.1.2.2.1, hS.1.2.2.2.1, hS.1.2.2.2.2⟩ ⟨hfr, hlo⟩) ⟨PT_blind sc' κ _ M H.size, hrc, hM'⟩ rfl (by rw [List.length_map]; exact hnp) hl.1 (by rw [← List.map_reverse]; exact List.map_append) (lv_room hcs) hd ⟨by omega, by omega⟩) hP.2.2.1 (fun q _ h => hfree q h) hfree (fun r ug t H1 locs1 ht hvm hw hB hz1 hk1 hS1 => ?_)
  rw [hw]
  exact kk x.1 x.2 h1 res h2 κ p l eV R s m args below meth c (cells + 0) (slots + 0) A Fin hF hR H1 locs1 ls (px_back hP hB ht hk1 hS1) hl
theorem x_callVv {index np d' n' : Nat} {sc' : SC} {q : Nat} {y : MethodName} {b : ByteArray} {as st1 : List AV} {o1 : Rs} {k : Mem → Rs} (hS : VY y b n' none np) (hlk : Cond.methodLink own index y ∈ lw_g) (hd : decode cc pc = .ok (.invokevirtual index, 3)) (hc : ∀ r, o1 = some r → CTv sc' y b n' d' (rv q :: as) M r) (hsc : ∀ x, sc' = some x → sc = some x) (hst : as.reverse ++ rv q :: st = st1) (hrv : RC y.cls q) (hnp : as.length = np) (hd' : d' + 1 ≤ d) (hn' : n' ≤ 15) (hcat : (st.map catA).sum ≤ 8) (kk : ∀ r M', o1 = some (r, M') → X own cc nL d rk sc (pc + 3) L st M' E nx u (k M')) : X own cc nL d rk sc pc L st1 M E nx u (bd o1 (fun _ => k)) := by
  intro res ho κ p l eV R s m args below meth c cells slots A Fin hF hR H locs ls hP hl
  obtain ⟨x, h1, h2⟩ := bd_some ho
  subst hst
  have hts := hF.2.2.2.2.1
  have hK := fx_K hF
  have hM := hc x h1 κ l H.size
  have hfree := px_free hP hF.2.2.2.2.2.2.2.2.2.2.1
  have hu := hP.2.2.2
  have hr1 := hF.2.2.2.2.2.2.2.1
  have hr2 := hF.2.2.2.2.2.2.2.2.1
  have hfr : (rmd d').frames + 1 ≤ R.frames := Nat.le_trans hd' hF.2.2.2.2.2.1
  have hlo : 8 + (n' + 11) + (rmd d').locals ≤ R.locals := Nat.le_trans (by show 8 + (n' + 11) + 34 * d' ≤ 34 * d; omega) hF.2.2.2.2.2.2.1
  have hcs : ((st.map (cv κ)).map fun v => v.category).sum ≤ 8 := by rw [cats_cv]; exact hcat
  obtain ⟨ci, fl, T, N, hob, hkc⟩ := hrv
  have hrc := va_recv hK (px_cwP hP) (ci := ci) (q0 := q) hkc ((cw_at κ M (ob_lt hob)).trans (by rw [cell_ob κ hob]))
  have hM' := fun (U : State) (hU : U.heap = H) (hW : s.WarmedH U.vm) => (⟨rfl, by rw [hU], by rw [hU]; exact px_cwP hP, va_K.moved hW.alike hK, (px_cwD hP).weaken (fun _ _ _ _ => trivial), va_Nw.warmM hW hF.2.2.2.2.2.2.2.2.2.2.2.2, sx_call hsc hF.2.2.2.2.2.2.2.2.2.2.2.1 (px_cwD hP) hP.2.2.1 hU hW.alike⟩ : PT sc' κ (rv q :: as) M H.size ((rv q :: as).map (cv κ)).toArray U)
  refine va_callv (va_runV (C := y.cls) (b := κ.1 q) (As := as.map (cv κ)) (rest := st.map (cv κ)) ⟨hF.1, hF.2.1, hF.2.2.1, hF.2.2.2.1, hts⟩ hM (cwV np hts (good_V hS hlk) rfl rfl rfl ⟨rfl, hS.1.2.2.1, hS.1.2.2.2.1, hS.1.2.2.2.2⟩ ⟨hfr, hlo⟩) ⟨PT_blind sc' κ _ M H.size, hrc, hM'⟩ rfl (by rw [List.length_map]; exact hnp) hl.1 (by rw [← List.map_reverse]; exact List.map_append) (lv_room hcs) hd ⟨by omega, by omega⟩) hP.2.2.1 (fun q _ h => hfree q h) hfree (fun ug t H1 locs1 ht hvm hw hB hz1 hk1 hS1 => ?_)
  exact kk x.1 x.2 h1 res h2 κ p l eV R s m args below meth c (cells + 0) (slots + 0) A Fin hF hR H1 locs1 ls (px_back hP hB ht hk1 hS1) hl
end LCALLS
