section ROWS
variable {own : String} {cc : ByteArray} {nL d rk : Nat} {sc : SC} {pc : Nat} {L : List (Option AV)} {st : List AV} {M : Mem} {o o1 o2 : Rs}
theorem y_iconst {n : Int} (hd : decode cc pc = .ok (.iconst n, 1)) (k : Y own cc nL d rk sc (pc + 1) L (iv n :: st) M o) : Y own cc nL d rk sc pc L st M o := by
  intro res ho κ p l eV R s m args below meth c cells slots A Fin hF hR H locs ls hP hl
  exact lv_iconst hF.1 hF.2.1 hd rfl (k res ho κ p l eV R s m args below meth c cells slots A Fin hF hR H locs ls hP hl)
theorem y_bipush {n : Int} (hd : decode cc pc = .ok (.bipush n, 2)) (hv : (Int8.ofInt n).toInt32 = Int32.ofInt n) (k : Y own cc nL d rk sc (pc + 2) L (iv n :: st) M o) : Y own cc nL d rk sc pc L st M o := by
  intro res ho κ p l eV R s m args below meth c cells slots A Fin hF hR H locs ls hP hl
  exact lv_bipush hF.1 hF.2.1 hd hv (k res ho κ p l eV R s m args below meth c cells slots A Fin hF hR H locs ls hP hl)
theorem y_sipush {n : Int} (hd : decode cc pc = .ok (.sipush n, 3)) (hv : (Int16.ofInt n).toInt32 = Int32.ofInt n) (k : Y own cc nL d rk sc (pc + 3) L (iv n :: st) M o) : Y own cc nL d rk sc pc L st M o := by
  intro res ho κ p l eV R s m args below meth c cells slots A Fin hF hR H locs ls hP hl
  exact lv_sipush hF.1 hF.2.1 hd hv (k res ho κ p l eV R s m args below meth c cells slots A Fin hF hR H locs ls hP hl)
theorem y_ldc {index : Nat} {v : Int32} {n : Int} (hw : Cond.constant own index v ∈ lw_g) (hv : v = Int32.ofInt n) (hd : decode cc pc = .ok (.ldc index, 2)) (k : Y own cc nL d rk sc (pc + 2) L (iv n :: st) M o) : Y own cc nL d rk sc pc L st M o := by
  intro res ho κ p l eV R s m args below meth c cells slots A Fin hF hR H locs ls hP hl
  exact lv_ldc hF.1 hF.2.1 hF.2.2.2.1 (hF.2.2.2.2.1 _ (hv ▸ hw)) hd (k res ho κ p l eV R s m args below meth c cells slots A Fin hF hR H locs ls hP hl)
theorem y_ldcw {index : Nat} {v : Int32} {n : Int} (hw : Cond.constant own index v ∈ lw_g) (hv : v = Int32.ofInt n) (hd : decode cc pc = .ok (.ldc_w index, 3)) (k : Y own cc nL d rk sc (pc + 3) L (iv n :: st) M o) : Y own cc nL d rk sc pc L st M o := by
  intro res ho κ p l eV R s m args below meth c cells slots A Fin hF hR H locs ls hP hl
  exact lv_ldcw hF.1 hF.2.1 hF.2.2.2.1 (hF.2.2.2.2.1 _ (hv ▸ hw)) hd (k res ho κ p l eV R s m args below meth c cells slots A Fin hF hR H locs ls hP hl)
theorem y_ldc2 {index : Nat} {v : Int64} {n : Int} (hw : Cond.constantLong own index v ∈ lw_g) (hv : v = Int64.ofInt n) (hd : decode cc pc = .ok (.ldc2_w index, 3)) (k : Y own cc nL d rk sc (pc + 3) L (jv n :: st) M o) : Y own cc nL d rk sc pc L st M o := by
  intro res ho κ p l eV R s m args below meth c cells slots A Fin hF hR H locs ls hP hl
  exact lv_ldc2 hF.1 hF.2.1 hF.2.2.2.1 (hF.2.2.2.2.1 _ (hv ▸ hw)) hd (k res ho κ p l eV R s m args below meth c cells slots A Fin hF hR H locs ls hP hl)
theorem y_lconst {n : Fin 2} {a : Int} (hd : decode cc pc = .ok (.lconst n, 1)) (hv : Int64.ofNat (n : Nat) = Int64.ofInt a) (k : Y own cc nL d rk sc (pc + 1) L (jv a :: st) M o) : Y own cc nL d rk sc pc L st M o := by
  intro res ho κ p l eV R s m args below meth c cells slots A Fin hF hR H locs ls hP hl
  exact lv_lconst hF.1 hF.2.1 hd hv (k res ho κ p l eV R s m args below meth c cells slots A Fin hF hR H locs ls hP hl)
theorem y_iload_n {i : Fin 4} {a : Int} (hd : decode cc pc = .ok (.iload_n i, 1)) (hL : L[(i : Nat)]? = some (some (iv a))) (k : Y own cc nL d rk sc (pc + 1) L (iv a :: st) M o) : Y own cc nL d rk sc pc L st M o := by
  intro res ho κ p l eV R s m args below meth c cells slots A Fin hF hR H locs ls hP hl
  exact lv_iload_n hF.1 hF.2.1 hd rfl (agr_at hl hL) (k res ho κ p l eV R s m args below meth c cells slots A Fin hF hR H locs ls hP hl)
theorem y_iload {i : Nat} {a : Int} (hd : decode cc pc = .ok (.iload i, 2)) (hL : L[i]? = some (some (iv a))) (k : Y own cc nL d rk sc (pc + 2) L (iv a :: st) M o) : Y own cc nL d rk sc pc L st M o := by
  intro res ho κ p l eV R s m args below meth c cells slots A Fin hF hR H locs ls hP hl
  exact lv_iload hF.1 hF.2.1 hd (agr_at hl hL) (k res ho κ p l eV R s m args below meth c cells slots A Fin hF hR H locs ls hP hl)
theorem y_lload_n {i : Fin 4} {a : Int} (hd : decode cc pc = .ok (.lload_n i, 1)) (hL : L[(i : Nat)]? = some (some (jv a))) (k : Y own cc nL d rk sc (pc + 1) L (jv a :: st) M o) : Y own cc nL d rk sc pc L st M o := by
  intro res ho κ p l eV R s m args below meth c cells slots A Fin hF hR H locs ls hP hl
  exact lv_lload_n hF.1 hF.2.1 hd rfl (agr_at hl hL) (k res ho κ p l eV R s m args below meth c cells slots A Fin hF hR H locs ls hP hl)
theorem y_lload {i : Nat} {a : Int} (hd : decode cc pc = .ok (.lload i, 2)) (hL : L[i]? = some (some (jv a))) (k : Y own cc nL d rk sc (pc + 2) L (jv a :: st) M o) : Y own cc nL d rk sc pc L st M o := by
  intro res ho κ p l eV R s m args below meth c cells slots A Fin hF hR H locs ls hP hl
  exact lv_lload hF.1 hF.2.1 hd (agr_at hl hL) (k res ho κ p l eV R s m args below meth c cells slots A Fin hF hR H locs ls hP hl)
theorem y_aload_n {i : Fin 4} {a : Nat} (hd : decode cc pc = .ok (.aload_n i, 1)) (hL : L[(i : Nat)]? = some (some (rv a))) (k : Y own cc nL d rk sc (pc + 1) L (rv a :: st) M o) : Y own cc nL d rk sc pc L st M o := by
  intro res ho κ p l eV R s m args below meth c cells slots A Fin hF hR H locs ls hP hl
  exact lv_aload_n hF.1 hF.2.1 hd rfl (agr_at hl hL) (k res ho κ p l eV R s m args below meth c cells slots A Fin hF hR H locs ls hP hl)
theorem y_aload {i : Nat} {a : Nat} (hd : decode cc pc = .ok (.aload i, 2)) (hL : L[i]? = some (some (rv a))) (k : Y own cc nL d rk sc (pc + 2) L (rv a :: st) M o) : Y own cc nL d rk sc pc L st M o := by
  intro res ho κ p l eV R s m args below meth c cells slots A Fin hF hR H locs ls hP hl
  exact lv_aload hF.1 hF.2.1 hd (agr_at hl hL) (k res ho κ p l eV R s m args below meth c cells slots A Fin hF hR H locs ls hP hl)
theorem y_istore_n {i : Fin 4} {a : Int} {L' : List (Option AV)} (hd : decode cc pc = .ok (.istore_n i, 1)) (hn : (i : Nat) < nL) (hok : okst L i = true) (hs : L.set i (some (iv a)) = L') (k : Y own cc nL d rk sc (pc + 1) L' st M o) : Y own cc nL d rk sc pc L (iv a :: st) M o := by
  intro res ho κ p l eV R s m args below meth c cells slots A Fin hF hR H locs ls hP hl
  exact lv_istore_n hF.1 hF.2.1 hd rfl hl hn rfl (fun ls' h' => k res ho κ p l eV R s m args below meth c cells slots A Fin hF hR H locs ls' hP (agr_set1 hok hs h'))
theorem y_istore {i : Nat} {a : Int} {L' : List (Option AV)} (hd : decode cc pc = .ok (.istore i, 2)) (hn : i < nL) (hok : okst L i = true) (hs : L.set i (some (iv a)) = L') (k : Y own cc nL d rk sc (pc + 2) L' st M o) : Y own cc nL d rk sc pc L (iv a :: st) M o := by
  intro res ho κ p l eV R s m args below meth c cells slots A Fin hF hR H locs ls hP hl
  exact lv_istore hF.1 hF.2.1 hd hl hn rfl (fun ls' h' => k res ho κ p l eV R s m args below meth c cells slots A Fin hF hR H locs ls' hP (agr_set1 hok hs h'))
theorem y_astore_n {i : Fin 4} {a : Nat} {L' : List (Option AV)} (hd : decode cc pc = .ok (.astore_n i, 1)) (hn : (i : Nat) < nL) (hok : okst L i = true) (hs : L.set i (some (rv a)) = L') (k : Y own cc nL d rk sc (pc + 1) L' st M o) : Y own cc nL d rk sc pc L (rv a :: st) M o := by
  intro res ho κ p l eV R s m args below meth c cells slots A Fin hF hR H locs ls hP hl
  exact lv_astore_n hF.1 hF.2.1 hd rfl hl hn rfl (fun ls' h' => k res ho κ p l eV R s m args below meth c cells slots A Fin hF hR H locs ls' hP (agr_set1 hok hs h'))
theorem y_astore {i : Nat} {a : Nat} {L' : List (Option AV)} (hd : decode cc pc = .ok (.astore i, 2)) (hn : i < nL) (hok : okst L i = true) (hs : L.set i (some (rv a)) = L') (k : Y own cc nL d rk sc (pc + 2) L' st M o) : Y own cc nL d rk sc pc L (rv a :: st) M o := by
  intro res ho κ p l eV R s m args below meth c cells slots A Fin hF hR H locs ls hP hl
  exact lv_astore hF.1 hF.2.1 hd hl hn rfl (fun ls' h' => k res ho κ p l eV R s m args below meth c cells slots A Fin hF hR H locs ls' hP (agr_set1 hok hs h'))
theorem y_lstore_n {i : Fin 4} {a : Int} {L' : List (Option AV)} (hd : decode cc pc = .ok (.lstore_n i, 1)) (hn : (i : Nat) + 1 < nL) (hok : okst L i = true) (hs : (L.set i (some (jv a))).set (i + 1) none = L') (k : Y own cc nL d rk sc (pc + 1) L' st M o) : Y own cc nL d rk sc pc L (jv a :: st) M o := by
  intro res ho κ p l eV R s m args below meth c cells slots A Fin hF hR H locs ls hP hl
  exact lv_lstore_n hF.1 hF.2.1 hd rfl hl hn rfl (fun ls' h' => k res ho κ p l eV R s m args below meth c cells slots A Fin hF hR H locs ls' hP (agr_set2 hok hs h'))
theorem y_lstore {i : Nat} {a : Int} {L' : List (Option AV)} (hd : decode cc pc = .ok (.lstore i, 2)) (hn : i + 1 < nL) (hok : okst L i = true) (hs : (L.set i (some (jv a))).set (i + 1) none = L') (k : Y own cc nL d rk sc (pc + 2) L' st M o) : Y own cc nL d rk sc pc L (jv a :: st) M o := by
  intro res ho κ p l eV R s m args below meth c cells slots A Fin hF hR H locs ls hP hl
  exact lv_lstore hF.1 hF.2.1 hd hl hn rfl (fun ls' h' => k res ho κ p l eV R s m args below meth c cells slots A Fin hF hR H locs ls' hP (agr_set2 hok hs h'))
theorem y_iinc {i : Nat} {n a : Int} {L' : List (Option AV)} (hd : decode cc pc = .ok (.iinc i n, 3)) (hL : L[i]? = some (some (iv a))) (hn : i < nL) (hok : okst L i = true) (hs : L.set i (some (iv (a + n))) = L') (k : Y own cc nL d rk sc (pc + 3) L' st M o) : Y own cc nL d rk sc pc L st M o := by
  intro res ho κ p l eV R s m args below meth c cells slots A Fin hF hR H locs ls hP hl
  have h1 : lv_has ls nL ((i, Value.int (Int32.ofInt a)) :: pr κ 0 L) := ⟨hl.1, hl.2.1, fun q hq => by
    rcases List.mem_cons.mp hq with h | h
    · rw [h]; exact agr_at hl hL
    · exact hl.2.2 q h⟩
  refine lv_iinc (k := 0) (v := Int32.ofInt (a + n)) hF.1 hF.2.1 hd h1 rfl (Int32.ofInt_add a n).symm hn rfl (fun ls' h' => k res ho κ p l eV R s m args below meth c cells slots A Fin hF hR H locs ls' hP ?_)
  refine agr_set1 hok hs ⟨h'.1, h'.2.1, fun q hq => h'.2.2 q ?_⟩
  rcases List.mem_cons.mp hq with h | h
  · rw [h]; exact List.mem_cons_self
  · obtain ⟨h2, h3⟩ := List.mem_filter.mp h
    exact List.mem_cons_of_mem _ (List.mem_filter.mpr ⟨List.mem_cons_of_mem _ h2, h3⟩)
theorem y_dup {v : AV} (hd : decode cc pc = .ok (.dup, 1)) (hc : catA v = 1) (k : Y own cc nL d rk sc (pc + 1) L (v :: v :: st) M o) : Y own cc nL d rk sc pc L (v :: st) M o := by
  intro res ho κ p l eV R s m args below meth c cells slots A Fin hF hR H locs ls hP hl
  exact lv_dup hF.1 hF.2.1 hd ((cat_cv κ v).trans hc) (k res ho κ p l eV R s m args below meth c cells slots A Fin hF hR H locs ls hP hl)
theorem y_pop {v : AV} (hd : decode cc pc = .ok (.pop, 1)) (hc : catA v = 1) (k : Y own cc nL d rk sc (pc + 1) L st M o) : Y own cc nL d rk sc pc L (v :: st) M o := by
  intro res ho κ p l eV R s m args below meth c cells slots A Fin hF hR H locs ls hP hl
  exact lv_pop hF.1 hF.2.1 hd ((cat_cv κ v).trans hc) (k res ho κ p l eV R s m args below meth c cells slots A Fin hF hR H locs ls hP hl)
theorem y_dup2 {v u : AV} (hd : decode cc pc = .ok (.dup2, 1)) (hc : catA v = 1) (hc' : catA u = 1) (k : Y own cc nL d rk sc (pc + 1) L (v :: u :: v :: u :: st) M o) : Y own cc nL d rk sc pc L (v :: u :: st) M o := by
  intro res ho κ p l eV R s m args below meth c cells slots A Fin hF hR H locs ls hP hl
  exact lv_dup2_11 hF.1 hF.2.1 hd ((cat_cv κ v).trans hc) ((cat_cv κ u).trans hc') (k res ho κ p l eV R s m args below meth c cells slots A Fin hF hR H locs ls hP hl)
theorem y_goto {off : Int} {tgt : Nat} (hd : decode cc pc = .ok (.goto off, 3)) (ht : (pc : Int) + off = (tgt : Int)) (k : Y own cc nL d rk sc tgt L st M o) : Y own cc nL d rk sc pc L st M o := by
  intro res ho κ p l eV R s m args below meth c cells slots A Fin hF hR H locs ls hP hl
  exact lv_goto hF.1 hF.2.1 hd ht (k res ho κ p l eV R s m args below meth c cells slots A Fin hF hR H locs ls hP hl)
theorem y_iadd {a b : Int} (hd : decode cc pc = .ok (.iadd, 1)) (k : Y own cc nL d rk sc (pc + 1) L (iv (a + b) :: st) M o) : Y own cc nL d rk sc pc L (iv b :: iv a :: st) M o := by
  intro res ho κ p l eV R s m args below meth c cells slots A Fin hF hR H locs ls hP hl
  have k' := k res ho κ p l eV R s m args below meth c cells slots A Fin hF hR H locs ls hP hl
  refine lv_iadd hF.1 hF.2.1 hd ?_
  have e : Int32.ofInt (a + b) = Int32.ofInt a + Int32.ofInt b := Int32.ofInt_add a b
  rw [show List.map (cv κ) (iv (a + b) :: st) = .int (Int32.ofInt (a + b)) :: st.map (cv κ) from rfl, e] at k'
  exact k'
theorem y_isub {a b : Int} (hd : decode cc pc = .ok (.isub, 1)) (k : Y own cc nL d rk sc (pc + 1) L (iv (a - b) :: st) M o) : Y own cc nL d rk sc pc L (iv b :: iv a :: st) M o := by
  intro res ho κ p l eV R s m args below meth c cells slots A Fin hF hR H locs ls hP hl
  have k' := k res ho κ p l eV R s m args below meth c cells slots A Fin hF hR H locs ls hP hl
  refine lv_isub hF.1 hF.2.1 hd ?_
  have e : Int32.ofInt (a - b) = Int32.ofInt a - Int32.ofInt b := Int32.ofInt_sub a b
  rw [show List.map (cv κ) (iv (a - b) :: st) = .int (Int32.ofInt (a - b)) :: st.map (cv κ) from rfl, e] at k'
  exact k'
theorem y_imul {a b : Int} (hd : decode cc pc = .ok (.imul, 1)) (k : Y own cc nL d rk sc (pc + 1) L (iv (a * b) :: st) M o) : Y own cc nL d rk sc pc L (iv b :: iv a :: st) M o := by
  intro res ho κ p l eV R s m args below meth c cells slots A Fin hF hR H locs ls hP hl
  have k' := k res ho κ p l eV R s m args below meth c cells slots A Fin hF hR H locs ls hP hl
  refine lv_imul hF.1 hF.2.1 hd ?_
  have e : Int32.ofInt (a * b) = Int32.ofInt a * Int32.ofInt b := Int32.ofInt_mul a b
  rw [show List.map (cv κ) (iv (a * b) :: st) = .int (Int32.ofInt (a * b)) :: st.map (cv κ) from rfl, e] at k'
  exact k'
theorem y_iand {a b : Int} (hd : decode cc pc = .ok (.iand, 1)) (k : Y own cc nL d rk sc (pc + 1) L (iv (bAnd a b) :: st) M o) : Y own cc nL d rk sc pc L (iv b :: iv a :: st) M o := by
  intro res ho κ p l eV R s m args below meth c cells slots A Fin hF hR H locs ls hP hl
  have k' := k res ho κ p l eV R s m args below meth c cells slots A Fin hF hR H locs ls hP hl
  refine lv_iand hF.1 hF.2.1 hd ?_
  have e : Int32.ofInt (bAnd a b) = Int32.ofInt a &&& Int32.ofInt b := c_and a b
  rw [show List.map (cv κ) (iv (bAnd a b) :: st) = .int (Int32.ofInt (bAnd a b)) :: st.map (cv κ) from rfl, e] at k'
  exact k'
theorem y_ior {a b : Int} (hd : decode cc pc = .ok (.ior, 1)) (k : Y own cc nL d rk sc (pc + 1) L (iv (bOr a b) :: st) M o) : Y own cc nL d rk sc pc L (iv b :: iv a :: st) M o := by
  intro res ho κ p l eV R s m args below meth c cells slots A Fin hF hR H locs ls hP hl
  have k' := k res ho κ p l eV R s m args below meth c cells slots A Fin hF hR H locs ls hP hl
  refine lv_ior hF.1 hF.2.1 hd ?_
  have e : Int32.ofInt (bOr a b) = Int32.ofInt a ||| Int32.ofInt b := c_or a b
  rw [show List.map (cv κ) (iv (bOr a b) :: st) = .int (Int32.ofInt (bOr a b)) :: st.map (cv κ) from rfl, e] at k'
  exact k'
theorem y_ixor {a b : Int} (hd : decode cc pc = .ok (.ixor, 1)) (k : Y own cc nL d rk sc (pc + 1) L (iv (bXor a b) :: st) M o) : Y own cc nL d rk sc pc L (iv b :: iv a :: st) M o := by
  intro res ho κ p l eV R s m args below meth c cells slots A Fin hF hR H locs ls hP hl
  have k' := k res ho κ p l eV R s m args below meth c cells slots A Fin hF hR H locs ls hP hl
  refine lv_ixor hF.1 hF.2.1 hd ?_
  have e : Int32.ofInt (bXor a b) = Int32.ofInt a ^^^ Int32.ofInt b := c_xor a b
  rw [show List.map (cv κ) (iv (bXor a b) :: st) = .int (Int32.ofInt (bXor a b)) :: st.map (cv κ) from rfl, e] at k'
  exact k'
theorem y_ishl {a b : Int} (hd : decode cc pc = .ok (.ishl, 1)) (k : Y own cc nL d rk sc (pc + 1) L (iv (bShl a b) :: st) M o) : Y own cc nL d rk sc pc L (iv b :: iv a :: st) M o := by
  intro res ho κ p l eV R s m args below meth c cells slots A Fin hF hR H locs ls hP hl
  have k' := k res ho κ p l eV R s m args below meth c cells slots A Fin hF hR H locs ls hP hl
  refine lv_ishl hF.1 hF.2.1 hd ?_
  have e : Int32.ofInt (bShl a b) = Int32.ofInt a <<< (Int32.ofInt b &&& 31) := c_shl a b
  rw [show List.map (cv κ) (iv (bShl a b) :: st) = .int (Int32.ofInt (bShl a b)) :: st.map (cv κ) from rfl, e] at k'
  exact k'
theorem y_ishr {a b : Int} (hd : decode cc pc = .ok (.ishr, 1)) (k : Y own cc nL d rk sc (pc + 1) L (iv (bShr a b) :: st) M o) : Y own cc nL d rk sc pc L (iv b :: iv a :: st) M o := by
  intro res ho κ p l eV R s m args below meth c cells slots A Fin hF hR H locs ls hP hl
  have k' := k res ho κ p l eV R s m args below meth c cells slots A Fin hF hR H locs ls hP hl
  refine lv_ishr hF.1 hF.2.1 hd ?_
  have e : Int32.ofInt (bShr a b) = Int32.ofInt a >>> (Int32.ofInt b &&& 31) := c_shr a b
  rw [show List.map (cv κ) (iv (bShr a b) :: st) = .int (Int32.ofInt (bShr a b)) :: st.map (cv κ) from rfl, e] at k'
  exact k'
theorem y_ladd {a b : Int} (hd : decode cc pc = .ok (.ladd, 1)) (k : Y own cc nL d rk sc (pc + 1) L (jv (a + b) :: st) M o) : Y own cc nL d rk sc pc L (jv b :: jv a :: st) M o := by
  intro res ho κ p l eV R s m args below meth c cells slots A Fin hF hR H locs ls hP hl
  have k' := k res ho κ p l eV R s m args below meth c cells slots A Fin hF hR H locs ls hP hl
  refine lv_ladd hF.1 hF.2.1 hd ?_
  have e : Int64.ofInt (a + b) = Int64.ofInt a + Int64.ofInt b := Int64.ofInt_add a b
  rw [show List.map (cv κ) (jv (a + b) :: st) = .long (Int64.ofInt (a + b)) :: st.map (cv κ) from rfl, e] at k'
  exact k'
theorem y_lsub {a b : Int} (hd : decode cc pc = .ok (.lsub, 1)) (k : Y own cc nL d rk sc (pc + 1) L (jv (a - b) :: st) M o) : Y own cc nL d rk sc pc L (jv b :: jv a :: st) M o := by
  intro res ho κ p l eV R s m args below meth c cells slots A Fin hF hR H locs ls hP hl
  have k' := k res ho κ p l eV R s m args below meth c cells slots A Fin hF hR H locs ls hP hl
  refine lv_lsub hF.1 hF.2.1 hd ?_
  have e : Int64.ofInt (a - b) = Int64.ofInt a - Int64.ofInt b := Int64.ofInt_sub a b
  rw [show List.map (cv κ) (jv (a - b) :: st) = .long (Int64.ofInt (a - b)) :: st.map (cv κ) from rfl, e] at k'
  exact k'
theorem y_lmul {a b : Int} (hd : decode cc pc = .ok (.lmul, 1)) (k : Y own cc nL d rk sc (pc + 1) L (jv (a * b) :: st) M o) : Y own cc nL d rk sc pc L (jv b :: jv a :: st) M o := by
  intro res ho κ p l eV R s m args below meth c cells slots A Fin hF hR H locs ls hP hl
  have k' := k res ho κ p l eV R s m args below meth c cells slots A Fin hF hR H locs ls hP hl
  refine lv_lmul hF.1 hF.2.1 hd ?_
  have e : Int64.ofInt (a * b) = Int64.ofInt a * Int64.ofInt b := Int64.ofInt_mul a b
  rw [show List.map (cv κ) (jv (a * b) :: st) = .long (Int64.ofInt (a * b)) :: st.map (cv κ) from rfl, e] at k'
  exact k'
theorem y_idiv {a b : Int} (hd : decode cc pc = .ok (.idiv, 1)) (ha : I32 a) (hb : I32 b) (hb0 : b ≠ 0) (k : Y own cc nL d rk sc (pc + 1) L (iv (a.tdiv b) :: st) M o) : Y own cc nL d rk sc pc L (iv b :: iv a :: st) M o := by
  intro res ho κ p l eV R s m args below meth c cells slots A Fin hF hR H locs ls hP hl
  have k' := k res ho κ p l eV R s m args below meth c cells slots A Fin hF hR H locs ls hP hl
  refine lv_idiv hF.1 hF.2.1 hd (fun z => hb0 ((i_inj hb i32_0).mp (z.trans z32))) ?_
  have e : Int32.ofInt (a.tdiv b) = Int32.ofInt a / Int32.ofInt b := (i_div ha hb).symm
  rw [show List.map (cv κ) (iv (a.tdiv b) :: st) = .int (Int32.ofInt (a.tdiv b)) :: st.map (cv κ) from rfl, e] at k'
  exact k'
theorem y_irem {a b : Int} (hd : decode cc pc = .ok (.irem, 1)) (ha : I32 a) (hb : I32 b) (hb0 : b ≠ 0) (k : Y own cc nL d rk sc (pc + 1) L (iv (a.tmod b) :: st) M o) : Y own cc nL d rk sc pc L (iv b :: iv a :: st) M o := by
  intro res ho κ p l eV R s m args below meth c cells slots A Fin hF hR H locs ls hP hl
  have k' := k res ho κ p l eV R s m args below meth c cells slots A Fin hF hR H locs ls hP hl
  refine lv_irem hF.1 hF.2.1 hd (fun z => hb0 ((i_inj hb i32_0).mp (z.trans z32))) ?_
  have e : Int32.ofInt (a.tmod b) = Int32.ofInt a - Int32.ofInt a / Int32.ofInt b * Int32.ofInt b := (i_rem ha hb).symm
  rw [show List.map (cv κ) (iv (a.tmod b) :: st) = .int (Int32.ofInt (a.tmod b)) :: st.map (cv κ) from rfl, e] at k'
  exact k'
theorem y_ldiv {a b : Int} (hd : decode cc pc = .ok (.ldiv, 1)) (ha : I64 a) (hb : I64 b) (hb0 : b ≠ 0) (k : Y own cc nL d rk sc (pc + 1) L (jv (a.tdiv b) :: st) M o) : Y own cc nL d rk sc pc L (jv b :: jv a :: st) M o := by
  intro res ho κ p l eV R s m args below meth c cells slots A Fin hF hR H locs ls hP hl
  have k' := k res ho κ p l eV R s m args below meth c cells slots A Fin hF hR H locs ls hP hl
  refine lv_ldiv hF.1 hF.2.1 hd (fun z => hb0 ((l_inj hb i64_0).mp (z.trans z64))) ?_
  have e : Int64.ofInt (a.tdiv b) = Int64.ofInt a / Int64.ofInt b := (l_div ha hb).symm
  rw [show List.map (cv κ) (jv (a.tdiv b) :: st) = .long (Int64.ofInt (a.tdiv b)) :: st.map (cv κ) from rfl, e] at k'
  exact k'
theorem y_lrem {a b : Int} (hd : decode cc pc = .ok (.lrem, 1)) (ha : I64 a) (hb : I64 b) (hb0 : b ≠ 0) (k : Y own cc nL d rk sc (pc + 1) L (jv (a.tmod b) :: st) M o) : Y own cc nL d rk sc pc L (jv b :: jv a :: st) M o := by
  intro res ho κ p l eV R s m args below meth c cells slots A Fin hF hR H locs ls hP hl
  have k' := k res ho κ p l eV R s m args below meth c cells slots A Fin hF hR H locs ls hP hl
  refine lv_lrem hF.1 hF.2.1 hd (fun z => hb0 ((l_inj hb i64_0).mp (z.trans z64))) ?_
  have e : Int64.ofInt (a.tmod b) = Int64.ofInt a - Int64.ofInt a / Int64.ofInt b * Int64.ofInt b := (l_rem ha hb).symm
  rw [show List.map (cv κ) (jv (a.tmod b) :: st) = .long (Int64.ofInt (a.tmod b)) :: st.map (cv κ) from rfl, e] at k'
  exact k'
theorem y_ineg {a : Int} (hd : decode cc pc = .ok (.ineg, 1)) (k : Y own cc nL d rk sc (pc + 1) L (iv (-a) :: st) M o) : Y own cc nL d rk sc pc L (iv a :: st) M o := by
  intro res ho κ p l eV R s m args below meth c cells slots A Fin hF hR H locs ls hP hl
  have k' := k res ho κ p l eV R s m args below meth c cells slots A Fin hF hR H locs ls hP hl
  refine lv_ineg hF.1 hF.2.1 hd ?_
  rw [show List.map (cv κ) (iv (-a) :: st) = .int (Int32.ofInt (-a)) :: st.map (cv κ) from rfl, Int32.ofInt_neg] at k'
  exact k'
theorem y_i2l {a : Int} (hd : decode cc pc = .ok (.i2l, 1)) (ha : I32 a) (k : Y own cc nL d rk sc (pc + 1) L (jv a :: st) M o) : Y own cc nL d rk sc pc L (iv a :: st) M o := by
  intro res ho κ p l eV R s m args below meth c cells slots A Fin hF hR H locs ls hP hl
  exact lv_i2l hF.1 hF.2.1 hd (c_i2l ha) (k res ho κ p l eV R s m args below meth c cells slots A Fin hF hR H locs ls hP hl)
theorem y_lcmp {a b : Int} (hd : decode cc pc = .ok (.lcmp, 1)) (ha : I64 a) (hb : I64 b) (k : Y own cc nL d rk sc (pc + 1) L (iv (cmpZ a b) :: st) M o) : Y own cc nL d rk sc pc L (jv b :: jv a :: st) M o := by
  intro res ho κ p l eV R s m args below meth c cells slots A Fin hF hR H locs ls hP hl
  have k' := k res ho κ p l eV R s m args below meth c cells slots A Fin hF hR H locs ls hP hl
  refine W.lcmp hF.1 hF.2.1 hd ?_
  rw [show List.map (cv κ) (iv (cmpZ a b) :: st) = .int (Int32.ofInt (cmpZ a b)) :: st.map (cv κ) from rfl, ← l_cmp ha hb] at k'
  exact k'
theorem y_icmp_eq {a b : Int} {off : Int} {tgt : Nat} (hd : decode cc pc = .ok (.if_icmp .eq off, 3)) (ht : (pc : Int) + off = (tgt : Int)) (ha : I32 a) (hb : I32 b) (kt : a = b → Y own cc nL d rk sc tgt L st M o1) (kf : ¬ (a = b) → Y own cc nL d rk sc (pc + 3) L st M o2) : Y own cc nL d rk sc pc L (iv b :: iv a :: st) M (if a = b then o1 else o2) := by
  intro res ho κ p l eV R s m args below meth c cells slots A Fin hF hR H locs ls hP hl
  refine lv_icmp_eq hF.1 hF.2.1 hd ht (fun h => ?_) (fun h => ?_)
  ·
    have h' : a = b := by exact (i_inj ha hb).mp h
    rw [if_pos h'] at ho
    exact kt h' res ho κ p l eV R s m args below meth c cells slots A Fin hF hR H locs ls hP hl
  ·
    have h' : ¬ (a = b) := by exact fun q => h ((i_inj ha hb).mpr q)
    rw [if_neg h'] at ho
    exact kf h' res ho κ p l eV R s m args below meth c cells slots A Fin hF hR H locs ls hP hl
theorem y_if_eq {a : Int} {off : Int} {tgt : Nat} (hd : decode cc pc = .ok (.ifCond .eq off, 3)) (ht : (pc : Int) + off = (tgt : Int)) (ha : I32 a) (kt : a = 0 → Y own cc nL d rk sc tgt L st M o1) (kf : ¬ (a = 0) → Y own cc nL d rk sc (pc + 3) L st M o2) : Y own cc nL d rk sc pc L (iv a :: st) M (if a = 0 then o1 else o2) := by
  intro res ho κ p l eV R s m args below meth c cells slots A Fin hF hR H locs ls hP hl
  refine lv_if_eq hF.1 hF.2.1 hd ht (fun h => ?_) (fun h => ?_)
  ·
    have h' : a = 0 := by rw [z32] at h; exact (i_inj ha i32_0).mp h
    rw [if_pos h'] at ho
    exact kt h' res ho κ p l eV R s m args below meth c cells slots A Fin hF hR H locs ls hP hl
  ·
    have h' : ¬ (a = 0) := by rw [z32] at h; exact fun q => h ((i_inj ha i32_0).mpr q)
    rw [if_neg h'] at ho
    exact kf h' res ho κ p l eV R s m args below meth c cells slots A Fin hF hR H locs ls hP hl
theorem y_icmp_ne {a b : Int} {off : Int} {tgt : Nat} (hd : decode cc pc = .ok (.if_icmp .ne off, 3)) (ht : (pc : Int) + off = (tgt : Int)) (ha : I32 a) (hb : I32 b) (kt : ¬ (a = b) → Y own cc nL d rk sc tgt L st M o1) (kf : a = b → Y own cc nL d rk sc (pc + 3) L st M o2) : Y own cc nL d rk sc pc L (iv b :: iv a :: st) M (if a = b then o2 else o1) := by
  intro res ho κ p l eV R s m args below meth c cells slots A Fin hF hR H locs ls hP hl
  refine lv_icmp_ne hF.1 hF.2.1 hd ht (fun h => ?_) (fun h => ?_)
  ·
    have h' : ¬ (a = b) := by exact fun q => h ((i_inj ha hb).mpr q)
    rw [if_neg h'] at ho
    exact kt h' res ho κ p l eV R s m args below meth c cells slots A Fin hF hR H locs ls hP hl
  ·
    have h' : a = b := by exact (i_inj ha hb).mp h
    rw [if_pos h'] at ho
    exact kf h' res ho κ p l eV R s m args below meth c cells slots A Fin hF hR H locs ls hP hl
theorem y_if_ne {a : Int} {off : Int} {tgt : Nat} (hd : decode cc pc = .ok (.ifCond .ne off, 3)) (ht : (pc : Int) + off = (tgt : Int)) (ha : I32 a) (kt : ¬ (a = 0) → Y own cc nL d rk sc tgt L st M o1) (kf : a = 0 → Y own cc nL d rk sc (pc + 3) L st M o2) : Y own cc nL d rk sc pc L (iv a :: st) M (if a = 0 then o2 else o1) := by
  intro res ho κ p l eV R s m args below meth c cells slots A Fin hF hR H locs ls hP hl
  refine lv_if_ne hF.1 hF.2.1 hd ht (fun h => ?_) (fun h => ?_)
  ·
    have h' : ¬ (a = 0) := by rw [z32] at h; exact fun q => h ((i_inj ha i32_0).mpr q)
    rw [if_neg h'] at ho
    exact kt h' res ho κ p l eV R s m args below meth c cells slots A Fin hF hR H locs ls hP hl
  ·
    have h' : a = 0 := by rw [z32] at h; exact (i_inj ha i32_0).mp h
    rw [if_pos h'] at ho
    exact kf h' res ho κ p l eV R s m args below meth c cells slots A Fin hF hR H locs ls hP hl
theorem y_icmp_lt {a b : Int} {off : Int} {tgt : Nat} (hd : decode cc pc = .ok (.if_icmp .lt off, 3)) (ht : (pc : Int) + off = (tgt : Int)) (ha : I32 a) (hb : I32 b) (kt : a < b → Y own cc nL d rk sc tgt L st M o1) (kf : ¬ (a < b) → Y own cc nL d rk sc (pc + 3) L st M o2) : Y own cc nL d rk sc pc L (iv b :: iv a :: st) M (if a < b then o1 else o2) := by
  intro res ho κ p l eV R s m args below meth c cells slots A Fin hF hR H locs ls hP hl
  refine lv_icmp_lt hF.1 hF.2.1 hd ht (fun h => ?_) (fun h => ?_)
  ·
    have h' : a < b := by exact (i_lt ha hb).mp h
    rw [if_pos h'] at ho
    exact kt h' res ho κ p l eV R s m args below meth c cells slots A Fin hF hR H locs ls hP hl
  ·
    have h' : ¬ (a < b) := by exact fun q => h ((i_lt ha hb).mpr q)
    rw [if_neg h'] at ho
    exact kf h' res ho κ p l eV R s m args below meth c cells slots A Fin hF hR H locs ls hP hl
theorem y_if_lt {a : Int} {off : Int} {tgt : Nat} (hd : decode cc pc = .ok (.ifCond .lt off, 3)) (ht : (pc : Int) + off = (tgt : Int)) (ha : I32 a) (kt : a < 0 → Y own cc nL d rk sc tgt L st M o1) (kf : ¬ (a < 0) → Y own cc nL d rk sc (pc + 3) L st M o2) : Y own cc nL d rk sc pc L (iv a :: st) M (if a < 0 then o1 else o2) := by
  intro res ho κ p l eV R s m args below meth c cells slots A Fin hF hR H locs ls hP hl
  refine lv_if_lt hF.1 hF.2.1 hd ht (fun h => ?_) (fun h => ?_)
  ·
    have h' : a < 0 := by rw [z32] at h; exact (i_lt ha i32_0).mp h
    rw [if_pos h'] at ho
    exact kt h' res ho κ p l eV R s m args below meth c cells slots A Fin hF hR H locs ls hP hl
  ·
    have h' : ¬ (a < 0) := by rw [z32] at h; exact fun q => h ((i_lt ha i32_0).mpr q)
    rw [if_neg h'] at ho
    exact kf h' res ho κ p l eV R s m args below meth c cells slots A Fin hF hR H locs ls hP hl
theorem y_icmp_ge {a b : Int} {off : Int} {tgt : Nat} (hd : decode cc pc = .ok (.if_icmp .ge off, 3)) (ht : (pc : Int) + off = (tgt : Int)) (ha : I32 a) (hb : I32 b) (kt : b ≤ a → Y own cc nL d rk sc tgt L st M o1) (kf : ¬ (b ≤ a) → Y own cc nL d rk sc (pc + 3) L st M o2) : Y own cc nL d rk sc pc L (iv b :: iv a :: st) M (if b ≤ a then o1 else o2) := by
  intro res ho κ p l eV R s m args below meth c cells slots A Fin hF hR H locs ls hP hl
  refine lv_icmp_ge hF.1 hF.2.1 hd ht (fun h => ?_) (fun h => ?_)
  ·
    have h' : b ≤ a := by exact (i_le hb ha).mp h
    rw [if_pos h'] at ho
    exact kt h' res ho κ p l eV R s m args below meth c cells slots A Fin hF hR H locs ls hP hl
  ·
    have h' : ¬ (b ≤ a) := by exact fun q => h ((i_le hb ha).mpr q)
    rw [if_neg h'] at ho
    exact kf h' res ho κ p l eV R s m args below meth c cells slots A Fin hF hR H locs ls hP hl
theorem y_if_ge {a : Int} {off : Int} {tgt : Nat} (hd : decode cc pc = .ok (.ifCond .ge off, 3)) (ht : (pc : Int) + off = (tgt : Int)) (ha : I32 a) (kt : 0 ≤ a → Y own cc nL d rk sc tgt L st M o1) (kf : ¬ (0 ≤ a) → Y own cc nL d rk sc (pc + 3) L st M o2) : Y own cc nL d rk sc pc L (iv a :: st) M (if 0 ≤ a then o1 else o2) := by
  intro res ho κ p l eV R s m args below meth c cells slots A Fin hF hR H locs ls hP hl
  refine lv_if_ge hF.1 hF.2.1 hd ht (fun h => ?_) (fun h => ?_)
  ·
    have h' : 0 ≤ a := by rw [z32] at h; exact (i_le i32_0 ha).mp h
    rw [if_pos h'] at ho
    exact kt h' res ho κ p l eV R s m args below meth c cells slots A Fin hF hR H locs ls hP hl
  ·
    have h' : ¬ (0 ≤ a) := by rw [z32] at h; exact fun q => h ((i_le i32_0 ha).mpr q)
    rw [if_neg h'] at ho
    exact kf h' res ho κ p l eV R s m args below meth c cells slots A Fin hF hR H locs ls hP hl
theorem y_icmp_gt {a b : Int} {off : Int} {tgt : Nat} (hd : decode cc pc = .ok (.if_icmp .gt off, 3)) (ht : (pc : Int) + off = (tgt : Int)) (ha : I32 a) (hb : I32 b) (kt : b < a → Y own cc nL d rk sc tgt L st M o1) (kf : ¬ (b < a) → Y own cc nL d rk sc (pc + 3) L st M o2) : Y own cc nL d rk sc pc L (iv b :: iv a :: st) M (if b < a then o1 else o2) := by
  intro res ho κ p l eV R s m args below meth c cells slots A Fin hF hR H locs ls hP hl
  refine lv_icmp_gt hF.1 hF.2.1 hd ht (fun h => ?_) (fun h => ?_)
  ·
    have h' : b < a := by exact (i_lt hb ha).mp h
    rw [if_pos h'] at ho
    exact kt h' res ho κ p l eV R s m args below meth c cells slots A Fin hF hR H locs ls hP hl
  ·
    have h' : ¬ (b < a) := by exact fun q => h ((i_lt hb ha).mpr q)
    rw [if_neg h'] at ho
    exact kf h' res ho κ p l eV R s m args below meth c cells slots A Fin hF hR H locs ls hP hl
theorem y_if_gt {a : Int} {off : Int} {tgt : Nat} (hd : decode cc pc = .ok (.ifCond .gt off, 3)) (ht : (pc : Int) + off = (tgt : Int)) (ha : I32 a) (kt : 0 < a → Y own cc nL d rk sc tgt L st M o1) (kf : ¬ (0 < a) → Y own cc nL d rk sc (pc + 3) L st M o2) : Y own cc nL d rk sc pc L (iv a :: st) M (if 0 < a then o1 else o2) := by
  intro res ho κ p l eV R s m args below meth c cells slots A Fin hF hR H locs ls hP hl
  refine lv_if_gt hF.1 hF.2.1 hd ht (fun h => ?_) (fun h => ?_)
  ·
    have h' : 0 < a := by rw [z32] at h; exact (i_lt i32_0 ha).mp h
    rw [if_pos h'] at ho
    exact kt h' res ho κ p l eV R s m args below meth c cells slots A Fin hF hR H locs ls hP hl
  ·
    have h' : ¬ (0 < a) := by rw [z32] at h; exact fun q => h ((i_lt i32_0 ha).mpr q)
    rw [if_neg h'] at ho
    exact kf h' res ho κ p l eV R s m args below meth c cells slots A Fin hF hR H locs ls hP hl
theorem y_icmp_le {a b : Int} {off : Int} {tgt : Nat} (hd : decode cc pc = .ok (.if_icmp .le off, 3)) (ht : (pc : Int) + off = (tgt : Int)) (ha : I32 a) (hb : I32 b) (kt : a ≤ b → Y own cc nL d rk sc tgt L st M o1) (kf : ¬ (a ≤ b) → Y own cc nL d rk sc (pc + 3) L st M o2) : Y own cc nL d rk sc pc L (iv b :: iv a :: st) M (if a ≤ b then o1 else o2) := by
  intro res ho κ p l eV R s m args below meth c cells slots A Fin hF hR H locs ls hP hl
  refine lv_icmp_le hF.1 hF.2.1 hd ht (fun h => ?_) (fun h => ?_)
  ·
    have h' : a ≤ b := by exact (i_le ha hb).mp h
    rw [if_pos h'] at ho
    exact kt h' res ho κ p l eV R s m args below meth c cells slots A Fin hF hR H locs ls hP hl
  ·
    have h' : ¬ (a ≤ b) := by exact fun q => h ((i_le ha hb).mpr q)
    rw [if_neg h'] at ho
    exact kf h' res ho κ p l eV R s m args below meth c cells slots A Fin hF hR H locs ls hP hl
theorem y_if_le {a : Int} {off : Int} {tgt : Nat} (hd : decode cc pc = .ok (.ifCond .le off, 3)) (ht : (pc : Int) + off = (tgt : Int)) (ha : I32 a) (kt : a ≤ 0 → Y own cc nL d rk sc tgt L st M o1) (kf : ¬ (a ≤ 0) → Y own cc nL d rk sc (pc + 3) L st M o2) : Y own cc nL d rk sc pc L (iv a :: st) M (if a ≤ 0 then o1 else o2) := by
  intro res ho κ p l eV R s m args below meth c cells slots A Fin hF hR H locs ls hP hl
  refine lv_if_le hF.1 hF.2.1 hd ht (fun h => ?_) (fun h => ?_)
  ·
    have h' : a ≤ 0 := by rw [z32] at h; exact (i_le ha i32_0).mp h
    rw [if_pos h'] at ho
    exact kt h' res ho κ p l eV R s m args below meth c cells slots A Fin hF hR H locs ls hP hl
  ·
    have h' : ¬ (a ≤ 0) := by rw [z32] at h; exact fun q => h ((i_le ha i32_0).mpr q)
    rw [if_neg h'] at ho
    exact kf h' res ho κ p l eV R s m args below meth c cells slots A Fin hF hR H locs ls hP hl
theorem y_gd {P : Prop} {dP : Decidable P} (k : P → Y own cc nL d rk sc pc L st M o) : Y own cc nL d rk sc pc L st M (if P then o else none) := by
  intro res ho κ p l eV R s m args below meth c cells slots A Fin hF hR H locs ls hP hl
  obtain ⟨h, ho⟩ := gd_some ho
  exact k h res ho κ p l eV R s m args below meth c cells slots A Fin hF hR H locs ls hP hl
theorem y_br {P : Prop} {dP : Decidable P} (kt : P → Y own cc nL d rk sc pc L st M o1) (kf : ¬ P → Y own cc nL d rk sc pc L st M o2) : Y own cc nL d rk sc pc L st M (if P then o1 else o2) := by
  intro res ho κ p l eV R s m args below meth c cells slots A Fin hF hR H locs ls hP hl
  by_cases h : P
  · rw [if_pos h] at ho
    exact kt h res ho κ p l eV R s m args below meth c cells slots A Fin hF hR H locs ls hP hl
  · rw [if_neg h] at ho
    exact kf h res ho κ p l eV R s m args below meth c cells slots A Fin hF hR H locs ls hP hl
theorem y_none : Y own cc nL d rk sc pc L st M none := by
  intro res ho
  cases ho
theorem y_sub {L' : List (Option AV)} (hs : Lsub L' L) (k : Y own cc nL d rk sc pc L' st M o) : Y own cc nL d rk sc pc L st M o := by
  intro res ho κ p l eV R s m args below meth c cells slots A Fin hF hR H locs ls hP hl
  exact k res ho κ p l eV R s m args below meth c cells slots A Fin hF hR H locs ls hP (agr_sub hl hs)
theorem y_tableIn {dflt lo hi : Int} {offs : Array Int} {len : Nat} {a v off : Int} {tgt : Nat} (hd : decode cc pc = .ok (.tableswitch dflt lo hi offs, len)) (h : a = v) (hv : I32 v) (h1 : ¬ v < lo) (h2 : ¬ hi < v) (hof : offs[(v - lo).toNat]? = some off) (ht : (pc : Int) + off = (tgt : Int)) (k : Y own cc nL d rk sc tgt L st M o) : Y own cc nL d rk sc pc L (iv a :: st) M o := by
  intro res ho κ p l eV R s m args below meth c cells slots A Fin hF hR H locs ls hP hl
  subst h
  have e := i_toInt hv
  exact lv_tableIn (x := Int32.ofInt a) (off := off) hF.1 hF.2.1 hd (by rw [e]; exact h1) (by rw [e]; exact h2) (by rw [e]; exact hof) ht (k res ho κ p l eV R s m args below meth c cells slots A Fin hF hR H locs ls hP hl)
theorem y_tableOut {dflt lo hi : Int} {offs : Array Int} {len : Nat} {a : Int} {tgt : Nat} (hd : decode cc pc = .ok (.tableswitch dflt lo hi offs, len)) (ha : I32 a) (h : a < lo ∨ hi < a) (ht : (pc : Int) + dflt = (tgt : Int)) (k : Y own cc nL d rk sc tgt L st M o) : Y own cc nL d rk sc pc L (iv a :: st) M o := by
  intro res ho κ p l eV R s m args below meth c cells slots A Fin hF hR H locs ls hP hl
  exact lv_tableOut (x := Int32.ofInt a) hF.1 hF.2.1 hd (by rw [i_toInt ha]; exact h) ht (k res ho κ p l eV R s m args below meth c cells slots A Fin hF hR H locs ls hP hl)
theorem y_lookup {dflt : Int} {ps : Array (Int × Int)} {len : Nat} {a off : Int} {tgt : Nat} (hd : decode cc pc = .ok (.lookupswitch dflt ps, len)) (hp : (ps.toList.zip (ps.toList.drop 1)).all (fun (a, next) => a.1 < next.1) = true) (ha : I32 a) (hof : Op.lookupswitch.offset ps.toList dflt a = off) (ht : (pc : Int) + off = (tgt : Int)) (k : Y own cc nL d rk sc tgt L st M o) : Y own cc nL d rk sc pc L (iv a :: st) M o := by
  intro res ho κ p l eV R s m args below meth c cells slots A Fin hF hR H locs ls hP hl
  exact lv_lookup (x := Int32.ofInt a) hF.1 hF.2.1 hd hp (by rw [i_toInt ha]; exact hof) ht (k res ho κ p l eV R s m args below meth c cells slots A Fin hF hR H locs ls hP hl)
theorem y_iret {a : Int} (hd : decode cc pc = .ok (.ireturn, 1)) : Y own cc nL d 0 sc pc L [iv a] M (some (a, M)) := by
  intro res ho κ p l eV R s m args below meth c cells slots A Fin hF hR H locs ls hP hl
  cases ho
  exact (hR H locs ls pc hP).1 (Or.inl rfl) hd
theorem y_zret {a : Int} (hd : decode cc pc = .ok (.ireturn, 1)) (ha : a = 0 ∨ a = 1) : Y own cc nL d 1 sc pc L [iv a] M (some (a, M)) := by
  intro res ho κ p l eV R s m args below meth c cells slots A Fin hF hR H locs ls hP hl
  cases ho
  exact (hR H locs ls pc hP).1 (Or.inr ⟨rfl, ha⟩) hd
theorem y_lret {a : Int} (hd : decode cc pc = .ok (.lreturn, 1)) : Y own cc nL d 2 sc pc L [jv a] M (some (a, M)) := by
  intro res ho κ p l eV R s m args below meth c cells slots A Fin hF hR H locs ls hP hl
  cases ho
  exact (hR H locs ls pc hP).2.1 rfl hd
theorem y_vret (hd : decode cc pc = .ok (.return_, 1)) : Y own cc nL d 3 sc pc L [] M (some (0, M)) := by
  intro res ho κ p l eV R s m args below meth c cells slots A Fin hF hR H locs ls hP hl
  cases ho
  exact (hR H locs ls pc hP).2.2 rfl hd
def GR (own : String) (index q p : Nat) : Prop := ∃ (ci : Nat) (fl : List (Nat ⊕ Nat)) (k : Nat), FLk own index ci k ∧ ob q = some (ci, fl) ∧ fl[k]? = some (.inl p)
def GI (own : String) (index q i : Nat) : Prop := ∃ (ci : Nat) (fl : List (Nat ⊕ Nat)) (k : Nat), FLk own index ci k ∧ ob q = some (ci, fl) ∧ fl[k]? = some (.inr i)
def PI (own : String) (index q i : Nat) (ft : FieldType) : Prop := ∃ (ci : Nat) (fl : List (Nat ⊕ Nat)) (k : Nat), FPk own index ci k ft ∧ ob q = some (ci, fl) ∧ fl[k]? = some (.inr i)
theorem y_getref {index q x : Nat} (hg : GR own index q x) (hd : decode cc pc = .ok (.getfield index, 3)) (k : Y own cc nL d rk sc (pc + 3) L (rv x :: st) M o) : Y own cc nL d rk sc pc L (rv q :: st) M o := by
  intro res ho κ p l eV R s m args below meth c cells slots A Fin hF hR H locs ls hP hl
  obtain ⟨ci, fl, j, ⟨C, T, N, hc, hin, hk, hlink⟩, hob, hfl⟩ := hg
  refine va_get (v := .ref (κ.1 x)) hF.1 hF.2.1 hF.2.2.2.2.1 hin hF.2.2.2.1 hF.2.2.2.2.2.2.2.2.2.1 hP.1 q ((cw_at κ M (ob_lt hob)).trans (by rw [cell_ob κ hob])) hc j hk (hF.2.2.2.2.1 _ hlink) (fun _ h => h) ?_ hd (k res ho κ p l eV R s m args below meth c cells slots A Fin hF hR H locs ls hP hl)
  rw [List.getElem?_map, hfl]; rfl
theorem y_getint {index q x : Nat} (hg : GI own index q x) (hd : decode cc pc = .ok (.getfield index, 3)) (k : Y own cc nL d rk sc (pc + 3) L (iv (rd M q x) :: st) M o) : Y own cc nL d rk sc pc L (rv q :: st) M o := by
  intro res ho κ p l eV R s m args below meth c cells slots A Fin hF hR H locs ls hP hl
  obtain ⟨ci, fl, j, ⟨C, T, N, hc, hin, hk, hlink⟩, hob, hfl⟩ := hg
  refine va_get (v := .int (Int32.ofInt (rd M q x))) hF.1 hF.2.1 hF.2.2.2.2.1 hin hF.2.2.2.1 hF.2.2.2.2.2.2.2.2.2.1 hP.1 q ((cw_at κ M (ob_lt hob)).trans (by rw [cell_ob κ hob])) hc j hk (hF.2.2.2.2.1 _ hlink) (fun _ h => h) ?_ hd (k res ho κ p l eV R s m args below meth c cells slots A Fin hF hR H locs ls hP hl)
  rw [List.getElem?_map, hfl, rd_c]; rfl
theorem y_putint {index q x : Nat} {a : Int} (hg : PI own index q x .int) (hd : decode cc pc = .ok (.putfield index, 3)) (k : Y own cc nL d rk sc (pc + 3) L st (mup M q x a) o) : Y own cc nL d rk sc pc L (iv a :: rv q :: st) M o := by
  intro res ho κ p l eV R s m args below meth c cells slots A Fin hF hR H locs ls hP hl
  obtain ⟨ci, fl, j, ⟨C, T, N, ty, hc, hin, hk, hlink, hty, hnm, hfin, hft⟩, hob, hfl⟩ := hg
  refine va_put (v := .int (Int32.ofInt a)) (ty := .int) hF.1 hF.2.1 hF.2.2.2.2.1 hin ty hty hnm hF.2.2.2.1 hF.2.2.2.2.2.2.2.2.2.1 hP.1 hP.2.1 hP.2.2 q ((cw_at κ M (ob_lt hob)).trans (by rw [cell_ob κ hob])) hc j hk (hF.2.2.2.2.1 _ hlink) (fun _ h => h) hfin (by rw [hty j hk, hft]) rfl rfl (by rw [List.length_map]; exact (List.getElem?_eq_some_iff.mp hfl).1) hd (fun H1 locs1 hP1 hD1 hS1 => ?_)
  have e : (cw κ M).set q (κ.1 q, .inr (ci, (fl.map (fv κ (M q))).set j (.int (Int32.ofInt a)))) = cw κ (mup M q x a) := by
    rw [fl_set κ (M q) (Int32.ofInt a) fl j x (ob_nd hob) hfl, ← cw_set κ (M := M) (M' := mup M q x a) (q := q) (fun z hz => mup_ne M hz), cell_ob κ hob, mup_self]
  rw [e] at hP1 hD1
  exact k res ho κ p l eV R s m args below meth c cells slots A Fin hF hR H1 locs1 ls ⟨hP1, hD1, hS1⟩ hl
theorem y_putbool {index q x : Nat} {a : Int} (hg : PI own index q x .boolean) (ha : a = 0 ∨ a = 1) (hd : decode cc pc = .ok (.putfield index, 3)) (k : Y own cc nL d rk sc (pc + 3) L st (mup M q x a) o) : Y own cc nL d rk sc pc L (iv a :: rv q :: st) M o := by
  intro res ho κ p l eV R s m args below meth c cells slots A Fin hF hR H locs ls hP hl
  obtain ⟨ci, fl, j, ⟨C, T, N, ty, hc, hin, hk, hlink, hty, hnm, hfin, hft⟩, hob, hfl⟩ := hg
  refine va_put (v := .int (Int32.ofInt a)) (ty := .boolean) hF.1 hF.2.1 hF.2.2.2.2.1 hin ty hty hnm hF.2.2.2.1 hF.2.2.2.2.2.2.2.2.2.1 hP.1 hP.2.1 hP.2.2 q ((cw_at κ M (ob_lt hob)).trans (by rw [cell_ob κ hob])) hc j hk (hF.2.2.2.2.1 _ hlink) (fun _ h => h) hfin (by rw [hty j hk, hft]) (by rcases ha with h | h <;> subst h <;> rfl) (by rcases ha with h | h <;> subst h <;> rfl) (by rw [List.length_map]; exact (List.getElem?_eq_some_iff.mp hfl).1) hd (fun H1 locs1 hP1 hD1 hS1 => ?_)
  have e : (cw κ M).set q (κ.1 q, .inr (ci, (fl.map (fv κ (M q))).set j (.int (Int32.ofInt a)))) = cw κ (mup M q x a) := by
    rw [fl_set κ (M q) (Int32.ofInt a) fl j x (ob_nd hob) hfl, ← cw_set κ (M := M) (M' := mup M q x a) (q := q) (fun z hz => mup_ne M hz), cell_ob κ hob, mup_self]
  rw [e] at hP1 hD1
  exact k res ho κ p l eV R s m args below meth c cells slots A Fin hF hR H1 locs1 ls ⟨hP1, hD1, hS1⟩ hl
theorem ty_ar (κ : KP) {q n : Nat} (h : ar q n) : (tys κ)[q]? = some (κ.2.1 q, .int) := by
  rw [tys_at κ h.2.2.1, if_neg h.2.1]
theorem at_ar (κ : KP) (M : Mem) {q n : Nat} (h : ar q n) : (cw κ M)[q]? = some (κ.1 q, .inl (κ.2.1 q, n, .inl (M q))) := by
  rw [cw_at κ M h.2.2.1, cell_ar κ h]
theorem set_ar (κ : KP) (M : Mem) {q n i : Nat} {v : Int} (h : ar q n) : (cw κ M).set q (κ.1 q, .inl (κ.2.1 q, n, .inl (upd (M q) i (Int32.ofInt v)))) = cw κ (mup M q i v) := by
  rw [← cw_set κ (M := M) (M' := mup M q i v) (q := q) (fun z hz => mup_ne M hz), cell_ar κ h, mup_self]
theorem ob_131 : ob 131 = none := rfl
theorem at_131 (κ : KP) (M : Mem) : (cw κ M)[131]? = some (κ.1 131, .inl (κ.2.1 131, 8, .inr (.inr (.inr (.inr (fun i => some (κ.1 (M 131 i).toInt.toNat))))))) := by
  rw [cw_at κ M (by decide)]
  rfl
theorem ty_131 (κ : KP) : (tys κ)[131]? = some (κ.2.1 131, .object "OnlyInFog$World") := by
  rw [tys_at κ (by decide)]
  rfl
theorem y_iald {q n : Nat} {a : Int} (hd : decode cc pc = .ok (.iaload, 1)) (har : ar q n) (h : 0 ≤ a ∧ a < (n : Int)) (k : Y own cc nL d rk sc (pc + 1) L (iv (rd M q a.toNat) :: st) M o) : Y own cc nL d rk sc pc L (iv a :: rv q :: st) M o := by
  intro res ho κ p l eV R s m args below meth c cells slots A Fin hF hR H locs ls hP hl
  have k' := k res ho κ p l eV R s m args below meth c cells slots A Fin hF hR H locs ls hP hl
  refine va_iald hF.1 hF.2.1 hF.2.2.2.2.2.2.2.2.2.1 hP.1 q q (at_ar κ M har) (ty_ar κ har) (i_in h.1 h.2 (ar_lt har)) hd ?_
  rw [show List.map (cv κ) (iv (rd M q a.toNat) :: st) = .int (Int32.ofInt (rd M q a.toNat)) :: st.map (cv κ) from rfl, rd_c] at k'
  rw [i_ix h.1 (by have := ar_lt har; omega)]
  exact k'
theorem y_iast {q n : Nat} {a v : Int} (hd : decode cc pc = .ok (.iastore, 1)) (har : ar q n) (h : 0 ≤ a ∧ a < (n : Int)) (k : Y own cc nL d rk sc (pc + 1) L st (mup M q a.toNat v) o) : Y own cc nL d rk sc pc L (iv v :: iv a :: rv q :: st) M o := by
  intro res ho κ p l eV R s m args below meth c cells slots A Fin hF hR H locs ls hP hl
  refine va_iast (x := Int32.ofInt v) hF.1 hF.2.1 hF.2.2.2.2.2.2.2.2.2.1 hP.1 hP.2.1 hP.2.2 q q (at_ar κ M har) (ty_ar κ har) (i_in h.1 h.2 (ar_lt har)) hd (fun H1 locs1 hP1 hD1 hS1 => ?_)
  rw [i_ix h.1 (by have := ar_lt har; omega), set_ar κ M har] at hP1 hD1
  exact k res ho κ p l eV R s m args below meth c cells slots A Fin hF hR H1 locs1 ls ⟨hP1, hD1, hS1⟩ hl
theorem y_aald {a : Int} (hd : decode cc pc = .ok (.aaload, 1)) (h : 0 ≤ a ∧ a < 8) (k : Y own cc nL d rk sc (pc + 1) L (rv (rd M 131 a.toNat).toNat :: st) M o) : Y own cc nL d rk sc pc L (iv a :: rv 131 :: st) M o := by
  intro res ho κ p l eV R s m args below meth c cells slots A Fin hF hR H locs ls hP hl
  have k' := k res ho κ p l eV R s m args below meth c cells slots A Fin hF hR H locs ls hP hl
  refine va_aldq hF.1 hF.2.1 hF.2.2.2.2.2.2.2.2.2.1 hP.1 131 131 (at_131 κ M) (ty_131 κ) (i_in h.1 h.2 (by decide)) hd ?_
  rw [i_ix h.1 (by omega)]
  exact k'
theorem y_aast {a : Int} {q : Nat} (hd : decode cc pc = .ok (.aastore, 1)) (h : 0 ≤ a ∧ a < 8) (hq : isW q) (k : Y own cc nL d rk sc (pc + 1) L st (mup M 131 a.toNat (q : Int)) o) : Y own cc nL d rk sc pc L (rv q :: iv a :: rv 131 :: st) M o := by
  intro res ho κ p l eV R s m args below meth c cells slots A Fin hF hR H locs ls hP hl
  refine va_astq (r := (RX4, TX4, 15)) hF.1 hF.2.1 hF.2.2.2.2.2.2.2.2.2.1 hP.1 hP.2.1 hP.2.2 131 131 q 2 (at_131 κ M) (ty_131 κ) ((cw_at κ M (ob_lt (ob_w hq))).trans (by rw [cell_ob κ (ob_w hq)])) rfl (i_in h.1 h.2 (by decide)) hd (fun H1 locs1 hP1 hD1 hS1 => ?_)
  have e1 : cell κ 131 (mup M 131 a.toNat (q : Int) 131) = .inl (κ.2.1 131, 8, .inr (.inr (.inr (.inr (fun i => some (κ.1 (mup M 131 a.toNat (q : Int) 131 i).toInt.toNat)))))) := rfl
  have e2 : (fun i => some (κ.1 (mup M 131 a.toNat (q : Int) 131 i).toInt.toNat)) = va_up (fun i => some (κ.1 (M 131 i).toInt.toNat)) a.toNat (some (κ.1 q)) := by
    funext i
    rw [mup_self]
    unfold upd va_up
    by_cases hi : i = a.toNat
    · rw [if_pos hi, if_pos hi, i_toInt ⟨by omega, by have := hq.1; omega⟩]; rfl
    · rw [if_neg hi, if_neg hi]
  have e : (cw κ M).set 131 (κ.1 131, .inl (κ.2.1 131, 8, .inr (.inr (.inr (.inr (va_up (fun i => some (κ.1 (M 131 i).toInt.toNat)) a.toNat (some (κ.1 q)))))))) = cw κ (mup M 131 a.toNat (q : Int)) := by
    rw [← cw_set κ (M := M) (M' := mup M 131 a.toNat (q : Int)) (q := 131) (fun z hz => mup_ne M hz), e1, e2]
  rw [i_ix h.1 (by omega), e] at hP1 hD1
  exact k res ho κ p l eV R s m args below meth c cells slots A Fin hF hR H1 locs1 ls ⟨hP1, hD1, hS1⟩ hl
theorem y_alen {q n : Nat} (hd : decode cc pc = .ok (.arraylength, 1)) (har : ar q n) (k : Y own cc nL d rk sc (pc + 1) L (iv (n : Int) :: st) M o) : Y own cc nL d rk sc pc L (rv q :: st) M o := by
  intro res ho κ p l eV R s m args below meth c cells slots A Fin hF hR H locs ls hP hl
  exact va_alen (v := Int32.ofInt (n : Int)) hF.1 hF.2.1 hF.2.2.2.2.2.2.2.2.2.1 hP.1 q q (at_ar κ M har) (ty_ar κ har) (Int32.ofInt_eq_ofNat).symm hd (k res ho κ p l eV R s m args below meth c cells slots A Fin hF hR H locs ls hP hl)
def mcp (M : Mem) (q0 sp q1 dp n : Nat) : Mem := fun a b => if a = q1 ∧ dp ≤ b ∧ b < dp + n then M q0 (sp + (b - dp)) else M a b
theorem mcp_ne (M : Mem) {q0 sp q1 dp n a : Nat} (h : a ≠ q1) : mcp M q0 sp q1 dp n a = M a := by
  funext b
  show (if a = q1 ∧ dp ≤ b ∧ b < dp + n then _ else _) = _
  rw [if_neg (fun z => h z.1)]
theorem mcp_self (M : Mem) (q0 sp q1 dp n : Nat) : mcp M q0 sp q1 dp n q1 = va_cpy (M q0) (M q1) sp dp n := by
  funext b
  show (if q1 = q1 ∧ dp ≤ b ∧ b < dp + n then _ else _) = (if dp ≤ b ∧ b < dp + n then _ else _)
  by_cases h : dp ≤ b ∧ b < dp + n
  · rw [if_pos ⟨rfl, h⟩, if_pos h]
  · rw [if_neg (fun z => h z.2), if_neg h]
theorem y_copy {index q0 q1 n0 n1 : Nat} {sp dp n : Int} (hlk : Cond.methodLink own index arraycopyName ∈ lw_g) (hd : decode cc pc = .ok (.invokestatic index, 3)) (h0 : ar q0 n0) (h1 : ar q1 n1) (hs : 0 ≤ sp ∧ 0 ≤ dp ∧ 0 ≤ n ∧ sp + n ≤ (n0 : Int) ∧ dp + n ≤ (n1 : Int)) (hcat : (st.map catA).sum ≤ 8) (hfr : 1 ≤ d) (k : Y own cc nL d rk sc (pc + 3) L st (mcp M q0 sp.toNat q1 dp.toNat n.toNat) o) : Y own cc nL d rk sc pc L (iv n :: iv dp :: rv q1 :: iv sp :: rv q0 :: st) M o := by
  intro res ho κ p l eV R s m args below meth c cells slots A Fin hF hR H locs ls hP hl
  have hts := hF.2.2.2.2.1
  have a0 := ar_lt h0
  have a1 := ar_lt h1
  have es := i_ix (a := sp) hs.1 (by omega)
  have ed := i_ix (a := dp) hs.2.1 (by omega)
  have en := i_ix (a := n) hs.2.2.1 (by omega)
  have nn : ∀ z : Int, 0 ≤ z → z < 2147483648 → ¬ Int32.ofInt z < 0 := by
    intro z hz hz2
    rw [z32, i_lt ⟨by omega, by omega⟩ i32_0]
    omega
  have hcs : ((st.map (cv κ)).map fun v => v.category).sum ≤ 8 := by rw [cats_cv]; exact hcat
  have hd34 : 34 ≤ 34 * d := by omega
  refine va_copyi (sp := Int32.ofInt sp) (dp := Int32.ofInt dp) (n := Int32.ofInt n) hF.1 hF.2.1 (hF.2.2.1.trans hl.1.symm) hF.2.2.2.1 (hts _ hlk) (hts _ w_acN) (hts _ w_acS) (hts _ w_acI) hF.2.2.2.2.2.2.2.2.2.1 hP.1 hP.2.1 hP.2.2 q0 q1 q0 q1 (at_ar κ M h0) (at_ar κ M h1) (ty_ar κ h0) (ty_ar κ h1) rfl (nn sp hs.1 (by omega)) (nn dp hs.2.1 (by omega)) (nn n hs.2.2.1 (by omega)) (by rw [es, en]; omega) (by rw [ed, en]; omega) (fun i _ => rfl) (Nat.le_trans hfr hF.2.2.2.2.2.1) (Nat.le_trans (Nat.add_le_add hcs (Nat.le_of_ble_eq_true rfl : nativeFrameWords "java/lang/System" "arraycopy" 5 + 11 ≤ 26)) (Nat.le_trans hd34 hF.2.2.2.2.2.2.1)) hd (fun H1 locs1 hP1 hD1 hS1 => ?_)
  have e : (cw κ M).set q1 (κ.1 q1, .inl (κ.2.1 q1, n1, .inl (va_cpy (M q0) (M q1) sp.toNat dp.toNat n.toNat))) = cw κ (mcp M q0 sp.toNat q1 dp.toNat n.toNat) := by
    rw [← cw_set κ (M := M) (M' := mcp M q0 sp.toNat q1 dp.toNat n.toNat) (q := q1) (fun z hz => mcp_ne M hz), cell_ar κ h1, mcp_self]
  rw [es, ed, en, e] at hP1 hD1
  exact k res ho κ p l eV R s m args below meth c cells slots A Fin hF hR H1 locs1 ls ⟨hP1, hD1, hS1⟩ hl
theorem y_mmax {index : Nat} {a b : Int} (ha : I32 a) (hb : I32 b) (hlk : Cond.methodLink own index Lib.Math.max.name ∈ lw_g) (hd : decode cc pc = .ok (.invokestatic index, 3)) (hcat : (st.map catA).sum ≤ 8) (hfr : 1 ≤ d) (k : Y own cc nL d rk sc (pc + 3) L (iv (if a < b then b else a) :: st) M o) : Y own cc nL d rk sc pc L (iv b :: iv a :: st) M o := by
  intro res ho κ p l eV R s m args below meth c cells slots A Fin hF hR H locs ls hP hl
  have hts := hF.2.2.2.2.1
  have k' := k res ho κ p l eV R s m args below meth c cells slots A Fin hF hR H locs ls hP hl
  have hcs : ((st.map (cv κ)).map fun v => v.category).sum ≤ 8 := by rw [cats_cv]; exact hcat
  have hd34 : 34 ≤ 34 * d := by omega
  refine va_mmax (x := Int32.ofInt a) (y := Int32.ofInt b) hF.1 hF.2.1 (hF.2.2.1.trans hl.1.symm) hF.2.2.2.1 (hts _ hlk) (hts _ w_maxS) (hts _ w_mI) (hts _ w_maxC) (Nat.le_trans hfr hF.2.2.2.2.2.1) (Nat.le_trans (Nat.add_le_add_right hcs 13) (Nat.le_trans (by omega) (Nat.le_trans hd34 hF.2.2.2.2.2.2.1))) hF.2.2.2.2.2.2.2.1 hF.2.2.2.2.2.2.2.2.1 hd ?_
  rw [show List.map (cv κ) (iv (if a < b then b else a) :: st) = .int (Int32.ofInt (if a < b then b else a)) :: st.map (cv κ) from rfl, ← i_max ha hb] at k'
  exact k'
theorem y_mabs {index : Nat} {a : Int} (ha : I32 a) (hlk : Cond.methodLink own index Lib.Math.abs.name ∈ lw_g) (hd : decode cc pc = .ok (.invokestatic index, 3)) (hcat : (st.map catA).sum ≤ 8) (hfr : 1 ≤ d) (k : Y own cc nL d rk sc (pc + 3) L (iv (if 0 ≤ a then a else -a) :: st) M o) : Y own cc nL d rk sc pc L (iv a :: st) M o := by
  intro res ho κ p l eV R s m args below meth c cells slots A Fin hF hR H locs ls hP hl
  have hts := hF.2.2.2.2.1
  have k' := k res ho κ p l eV R s m args below meth c cells slots A Fin hF hR H locs ls hP hl
  have hcs : ((st.map (cv κ)).map fun v => v.category).sum ≤ 8 := by rw [cats_cv]; exact hcat
  have hd34 : 34 ≤ 34 * d := by omega
  refine va_mabs (x := Int32.ofInt a) hF.1 hF.2.1 (hF.2.2.1.trans hl.1.symm) hF.2.2.2.1 (hts _ hlk) (hts _ w_absS) (hts _ w_mI) (hts _ w_absC) (Nat.le_trans hfr hF.2.2.2.2.2.1) (Nat.le_trans (Nat.add_le_add_right hcs 13) (Nat.le_trans (by omega) (Nat.le_trans hd34 hF.2.2.2.2.2.2.1))) hF.2.2.2.2.2.2.2.1 hF.2.2.2.2.2.2.2.2.1 hd ?_
  rw [show List.map (cv κ) (iv (if 0 ≤ a then a else -a) :: st) = .int (Int32.ofInt (if 0 ≤ a then a else -a)) :: st.map (cv κ) from rfl, ← i_abs ha] at k'
  exact k'
theorem y_sld {Ls : Nat} {xs : Nat → Int32} {a : Int} (hd : decode cc pc = .ok (.iaload, 1)) (hsc : sc = some (Ls, xs)) (hLs : Ls < 2147483648) (h : 0 ≤ a ∧ a < (Ls : Int)) (k : Y own cc nL d rk sc (pc + 1) L (iv (xs a.toNat).toInt :: st) M o) : Y own cc nL d rk sc pc L (iv a :: rv 158 :: st) M o := by
  intro res ho κ p l eV R s m args below meth c cells slots A Fin hF hR H locs ls hP hl
  have k' := k res ho κ p l eV R s m args below meth c cells slots A Fin hF hR H locs ls hP hl
  obtain ⟨hX, hbl, hbA⟩ := hF.2.2.2.2.2.2.2.2.2.2.2.1 Ls xs hsc
  refine va_sld hF.1 hF.2.1 hX hbl hbA hP.2.2 (i_in h.1 h.2 hLs) hd ?_
  rw [show List.map (cv κ) (iv (xs a.toNat).toInt :: st) = .int (Int32.ofInt (xs a.toNat).toInt) :: st.map (cv κ) from rfl, i_ofToInt] at k'
  rw [i_ix h.1 (by omega)]
  exact k'
theorem y_slen {Ls : Nat} {xs : Nat → Int32} (hd : decode cc pc = .ok (.arraylength, 1)) (hsc : sc = some (Ls, xs)) (k : Y own cc nL d rk sc (pc + 1) L (iv (Ls : Int) :: st) M o) : Y own cc nL d rk sc pc L (rv 158 :: st) M o := by
  intro res ho κ p l eV R s m args below meth c cells slots A Fin hF hR H locs ls hP hl
  have k' := k res ho κ p l eV R s m args below meth c cells slots A Fin hF hR H locs ls hP hl
  obtain ⟨hX, hbl, hbA⟩ := hF.2.2.2.2.2.2.2.2.2.2.2.1 Ls xs hsc
  refine va_slen hF.1 hF.2.1 hX hbl hbA hP.2.2 hd ?_
  rw [show List.map (cv κ) (iv (Ls : Int) :: st) = .int (Int32.ofInt (Ls : Int)) :: st.map (cv κ) from rfl, Int32.ofInt_eq_ofNat] at k'
  exact k'
end ROWS
