section ROWS
variable {own : String} {cc : ByteArray} {nL d rk : Nat} {sc : SC} {pc : Nat} {L : List (Option AV)} {st : List AV} {M E : Mem} {nx u : Nat} {o o1 o2 : Rs}
theorem x_iconst {n : Int} (hd : decode cc pc = .ok (.iconst n, 1)) (k : X own cc nL d rk sc (pc + 1) L (iv n :: st) M E nx u o) : X own cc nL d rk sc pc L st M E nx u o := by
  intro res ho κ p l eV R s m args below meth c cells slots A Fin hF hR H locs ls hP hl
  exact lv_iconst hF.1 hF.2.1 hd rfl (k res ho κ p l eV R s m args below meth c cells slots A Fin hF hR H locs ls hP hl)
theorem x_bipush {n : Int} (hd : decode cc pc = .ok (.bipush n, 2)) (hv : (Int8.ofInt n).toInt32 = Int32.ofInt n) (k : X own cc nL d rk sc (pc + 2) L (iv n :: st) M E nx u o) : X own cc nL d rk sc pc L st M E nx u o := by
  intro res ho κ p l eV R s m args below meth c cells slots A Fin hF hR H locs ls hP hl
  exact lv_bipush hF.1 hF.2.1 hd hv (k res ho κ p l eV R s m args below meth c cells slots A Fin hF hR H locs ls hP hl)
theorem x_sipush {n : Int} (hd : decode cc pc = .ok (.sipush n, 3)) (hv : (Int16.ofInt n).toInt32 = Int32.ofInt n) (k : X own cc nL d rk sc (pc + 3) L (iv n :: st) M E nx u o) : X own cc nL d rk sc pc L st M E nx u o := by
  intro res ho κ p l eV R s m args below meth c cells slots A Fin hF hR H locs ls hP hl
  exact lv_sipush hF.1 hF.2.1 hd hv (k res ho κ p l eV R s m args below meth c cells slots A Fin hF hR H locs ls hP hl)
theorem x_ldc {index : Nat} {v : Int32} {n : Int} (hw : Cond.constant own index v ∈ lw_g) (hv : v = Int32.ofInt n) (hd : decode cc pc = .ok (.ldc index, 2)) (k : X own cc nL d rk sc (pc + 2) L (iv n :: st) M E nx u o) : X own cc nL d rk sc pc L st M E nx u o := by
  intro res ho κ p l eV R s m args below meth c cells slots A Fin hF hR H locs ls hP hl
  exact lv_ldc hF.1 hF.2.1 hF.2.2.2.1 (hF.2.2.2.2.1 _ (hv ▸ hw)) hd (k res ho κ p l eV R s m args below meth c cells slots A Fin hF hR H locs ls hP hl)
theorem x_ldcw {index : Nat} {v : Int32} {n : Int} (hw : Cond.constant own index v ∈ lw_g) (hv : v = Int32.ofInt n) (hd : decode cc pc = .ok (.ldc_w index, 3)) (k : X own cc nL d rk sc (pc + 3) L (iv n :: st) M E nx u o) : X own cc nL d rk sc pc L st M E nx u o := by
  intro res ho κ p l eV R s m args below meth c cells slots A Fin hF hR H locs ls hP hl
  exact lv_ldcw hF.1 hF.2.1 hF.2.2.2.1 (hF.2.2.2.2.1 _ (hv ▸ hw)) hd (k res ho κ p l eV R s m args below meth c cells slots A Fin hF hR H locs ls hP hl)
theorem x_ldc2 {index : Nat} {v : Int64} {n : Int} (hw : Cond.constantLong own index v ∈ lw_g) (hv : v = Int64.ofInt n) (hd : decode cc pc = .ok (.ldc2_w index, 3)) (k : X own cc nL d rk sc (pc + 3) L (jv n :: st) M E nx u o) : X own cc nL d rk sc pc L st M E nx u o := by
  intro res ho κ p l eV R s m args below meth c cells slots A Fin hF hR H locs ls hP hl
  exact lv_ldc2 hF.1 hF.2.1 hF.2.2.2.1 (hF.2.2.2.2.1 _ (hv ▸ hw)) hd (k res ho κ p l eV R s m args below meth c cells slots A Fin hF hR H locs ls hP hl)
theorem x_lconst {n : Fin 2} {a : Int} (hd : decode cc pc = .ok (.lconst n, 1)) (hv : Int64.ofNat (n : Nat) = Int64.ofInt a) (k : X own cc nL d rk sc (pc + 1) L (jv a :: st) M E nx u o) : X own cc nL d rk sc pc L st M E nx u o := by
  intro res ho κ p l eV R s m args below meth c cells slots A Fin hF hR H locs ls hP hl
  exact lv_lconst hF.1 hF.2.1 hd hv (k res ho κ p l eV R s m args below meth c cells slots A Fin hF hR H locs ls hP hl)
theorem x_iload_n {i : Fin 4} {a : Int} (hd : decode cc pc = .ok (.iload_n i, 1)) (hL : L[(i : Nat)]? = some (some (iv a))) (k : X own cc nL d rk sc (pc + 1) L (iv a :: st) M E nx u o) : X own cc nL d rk sc pc L st M E nx u o := by
  intro res ho κ p l eV R s m args below meth c cells slots A Fin hF hR H locs ls hP hl
  exact lv_iload_n hF.1 hF.2.1 hd rfl (agr_at hl hL) (k res ho κ p l eV R s m args below meth c cells slots A Fin hF hR H locs ls hP hl)
theorem x_iload {i : Nat} {a : Int} (hd : decode cc pc = .ok (.iload i, 2)) (hL : L[i]? = some (some (iv a))) (k : X own cc nL d rk sc (pc + 2) L (iv a :: st) M E nx u o) : X own cc nL d rk sc pc L st M E nx u o := by
  intro res ho κ p l eV R s m args below meth c cells slots A Fin hF hR H locs ls hP hl
  exact lv_iload hF.1 hF.2.1 hd (agr_at hl hL) (k res ho κ p l eV R s m args below meth c cells slots A Fin hF hR H locs ls hP hl)
theorem x_lload_n {i : Fin 4} {a : Int} (hd : decode cc pc = .ok (.lload_n i, 1)) (hL : L[(i : Nat)]? = some (some (jv a))) (k : X own cc nL d rk sc (pc + 1) L (jv a :: st) M E nx u o) : X own cc nL d rk sc pc L st M E nx u o := by
  intro res ho κ p l eV R s m args below meth c cells slots A Fin hF hR H locs ls hP hl
  exact lv_lload_n hF.1 hF.2.1 hd rfl (agr_at hl hL) (k res ho κ p l eV R s m args below meth c cells slots A Fin hF hR H locs ls hP hl)
theorem x_lload {i : Nat} {a : Int} (hd : decode cc pc = .ok (.lload i, 2)) (hL : L[i]? = some (some (jv a))) (k : X own cc nL d rk sc (pc + 2) L (jv a :: st) M E nx u o) : X own cc nL d rk sc pc L st M E nx u o := by
  intro res ho κ p l eV R s m args below meth c cells slots A Fin hF hR H locs ls hP hl
  exact lv_lload hF.1 hF.2.1 hd (agr_at hl hL) (k res ho κ p l eV R s m args below meth c cells slots A Fin hF hR H locs ls hP hl)
theorem x_aload_n {i : Fin 4} {a : Nat} (hd : decode cc pc = .ok (.aload_n i, 1)) (hL : L[(i : Nat)]? = some (some (rv a))) (k : X own cc nL d rk sc (pc + 1) L (rv a :: st) M E nx u o) : X own cc nL d rk sc pc L st M E nx u o := by
  intro res ho κ p l eV R s m args below meth c cells slots A Fin hF hR H locs ls hP hl
  exact lv_aload_n hF.1 hF.2.1 hd rfl (agr_at hl hL) (k res ho κ p l eV R s m args below meth c cells slots A Fin hF hR H locs ls hP hl)
theorem x_aload {i : Nat} {a : Nat} (hd : decode cc pc = .ok (.aload i, 2)) (hL : L[i]? = some (some (rv a))) (k : X own cc nL d rk sc (pc + 2) L (rv a :: st) M E nx u o) : X own cc nL d rk sc pc L st M E nx u o := by
  intro res ho κ p l eV R s m args below meth c cells slots A Fin hF hR H locs ls hP hl
  exact lv_aload hF.1 hF.2.1 hd (agr_at hl hL) (k res ho κ p l eV R s m args below meth c cells slots A Fin hF hR H locs ls hP hl)
theorem x_istore_n {i : Fin 4} {a : Int} {L' : List (Option AV)} (hd : decode cc pc = .ok (.istore_n i, 1)) (hn : (i : Nat) < nL) (hok : okst L i = true) (hs : L.set i (some (iv a)) = L') (k : X own cc nL d rk sc (pc + 1) L' st M E nx u o) : X own cc nL d rk sc pc L (iv a :: st) M E nx u o := by
  intro res ho κ p l eV R s m args below meth c cells slots A Fin hF hR H locs ls hP hl
  exact lv_istore_n hF.1 hF.2.1 hd rfl hl hn rfl (fun ls' h' => k res ho κ p l eV R s m args below meth c cells slots A Fin hF hR H locs ls' hP (agr_set1 hok hs h'))
theorem x_istore {i : Nat} {a : Int} {L' : List (Option AV)} (hd : decode cc pc = .ok (.istore i, 2)) (hn : i < nL) (hok : okst L i = true) (hs : L.set i (some (iv a)) = L') (k : X own cc nL d rk sc (pc + 2) L' st M E nx u o) : X own cc nL d rk sc pc L (iv a :: st) M E nx u o := by
  intro res ho κ p l eV R s m args below meth c cells slots A Fin hF hR H locs ls hP hl
  exact lv_istore hF.1 hF.2.1 hd hl hn rfl (fun ls' h' => k res ho κ p l eV R s m args below meth c cells slots A Fin hF hR H locs ls' hP (agr_set1 hok hs h'))
theorem x_astore_n {i : Fin 4} {a : Nat} {L' : List (Option AV)} (hd : decode cc pc = .ok (.astore_n i, 1)) (hn : (i : Nat) < nL) (hok : okst L i = true) (hs : L.set i (some (rv a)) = L') (k : X own cc nL d rk sc (pc + 1) L' st M E nx u o) : X own cc nL d rk sc pc L (rv a :: st) M E nx u o := by
  intro res ho κ p l eV R s m args below meth c cells slots A Fin hF hR H locs ls hP hl
  exact lv_astore_n hF.1 hF.2.1 hd rfl hl hn rfl (fun ls' h' => k res ho κ p l eV R s m args below meth c cells slots A Fin hF hR H locs ls' hP (agr_set1 hok hs h'))
theorem x_astore {i : Nat} {a : Nat} {L' : List (Option AV)} (hd : decode cc pc = .ok (.astore i, 2)) (hn : i < nL) (hok : okst L i = true) (hs : L.set i (some (rv a)) = L') (k : X own cc nL d rk sc (pc + 2) L' st M E nx u o) : X own cc nL d rk sc pc L (rv a :: st) M E nx u o := by
  intro res ho κ p l eV R s m args below meth c cells slots A Fin hF hR H locs ls hP hl
  exact lv_astore hF.1 hF.2.1 hd hl hn rfl (fun ls' h' => k res ho κ p l eV R s m args below meth c cells slots A Fin hF hR H locs ls' hP (agr_set1 hok hs h'))
theorem x_lstore_n {i : Fin 4} {a : Int} {L' : List (Option AV)} (hd : decode cc pc = .ok (.lstore_n i, 1)) (hn : (i : Nat) + 1 < nL) (hok : okst L i = true) (hs : (L.set i (some (jv a))).set (i + 1) none = L') (k : X own cc nL d rk sc (pc + 1) L' st M E nx u o) : X own cc nL d rk sc pc L (jv a :: st) M E nx u o := by
  intro res ho κ p l eV R s m args below meth c cells slots A Fin hF hR H locs ls hP hl
  exact lv_lstore_n hF.1 hF.2.1 hd rfl hl hn rfl (fun ls' h' => k res ho κ p l eV R s m args below meth c cells slots A Fin hF hR H locs ls' hP (agr_set2 hok hs h'))
theorem x_lstore {i : Nat} {a : Int} {L' : List (Option AV)} (hd : decode cc pc = .ok (.lstore i, 2)) (hn : i + 1 < nL) (hok : okst L i = true) (hs : (L.set i (some (jv a))).set (i + 1) none = L') (k : X own cc nL d rk sc (pc + 2) L' st M E nx u o) : X own cc nL d rk sc pc L (jv a :: st) M E nx u o := by
  intro res ho κ p l eV R s m args below meth c cells slots A Fin hF hR H locs ls hP hl
  exact lv_lstore hF.1 hF.2.1 hd hl hn rfl (fun ls' h' => k res ho κ p l eV R s m args below meth c cells slots A Fin hF hR H locs ls' hP (agr_set2 hok hs h'))
theorem x_iinc {i : Nat} {n a : Int} {L' : List (Option AV)} (hd : decode cc pc = .ok (.iinc i n, 3)) (hL : L[i]? = some (some (iv a))) (hn : i < nL) (hok : okst L i = true) (hs : L.set i (some (iv (a + n))) = L') (k : X own cc nL d rk sc (pc + 3) L' st M E nx u o) : X own cc nL d rk sc pc L st M E nx u o := by
  intro res ho κ p l eV R s m args below meth c cells slots A Fin hF hR H locs ls hP hl
  have h1 : lv_has ls nL ((i, Value.int (Int32.ofInt a)) :: pr κ 0 L) := ⟨hl.1, hl.2.1, fun q hq => by
    rcases List.mem_cons.mp hq with h | h
    · rw [h]; exact agr_at hl hL
    · exact hl.2.2 q h⟩
  refine lv_iinc (k := 0) (v := Int32.ofInt (a + n)) hF.1 hF.2.1 hd h1 rfl (Int32.ofInt_add a n).symm hn rfl (fun ls' h' => k res ho κ p l eV R s m args below meth c cells slots A Fin hF hR H locs ls' hP ?_)
  refine agr_set1 hok hs ⟨h'.1, h'.2.1, fun q hq => h'.2.2 q ?_⟩
  rcases List.mem_cons.mp hq with h | h
  · rw [h]; exact List.mem_cons_self
  · obtain ⟨h2, h3⟩ := List.mem_filter.mp h
    exact List.mem_cons_of_mem _ (List.mem_filter.mpr ⟨List.mem_cons_of_mem _ h2, h3⟩)
theorem x_dup {v : AV} (hd : decode cc pc = .ok (.dup, 1)) (hc : catA v = 1) (k : X own cc nL d rk sc (pc + 1) L (v :: v :: st) M E nx u o) : X own cc nL d rk sc pc L (v :: st) M E nx u o := by
  intro res ho κ p l eV R s m args below meth c cells slots A Fin hF hR H locs ls hP hl
  exact lv_dup hF.1 hF.2.1 hd ((cat_cv κ v).trans hc) (k res ho κ p l eV R s m args below meth c cells slots A Fin hF hR H locs ls hP hl)
theorem x_pop {v : AV} (hd : decode cc pc = .ok (.pop, 1)) (hc : catA v = 1) (k : X own cc nL d rk sc (pc + 1) L st M E nx u o) : X own cc nL d rk sc pc L (v :: st) M E nx u o := by
  intro res ho κ p l eV R s m args below meth c cells slots A Fin hF hR H locs ls hP hl
  exact lv_pop hF.1 hF.2.1 hd ((cat_cv κ v).trans hc) (k res ho κ p l eV R s m args below meth c cells slots A Fin hF hR H locs ls hP hl)
theorem x_dup2 {v v2 : AV} (hd : decode cc pc = .ok (.dup2, 1)) (hc : catA v = 1) (hc' : catA v2 = 1) (k : X own cc nL d rk sc (pc + 1) L (v :: v2 :: v :: v2 :: st) M E nx u o) : X own cc nL d rk sc pc L (v :: v2 :: st) M E nx u o := by
  intro res ho κ p l eV R s m args below meth c cells slots A Fin hF hR H locs ls hP hl
  exact lv_dup2_11 hF.1 hF.2.1 hd ((cat_cv κ v).trans hc) ((cat_cv κ v2).trans hc') (k res ho κ p l eV R s m args below meth c cells slots A Fin hF hR H locs ls hP hl)
theorem x_goto {off : Int} {tgt : Nat} (hd : decode cc pc = .ok (.goto off, 3)) (ht : (pc : Int) + off = (tgt : Int)) (k : X own cc nL d rk sc tgt L st M E nx u o) : X own cc nL d rk sc pc L st M E nx u o := by
  intro res ho κ p l eV R s m args below meth c cells slots A Fin hF hR H locs ls hP hl
  exact lv_goto hF.1 hF.2.1 hd ht (k res ho κ p l eV R s m args below meth c cells slots A Fin hF hR H locs ls hP hl)
theorem x_iadd {a b : Int} (hd : decode cc pc = .ok (.iadd, 1)) (k : X own cc nL d rk sc (pc + 1) L (iv (a + b) :: st) M E nx u o) : X own cc nL d rk sc pc L (iv b :: iv a :: st) M E nx u o := by
  intro res ho κ p l eV R s m args below meth c cells slots A Fin hF hR H locs ls hP hl
  have k' := k res ho κ p l eV R s m args below meth c cells slots A Fin hF hR H locs ls hP hl
  refine lv_iadd hF.1 hF.2.1 hd ?_
  have e : Int32.ofInt (a + b) = Int32.ofInt a + Int32.ofInt b := Int32.ofInt_add a b
  rw [show List.map (cv κ) (iv (a + b) :: st) = .int (Int32.ofInt (a + b)) :: st.map (cv κ) from rfl, e] at k'
  exact k'
theorem x_isub {a b : Int} (hd : decode cc pc = .ok (.isub, 1)) (k : X own cc nL d rk sc (pc + 1) L (iv (a - b) :: st) M E nx u o) : X own cc nL d rk sc pc L (iv b :: iv a :: st) M E nx u o := by
  intro res ho κ p l eV R s m args below meth c cells slots A Fin hF hR H locs ls hP hl
  have k' := k res ho κ p l eV R s m args below meth c cells slots A Fin hF hR H locs ls hP hl
  refine lv_isub hF.1 hF.2.1 hd ?_
  have e : Int32.ofInt (a - b) = Int32.ofInt a - Int32.ofInt b := Int32.ofInt_sub a b
  rw [show List.map (cv κ) (iv (a - b) :: st) = .int (Int32.ofInt (a - b)) :: st.map (cv κ) from rfl, e] at k'
  exact k'
theorem x_imul {a b : Int} (hd : decode cc pc = .ok (.imul, 1)) (k : X own cc nL d rk sc (pc + 1) L (iv (a * b) :: st) M E nx u o) : X own cc nL d rk sc pc L (iv b :: iv a :: st) M E nx u o := by
  intro res ho κ p l eV R s m args below meth c cells slots A Fin hF hR H locs ls hP hl
  have k' := k res ho κ p l eV R s m args below meth c cells slots A Fin hF hR H locs ls hP hl
  refine lv_imul hF.1 hF.2.1 hd ?_
  have e : Int32.ofInt (a * b) = Int32.ofInt a * Int32.ofInt b := Int32.ofInt_mul a b
  rw [show List.map (cv κ) (iv (a * b) :: st) = .int (Int32.ofInt (a * b)) :: st.map (cv κ) from rfl, e] at k'
  exact k'
theorem x_iand {a b : Int} (hd : decode cc pc = .ok (.iand, 1)) (k : X own cc nL d rk sc (pc + 1) L (iv (bAnd a b) :: st) M E nx u o) : X own cc nL d rk sc pc L (iv b :: iv a :: st) M E nx u o := by
  intro res ho κ p l eV R s m args below meth c cells slots A Fin hF hR H locs ls hP hl
  have k' := k res ho κ p l eV R s m args below meth c cells slots A Fin hF hR H locs ls hP hl
  refine lv_iand hF.1 hF.2.1 hd ?_
  have e : Int32.ofInt (bAnd a b) = Int32.ofInt a &&& Int32.ofInt b := c_and a b
  rw [show List.map (cv κ) (iv (bAnd a b) :: st) = .int (Int32.ofInt (bAnd a b)) :: st.map (cv κ) from rfl, e] at k'
  exact k'
theorem x_ior {a b : Int} (hd : decode cc pc = .ok (.ior, 1)) (k : X own cc nL d rk sc (pc + 1) L (iv (bOr a b) :: st) M E nx u o) : X own cc nL d rk sc pc L (iv b :: iv a :: st) M E nx u o := by
  intro res ho κ p l eV R s m args below meth c cells slots A Fin hF hR H locs ls hP hl
  have k' := k res ho κ p l eV R s m args below meth c cells slots A Fin hF hR H locs ls hP hl
  refine lv_ior hF.1 hF.2.1 hd ?_
  have e : Int32.ofInt (bOr a b) = Int32.ofInt a ||| Int32.ofInt b := c_or a b
  rw [show List.map (cv κ) (iv (bOr a b) :: st) = .int (Int32.ofInt (bOr a b)) :: st.map (cv κ) from rfl, e] at k'
  exact k'
theorem x_ixor {a b : Int} (hd : decode cc pc = .ok (.ixor, 1)) (k : X own cc nL d rk sc (pc + 1) L (iv (bXor a b) :: st) M E nx u o) : X own cc nL d rk sc pc L (iv b :: iv a :: st) M E nx u o := by
  intro res ho κ p l eV R s m args below meth c cells slots A Fin hF hR H locs ls hP hl
  have k' := k res ho κ p l eV R s m args below meth c cells slots A Fin hF hR H locs ls hP hl
  refine lv_ixor hF.1 hF.2.1 hd ?_
  have e : Int32.ofInt (bXor a b) = Int32.ofInt a ^^^ Int32.ofInt b := c_xor a b
  rw [show List.map (cv κ) (iv (bXor a b) :: st) = .int (Int32.ofInt (bXor a b)) :: st.map (cv κ) from rfl, e] at k'
  exact k'
theorem x_ishl {a b : Int} (hd : decode cc pc = .ok (.ishl, 1)) (k : X own cc nL d rk sc (pc + 1) L (iv (bShl a b) :: st) M E nx u o) : X own cc nL d rk sc pc L (iv b :: iv a :: st) M E nx u o := by
  intro res ho κ p l eV R s m args below meth c cells slots A Fin hF hR H locs ls hP hl
  have k' := k res ho κ p l eV R s m args below meth c cells slots A Fin hF hR H locs ls hP hl
  refine lv_ishl hF.1 hF.2.1 hd ?_
  have e : Int32.ofInt (bShl a b) = Int32.ofInt a <<< (Int32.ofInt b &&& 31) := c_shl a b
  rw [show List.map (cv κ) (iv (bShl a b) :: st) = .int (Int32.ofInt (bShl a b)) :: st.map (cv κ) from rfl, e] at k'
  exact k'
theorem x_ishr {a b : Int} (hd : decode cc pc = .ok (.ishr, 1)) (k : X own cc nL d rk sc (pc + 1) L (iv (bShr a b) :: st) M E nx u o) : X own cc nL d rk sc pc L (iv b :: iv a :: st) M E nx u o := by
  intro res ho κ p l eV R s m args below meth c cells slots A Fin hF hR H locs ls hP hl
  have k' := k res ho κ p l eV R s m args below meth c cells slots A Fin hF hR H locs ls hP hl
  refine lv_ishr hF.1 hF.2.1 hd ?_
  have e : Int32.ofInt (bShr a b) = Int32.ofInt a >>> (Int32.ofInt b &&& 31) := c_shr a b
  rw [show List.map (cv κ) (iv (bShr a b) :: st) = .int (Int32.ofInt (bShr a b)) :: st.map (cv κ) from rfl, e] at k'
  exact k'
theorem x_ladd {a b : Int} (hd : decode cc pc = .ok (.ladd, 1)) (k : X own cc nL d rk sc (pc + 1) L (jv (a + b) :: st) M E nx u o) : X own cc nL d rk sc pc L (jv b :: jv a :: st) M E nx u o := by
  intro res ho κ p l eV R s m args below meth c cells slots A Fin hF hR H locs ls hP hl
  have k' := k res ho κ p l eV R s m args below meth c cells slots A Fin hF hR H locs ls hP hl
  refine lv_ladd hF.1 hF.2.1 hd ?_
  have e : Int64.ofInt (a + b) = Int64.ofInt a + Int64.ofInt b := Int64.ofInt_add a b
  rw [show List.map (cv κ) (jv (a + b) :: st) = .long (Int64.ofInt (a + b)) :: st.map (cv κ) from rfl, e] at k'
  exact k'
theorem x_lsub {a b : Int} (hd : decode cc pc = .ok (.lsub, 1)) (k : X own cc nL d rk sc (pc + 1) L (jv (a - b) :: st) M E nx u o) : X own cc nL d rk sc pc L (jv b :: jv a :: st) M E nx u o := by
  intro res ho κ p l eV R s m args below meth c cells slots A Fin hF hR H locs ls hP hl
  have k' := k res ho κ p l eV R s m args below meth c cells slots A Fin hF hR H locs ls hP hl
  refine lv_lsub hF.1 hF.2.1 hd ?_
  have e : Int64.ofInt (a - b) = Int64.ofInt a - Int64.ofInt b := Int64.ofInt_sub a b
  rw [show List.map (cv κ) (jv (a - b) :: st) = .long (Int64.ofInt (a - b)) :: st.map (cv κ) from rfl, e] at k'
  exact k'
theorem x_lmul {a b : Int} (hd : decode cc pc = .ok (.lmul, 1)) (k : X own cc nL d rk sc (pc + 1) L (jv (a * b) :: st) M E nx u o) : X own cc nL d rk sc pc L (jv b :: jv a :: st) M E nx u o := by
  intro res ho κ p l eV R s m args below meth c cells slots A Fin hF hR H locs ls hP hl
  have k' := k res ho κ p l eV R s m args below meth c cells slots A Fin hF hR H locs ls hP hl
  refine lv_lmul hF.1 hF.2.1 hd ?_
  have e : Int64.ofInt (a * b) = Int64.ofInt a * Int64.ofInt b := Int64.ofInt_mul a b
  rw [show List.map (cv κ) (jv (a * b) :: st) = .long (Int64.ofInt (a * b)) :: st.map (cv κ) from rfl, e] at k'
  exact k'
theorem x_idiv {a b : Int} (hd : decode cc pc = .ok (.idiv, 1)) (ha : I32 a) (hb : I32 b) (hb0 : b ≠ 0) (k : X own cc nL d rk sc (pc + 1) L (iv (a.tdiv b) :: st) M E nx u o) : X own cc nL d rk sc pc L (iv b :: iv a :: st) M E nx u o := by
  intro res ho κ p l eV R s m args below meth c cells slots A Fin hF hR H locs ls hP hl
  have k' := k res ho κ p l eV R s m args below meth c cells slots A Fin hF hR H locs ls hP hl
  refine lv_idiv hF.1 hF.2.1 hd (fun z => hb0 ((i_inj hb i32_0).mp (z.trans z32))) ?_
  have e : Int32.ofInt (a.tdiv b) = Int32.ofInt a / Int32.ofInt b := (i_div ha hb).symm
  rw [show List.map (cv κ) (iv (a.tdiv b) :: st) = .int (Int32.ofInt (a.tdiv b)) :: st.map (cv κ) from rfl, e] at k'
  exact k'
theorem x_irem {a b : Int} (hd : decode cc pc = .ok (.irem, 1)) (ha : I32 a) (hb : I32 b) (hb0 : b ≠ 0) (k : X own cc nL d rk sc (pc + 1) L (iv (a.tmod b) :: st) M E nx u o) : X own cc nL d rk sc pc L (iv b :: iv a :: st) M E nx u o := by
  intro res ho κ p l eV R s m args below meth c cells slots A Fin hF hR H locs ls hP hl
  have k' := k res ho κ p l eV R s m args below meth c cells slots A Fin hF hR H locs ls hP hl
  refine lv_irem hF.1 hF.2.1 hd (fun z => hb0 ((i_inj hb i32_0).mp (z.trans z32))) ?_
  have e : Int32.ofInt (a.tmod b) = Int32.ofInt a - Int32.ofInt a / Int32.ofInt b * Int32.ofInt b := (i_rem ha hb).symm
  rw [show List.map (cv κ) (iv (a.tmod b) :: st) = .int (Int32.ofInt (a.tmod b)) :: st.map (cv κ) from rfl, e] at k'
  exact k'
theorem x_ldiv {a b : Int} (hd : decode cc pc = .ok (.ldiv, 1)) (ha : I64 a) (hb : I64 b) (hb0 : b ≠ 0) (k : X own cc nL d rk sc (pc + 1) L (jv (a.tdiv b) :: st) M E nx u o) : X own cc nL d rk sc pc L (jv b :: jv a :: st) M E nx u o := by
  intro res ho κ p l eV R s m args below meth c cells slots A Fin hF hR H locs ls hP hl
  have k' := k res ho κ p l eV R s m args below meth c cells slots A Fin hF hR H locs ls hP hl
  refine lv_ldiv hF.1 hF.2.1 hd (fun z => hb0 ((l_inj hb i64_0).mp (z.trans z64))) ?_
  have e : Int64.ofInt (a.tdiv b) = Int64.ofInt a / Int64.ofInt b := (l_div ha hb).symm
  rw [show List.map (cv κ) (jv (a.tdiv b) :: st) = .long (Int64.ofInt (a.tdiv b)) :: st.map (cv κ) from rfl, e] at k'
  exact k'
theorem x_lrem {a b : Int} (hd : decode cc pc = .ok (.lrem, 1)) (ha : I64 a) (hb : I64 b) (hb0 : b ≠ 0) (k : X own cc nL d rk sc (pc + 1) L (jv (a.tmod b) :: st) M E nx u o) : X own cc nL d rk sc pc L (jv b :: jv a :: st) M E nx u o := by
  intro res ho κ p l eV R s m args below meth c cells slots A Fin hF hR H locs ls hP hl
  have k' := k res ho κ p l eV R s m args below meth c cells slots A Fin hF hR H locs ls hP hl
  refine lv_lrem hF.1 hF.2.1 hd (fun z => hb0 ((l_inj hb i64_0).mp (z.trans z64))) ?_
  have e : Int64.ofInt (a.tmod b) = Int64.ofInt a - Int64.ofInt a / Int64.ofInt b * Int64.ofInt b := (l_rem ha hb).symm
  rw [show List.map (cv κ) (jv (a.tmod b) :: st) = .long (Int64.ofInt (a.tmod b)) :: st.map (cv κ) from rfl, e] at k'
  exact k'
theorem x_ineg {a : Int} (hd : decode cc pc = .ok (.ineg, 1)) (k : X own cc nL d rk sc (pc + 1) L (iv (-a) :: st) M E nx u o) : X own cc nL d rk sc pc L (iv a :: st) M E nx u o := by
  intro res ho κ p l eV R s m args below meth c cells slots A Fin hF hR H locs ls hP hl
  have k' := k res ho κ p l eV R s m args below meth c cells slots A Fin hF hR H locs ls hP hl
  refine lv_ineg hF.1 hF.2.1 hd ?_
  rw [show List.map (cv κ) (iv (-a) :: st) = .int (Int32.ofInt (-a)) :: st.map (cv κ) from rfl, Int32.ofInt_neg] at k'
  exact k'
theorem x_i2l {a : Int} (hd : decode cc pc = .ok (.i2l, 1)) (ha : I32 a) (k : X own cc nL d rk sc (pc + 1) L (jv a :: st) M E nx u o) : X own cc nL d rk sc pc L (iv a :: st) M E nx u o := by
  intro res ho κ p l eV R s m args below meth c cells slots A Fin hF hR H locs ls hP hl
  exact lv_i2l hF.1 hF.2.1 hd (c_i2l ha) (k res ho κ p l eV R s m args below meth c cells slots A Fin hF hR H locs ls hP hl)
theorem x_lcmp {a b : Int} (hd : decode cc pc = .ok (.lcmp, 1)) (ha : I64 a) (hb : I64 b) (k : X own cc nL d rk sc (pc + 1) L (iv (cmpZ a b) :: st) M E nx u o) : X own cc nL d rk sc pc L (jv b :: jv a :: st) M E nx u o := by
  intro res ho κ p l eV R s m args below meth c cells slots A Fin hF hR H locs ls hP hl
  have k' := k res ho κ p l eV R s m args below meth c cells slots A Fin hF hR H locs ls hP hl
  refine W.lcmp hF.1 hF.2.1 hd ?_
  rw [show List.map (cv κ) (iv (cmpZ a b) :: st) = .int (Int32.ofInt (cmpZ a b)) :: st.map (cv κ) from rfl, ← l_cmp ha hb] at k'
  exact k'
theorem x_icmp_eq {a b : Int} {off : Int} {tgt : Nat} (hd : decode cc pc = .ok (.if_icmp .eq off, 3)) (ht : (pc : Int) + off = (tgt : Int)) (ha : I32 a) (hb : I32 b) (kt : a = b → X own cc nL d rk sc tgt L st M E nx u o1) (kf : ¬ (a = b) → X own cc nL d rk sc (pc + 3) L st M E nx u o2) : X own cc nL d rk sc pc L (iv b :: iv a :: st) M E nx u (if a = b then o1 else o2) := by
  intro res ho κ p l eV R s m args below meth c cells slots A Fin hF hR H locs ls hP hl
  refine lv_icmp_eq hF.1 hF.2.1 hd ht (fun h => ?_) (fun h => ?_)
  ·
    have h' : a = b := by exact (i_inj ha hb).mp h
    rw [if_pos h'] at ho
    exact kt h' res ho κ p l eV R s m args below meth c cells slots A Fin hF hR H locs ls hP hl
  ·
    have h' : ¬ (a = b) := by exact fun q => h ((i_inj ha hb).mpr q)
    rw [if_neg h'] at ho
    exact kf h' res ho κ p l eV R s m args below meth c cells slots A Fin hF hR H locs ls hP hl
theorem x_if_eq {a : Int} {off : Int} {tgt : Nat} (hd : decode cc pc = .ok (.ifCond .eq off, 3)) (ht : (pc : Int) + off = (tgt : Int)) (ha : I32 a) (kt : a = 0 → X own cc nL d rk sc tgt L st M E nx u o1) (kf : ¬ (a = 0) → X own cc nL d rk sc (pc + 3) L st M E nx u o2) : X own cc nL d rk sc pc L (iv a :: st) M E nx u (if a = 0 then o1 else o2) := by
  intro res ho κ p l eV R s m args below meth c cells slots A Fin hF hR H locs ls hP hl
  refine lv_if_eq hF.1 hF.2.1 hd ht (fun h => ?_) (fun h => ?_)
  ·
    have h' : a = 0 := by rw [z32] at h; exact (i_inj ha i32_0).mp h
    rw [if_pos h'] at ho
    exact kt h' res ho κ p l eV R s m args below meth c cells slots A Fin hF hR H locs ls hP hl
  ·
    have h' : ¬ (a = 0) := by rw [z32] at h; exact fun q => h ((i_inj ha i32_0).mpr q)
    rw [if_neg h'] at ho
    exact kf h' res ho κ p l eV R s m args below meth c cells slots A Fin hF hR H locs ls hP hl
theorem x_icmp_ne {a b : Int} {off : Int} {tgt : Nat} (hd : decode cc pc = .ok (.if_icmp .ne off, 3)) (ht : (pc : Int) + off = (tgt : Int)) (ha : I32 a) (hb : I32 b) (kt : ¬ (a = b) → X own cc nL d rk sc tgt L st M E nx u o1) (kf : a = b → X own cc nL d rk sc (pc + 3) L st M E nx u o2) : X own cc nL d rk sc pc L (iv b :: iv a :: st) M E nx u (if a = b then o2 else o1) := by
  intro res ho κ p l eV R s m args below meth c cells slots A Fin hF hR H locs ls hP hl
  refine lv_icmp_ne hF.1 hF.2.1 hd ht (fun h => ?_) (fun h => ?_)
  ·
    have h' : ¬ (a = b) := by exact fun q => h ((i_inj ha hb).mpr q)
    rw [if_neg h'] at ho
    exact kt h' res ho κ p l eV R s m args below meth c cells slots A Fin hF hR H locs ls hP hl
  ·
    have h' : a = b := by exact (i_inj ha hb).mp h
    rw [if_pos h'] at ho
    exact kf h' res ho κ p l eV R s m args below meth c cells slots A Fin hF hR H locs ls hP hl
theorem x_if_ne {a : Int} {off : Int} {tgt : Nat} (hd : decode cc pc = .ok (.ifCond .ne off, 3)) (ht : (pc : Int) + off = (tgt : Int)) (ha : I32 a) (kt : ¬ (a = 0) → X own cc nL d rk sc tgt L st M E nx u o1) (kf : a = 0 → X own cc nL d rk sc (pc + 3) L st M E nx u o2) : X own cc nL d rk sc pc L (iv a :: st) M E nx u (if a = 0 then o2 else o1) := by
  intro res ho κ p l eV R s m args below meth c cells slots A Fin hF hR H locs ls hP hl
  refine lv_if_ne hF.1 hF.2.1 hd ht (fun h => ?_) (fun h => ?_)
  ·
    have h' : ¬ (a = 0) := by rw [z32] at h; exact fun q => h ((i_inj ha i32_0).mpr q)
    rw [if_neg h'] at ho
    exact kt h' res ho κ p l eV R s m args below meth c cells slots A Fin hF hR H locs ls hP hl
  ·
    have h' : a = 0 := by rw [z32] at h; exact (i_inj ha i32_0).mp h
    rw [if_pos h'] at ho
    exact kf h' res ho κ p l eV R s m args below meth c cells slots A Fin hF hR H locs ls hP hl
theorem x_icmp_lt {a b : Int} {off : Int} {tgt : Nat} (hd : decode cc pc = .ok (.if_icmp .lt off, 3)) (ht : (pc : Int) + off = (tgt : Int)) (ha : I32 a) (hb : I32 b) (kt : a < b → X own cc nL d rk sc tgt L st M E nx u o1) (kf : ¬ (a < b) → X own cc nL d rk sc (pc + 3) L st M E nx u o2) : X own cc nL d rk sc pc L (iv b :: iv a :: st) M E nx u (if a < b then o1 else o2) := by
  intro res ho κ p l eV R s m args below meth c cells slots A Fin hF hR H locs ls hP hl
  refine lv_icmp_lt hF.1 hF.2.1 hd ht (fun h => ?_) (fun h => ?_)
  ·
    have h' : a < b := by exact (i_lt ha hb).mp h
    rw [if_pos h'] at ho
    exact kt h' res ho κ p l eV R s m args below meth c cells slots A Fin hF hR H locs ls hP hl
  ·
    have h' : ¬ (a < b) := by exact fun q => h ((i_lt ha hb).mpr q)
    rw [if_neg h'] at ho
    exact kf h' res ho κ p l eV R s m args below meth c cells slots A Fin hF hR H locs ls hP hl
theorem x_if_lt {a : Int} {off : Int} {tgt : Nat} (hd : decode cc pc = .ok (.ifCond .lt off, 3)) (ht : (pc : Int) + off = (tgt : Int)) (ha : I32 a) (kt : a < 0 → X own cc nL d rk sc tgt L st M E nx u o1) (kf : ¬ (a < 0) → X own cc nL d rk sc (pc + 3) L st M E nx u o2) : X own cc nL d rk sc pc L (iv a :: st) M E nx u (if a < 0 then o1 else o2) := by
  intro res ho κ p l eV R s m args below meth c cells slots A Fin hF hR H locs ls hP hl
  refine lv_if_lt hF.1 hF.2.1 hd ht (fun h => ?_) (fun h => ?_)
  ·
    have h' : a < 0 := by rw [z32] at h; exact (i_lt ha i32_0).mp h
    rw [if_pos h'] at ho
    exact kt h' res ho κ p l eV R s m args below meth c cells slots A Fin hF hR H locs ls hP hl
  ·
    have h' : ¬ (a < 0) := by rw [z32] at h; exact fun q => h ((i_lt ha i32_0).mpr q)
    rw [if_neg h'] at ho
    exact kf h' res ho κ p l eV R s m args below meth c cells slots A Fin hF hR H locs ls hP hl
theorem x_icmp_ge {a b : Int} {off : Int} {tgt : Nat} (hd : decode cc pc = .ok (.if_icmp .ge off, 3)) (ht : (pc : Int) + off = (tgt : Int)) (ha : I32 a) (hb : I32 b) (kt : b ≤ a → X own cc nL d rk sc tgt L st M E nx u o1) (kf : ¬ (b ≤ a) → X own cc nL d rk sc (pc + 3) L st M E nx u o2) : X own cc nL d rk sc pc L (iv b :: iv a :: st) M E nx u (if b ≤ a then o1 else o2) := by
  intro res ho κ p l eV R s m args below meth c cells slots A Fin hF hR H locs ls hP hl
  refine lv_icmp_ge hF.1 hF.2.1 hd ht (fun h => ?_) (fun h => ?_)
  ·
    have h' : b ≤ a := by exact (i_le hb ha).mp h
    rw [if_pos h'] at ho
    exact kt h' res ho κ p l eV R s m args below meth c cells slots A Fin hF hR H locs ls hP hl
  ·
    have h' : ¬ (b ≤ a) := by exact fun q => h ((i_le hb ha).mpr q)
    rw [if_neg h'] at ho
    exact kf h' res ho κ p l eV R s m args below meth c cells slots A Fin hF hR H locs ls hP hl
theorem x_if_ge {a : Int} {off : Int} {tgt : Nat} (hd : decode cc pc = .ok (.ifCond .ge off, 3)) (ht : (pc : Int) + off = (tgt : Int)) (ha : I32 a) (kt : 0 ≤ a → X own cc nL d rk sc tgt L st M E nx u o1) (kf : ¬ (0 ≤ a) → X own cc nL d rk sc (pc + 3) L st M E nx u o2) : X own cc nL d rk sc pc L (iv a :: st) M E nx u (if 0 ≤ a then o1 else o2) := by
  intro res ho κ p l eV R s m args below meth c cells slots A Fin hF hR H locs ls hP hl
  refine lv_if_ge hF.1 hF.2.1 hd ht (fun h => ?_) (fun h => ?_)
  ·
    have h' : 0 ≤ a := by rw [z32] at h; exact (i_le i32_0 ha).mp h
    rw [if_pos h'] at ho
    exact kt h' res ho κ p l eV R s m args below meth c cells slots A Fin hF hR H locs ls hP hl
  ·
    have h' : ¬ (0 ≤ a) := by rw [z32] at h; exact fun q => h ((i_le i32_0 ha).mpr q)
    rw [if_neg h'] at ho
    exact kf h' res ho κ p l eV R s m args below meth c cells slots A Fin hF hR H locs ls hP hl
theorem x_icmp_gt {a b : Int} {off : Int} {tgt : Nat} (hd : decode cc pc = .ok (.if_icmp .gt off, 3)) (ht : (pc : Int) + off = (tgt : Int)) (ha : I32 a) (hb : I32 b) (kt : b < a → X own cc nL d rk sc tgt L st M E nx u o1) (kf : ¬ (b < a) → X own cc nL d rk sc (pc + 3) L st M E nx u o2) : X own cc nL d rk sc pc L (iv b :: iv a :: st) M E nx u (if b < a then o1 else o2) := by
  intro res ho κ p l eV R s m args below meth c cells slots A Fin hF hR H locs ls hP hl
  refine lv_icmp_gt hF.1 hF.2.1 hd ht (fun h => ?_) (fun h => ?_)
  ·
    have h' : b < a := by exact (i_lt hb ha).mp h
    rw [if_pos h'] at ho
    exact kt h' res ho κ p l eV R s m args below meth c cells slots A Fin hF hR H locs ls hP hl
  ·
    have h' : ¬ (b < a) := by exact fun q => h ((i_lt hb ha).mpr q)
    rw [if_neg h'] at ho
    exact kf h' res ho κ p l eV R s m args below meth c cells slots A Fin hF hR H locs ls hP hl
theorem x_if_gt {a : Int} {off : Int} {tgt : Nat} (hd : decode cc pc = .ok (.ifCond .gt off, 3)) (ht : (pc : Int) + off = (tgt : Int)) (ha : I32 a) (kt : 0 < a → X own cc nL d rk sc tgt L st M E nx u o1) (kf : ¬ (0 < a) → X own cc nL d rk sc (pc + 3) L st M E nx u o2) : X own cc nL d rk sc pc L (iv a :: st) M E nx u (if 0 < a then o1 else o2) := by
  intro res ho κ p l eV R s m args below meth c cells slots A Fin hF hR H locs ls hP hl
  refine lv_if_gt hF.1 hF.2.1 hd ht (fun h => ?_) (fun h => ?_)
  ·
    have h' : 0 < a := by rw [z32] at h; exact (i_lt i32_0 ha).mp h
    rw [if_pos h'] at ho
    exact kt h' res ho κ p l eV R s m args below meth c cells slots A Fin hF hR H locs ls hP hl
  ·
    have h' : ¬ (0 < a) := by rw [z32] at h; exact fun q => h ((i_lt i32_0 ha).mpr q)
    rw [if_neg h'] at ho
    exact kf h' res ho κ p l eV R s m args below meth c cells slots A Fin hF hR H locs ls hP hl
theorem x_icmp_le {a b : Int} {off : Int} {tgt : Nat} (hd : decode cc pc = .ok (.if_icmp .le off, 3)) (ht : (pc : Int) + off = (tgt : Int)) (ha : I32 a) (hb : I32 b) (kt : a ≤ b → X own cc nL d rk sc tgt L st M E nx u o1) (kf : ¬ (a ≤ b) → X own cc nL d rk sc (pc + 3) L st M E nx u o2) : X own cc nL d rk sc pc L (iv b :: iv a :: st) M E nx u (if a ≤ b then o1 else o2) := by
  intro res ho κ p l eV R s m args below meth c cells slots A Fin hF hR H locs ls hP hl
  refine lv_icmp_le hF.1 hF.2.1 hd ht (fun h => ?_) (fun h => ?_)
  ·
    have h' : a ≤ b := by exact (i_le ha hb).mp h
    rw [if_pos h'] at ho
    exact kt h' res ho κ p l eV R s m args below meth c cells slots A Fin hF hR H locs ls hP hl
  ·
    have h' : ¬ (a ≤ b) := by exact fun q => h ((i_le ha hb).mpr q)
    rw [if_neg h'] at ho
    exact kf h' res ho κ p l eV R s m args below meth c cells slots A Fin hF hR H locs ls hP hl
theorem x_if_le {a : Int} {off : Int} {tgt : Nat} (hd : decode cc pc = .ok (.ifCond .le off, 3)) (ht : (pc : Int) + off = (tgt : Int)) (ha : I32 a) (kt : a ≤ 0 → X own cc nL d rk sc tgt L st M E nx u o1) (kf : ¬ (a ≤ 0) → X own cc nL d rk sc (pc + 3) L st M E nx u o2) : X own cc nL d rk sc pc L (iv a :: st) M E nx u (if a ≤ 0 then o1 else o2) := by
  intro res ho κ p l eV R s m args below meth c cells slots A Fin hF hR H locs ls hP hl
  refine lv_if_le hF.1 hF.2.1 hd ht (fun h => ?_) (fun h => ?_)
  ·
    have h' : a ≤ 0 := by rw [z32] at h; exact (i_le ha i32_0).mp h
    rw [if_pos h'] at ho
    exact kt h' res ho κ p l eV R s m args below meth c cells slots A Fin hF hR H locs ls hP hl
  ·
    have h' : ¬ (a ≤ 0) := by rw [z32] at h; exact fun q => h ((i_le ha i32_0).mpr q)
    rw [if_neg h'] at ho
    exact kf h' res ho κ p l eV R s m args below meth c cells slots A Fin hF hR H locs ls hP hl
theorem x_gd {P : Prop} {dP : Decidable P} (k : P → X own cc nL d rk sc pc L st M E nx u o) : X own cc nL d rk sc pc L st M E nx u (if P then o else none) := by
  intro res ho κ p l eV R s m args below meth c cells slots A Fin hF hR H locs ls hP hl
  obtain ⟨h, ho⟩ := gd_some ho
  exact k h res ho κ p l eV R s m args below meth c cells slots A Fin hF hR H locs ls hP hl
theorem x_br {P : Prop} {dP : Decidable P} (kt : P → X own cc nL d rk sc pc L st M E nx u o1) (kf : ¬ P → X own cc nL d rk sc pc L st M E nx u o2) : X own cc nL d rk sc pc L st M E nx u (if P then o1 else o2) := by
  intro res ho κ p l eV R s m args below meth c cells slots A Fin hF hR H locs ls hP hl
  by_cases h : P
  · rw [if_pos h] at ho
    exact kt h res ho κ p l eV R s m args below meth c cells slots A Fin hF hR H locs ls hP hl
  · rw [if_neg h] at ho
    exact kf h res ho κ p l eV R s m args below meth c cells slots A Fin hF hR H locs ls hP hl
theorem x_none : X own cc nL d rk sc pc L st M E nx u none := by
  intro res ho
  cases ho
theorem x_sub {L' : List (Option AV)} (hs : Lsub L' L) (k : X own cc nL d rk sc pc L' st M E nx u o) : X own cc nL d rk sc pc L st M E nx u o := by
  intro res ho κ p l eV R s m args below meth c cells slots A Fin hF hR H locs ls hP hl
  exact k res ho κ p l eV R s m args below meth c cells slots A Fin hF hR H locs ls hP (agr_sub hl hs)
theorem x_tableIn {dflt lo hi : Int} {offs : Array Int} {len : Nat} {a v off : Int} {tgt : Nat} (hd : decode cc pc = .ok (.tableswitch dflt lo hi offs, len)) (h : a = v) (hv : I32 v) (h1 : ¬ v < lo) (h2 : ¬ hi < v) (hof : offs[(v - lo).toNat]? = some off) (ht : (pc : Int) + off = (tgt : Int)) (k : X own cc nL d rk sc tgt L st M E nx u o) : X own cc nL d rk sc pc L (iv a :: st) M E nx u o := by
  intro res ho κ p l eV R s m args below meth c cells slots A Fin hF hR H locs ls hP hl
  subst h
  have e := i_toInt hv
  exact lv_tableIn (x := Int32.ofInt a) (off := off) hF.1 hF.2.1 hd (by rw [e]; exact h1) (by rw [e]; exact h2) (by rw [e]; exact hof) ht (k res ho κ p l eV R s m args below meth c cells slots A Fin hF hR H locs ls hP hl)
theorem x_tableOut {dflt lo hi : Int} {offs : Array Int} {len : Nat} {a : Int} {tgt : Nat} (hd : decode cc pc = .ok (.tableswitch dflt lo hi offs, len)) (ha : I32 a) (h : a < lo ∨ hi < a) (ht : (pc : Int) + dflt = (tgt : Int)) (k : X own cc nL d rk sc tgt L st M E nx u o) : X own cc nL d rk sc pc L (iv a :: st) M E nx u o := by
  intro res ho κ p l eV R s m args below meth c cells slots A Fin hF hR H locs ls hP hl
  exact lv_tableOut (x := Int32.ofInt a) hF.1 hF.2.1 hd (by rw [i_toInt ha]; exact h) ht (k res ho κ p l eV R s m args below meth c cells slots A Fin hF hR H locs ls hP hl)
theorem x_lookup {dflt : Int} {ps : Array (Int × Int)} {len : Nat} {a off : Int} {tgt : Nat} (hd : decode cc pc = .ok (.lookupswitch dflt ps, len)) (hp : (ps.toList.zip (ps.toList.drop 1)).all (fun (a, next) => a.1 < next.1) = true) (ha : I32 a) (hof : Op.lookupswitch.offset ps.toList dflt a = off) (ht : (pc : Int) + off = (tgt : Int)) (k : X own cc nL d rk sc tgt L st M E nx u o) : X own cc nL d rk sc pc L (iv a :: st) M E nx u o := by
  intro res ho κ p l eV R s m args below meth c cells slots A Fin hF hR H locs ls hP hl
  exact lv_lookup (x := Int32.ofInt a) hF.1 hF.2.1 hd hp (by rw [i_toInt ha]; exact hof) ht (k res ho κ p l eV R s m args below meth c cells slots A Fin hF hR H locs ls hP hl)
end ROWS
