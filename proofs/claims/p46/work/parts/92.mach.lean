/-! constructors: an object, and the cells that it makes -/
def NWA (U : State) : Prop := va_Nw (.methodLinkNest RX5 9 yX4_init RX5) U ∧ va_Nw (.methodLinkNest RX5 49 yX0_init RX5) U ∧ va_Nw (.methodLinkNest RX0 11 yX4_init RX5) U ∧ va_AO "OnlyInFog$World" U
def Cx (own : String) (cc : ByteArray) (nL : Nat) (p : Program) (s : State) (m : MethodId) (args : Array Value) (c : Code) (A : Nat → Prop) : Prop :=
  p.tables.exec = Jvm.exec ∧ c.code = cc ∧ c.maxLocals = nL ∧ s.vm.findClass own = some m.cls ∧ (∀ w ∈ lw_g, w.before args s = true) ∧ (∀ q, s.heap.size ≤ q → A q) ∧ NWA s
/-- the machine in a constructor at pc: locals lv, stack st, cells ws, arrays' classes tys, room used -/
def Zj (D : va_G) (own : String) (cc : ByteArray) (nL : Nat) (p : Program) (l : Launch) (e : Env) (R : Room) (s : State) (m : MethodId) (args : Array Value) (below : List Frame) (meth : Method) (c : Code) (A : Nat → Prop) (Q : State → Prop) (pc : Nat) (lv : List (Nat × Value)) (st : List Value) (ws : va_W) (tys : List (ClassId × FieldType)) (cells slots : Nat) : Prop :=
  Cx own cc nL p s m args c A → ∀ (H : Heap) (locs : List Loc) (ls : Array Slot), va_K D kcl tys s → va_P D kcl ws H → va_D A ws → va_S A s.heap H locs → lv_has ls nL lv → W p l e R s m args below meth c H locs cells slots Q (F0 m pc ls st)
theorem w_oiI : Cond.instanceMethod objectInit ∈ lw_g := gm (i := 33) (by decide +kernel) rfl
theorem w_oiC : Cond.code objectInit ⟨#[0xb1]⟩ 1 none ∈ lw_g := gm (i := 34) (by decide +kernel) rfl
section ZR
variable {D : va_G} {own : String} {cc : ByteArray} {nL : Nat} {p : Program} {l : Launch} {e : Env} {R : Room} {s : State} {m : MethodId} {args : Array Value} {below : List Frame} {meth : Method} {c : Code} {A : Nat → Prop} {Q : State → Prop} {pc : Nat} {lv : List (Nat × Value)} {st : List Value} {ws : va_W} {tys : List (ClassId × FieldType)} {cells slots : Nat}
theorem z_aload {k : Fin 4} {i j x : Nat} (hd : decode cc pc = .ok (.aload_n k, 1)) (hi : (k : Nat) = i) (hv : lv[j]? = some (i, .ref x)) (kk : Zj D own cc nL p l e R s m args below meth c A Q (pc + 1) lv (.ref x :: st) ws tys cells slots) : Zj D own cc nL p l e R s m args below meth c A Q pc lv st ws tys cells slots := by
  intro C H locs ls hK hP hD hS hl
  exact lv_aload_n C.1 C.2.1 hd hi (lv_at hl j hv) (kk C H locs ls hK hP hD hS hl)
theorem z_iload {k : Fin 4} {i j : Nat} {x : Int32} (hd : decode cc pc = .ok (.iload_n k, 1)) (hi : (k : Nat) = i) (hv : lv[j]? = some (i, .int x)) (kk : Zj D own cc nL p l e R s m args below meth c A Q (pc + 1) lv (.int x :: st) ws tys cells slots) : Zj D own cc nL p l e R s m args below meth c A Q pc lv st ws tys cells slots := by
  intro C H locs ls hK hP hD hS hl
  exact lv_iload_n C.1 C.2.1 hd hi (lv_at hl j hv) (kk C H locs ls hK hP hD hS hl)
theorem z_iconst {n : Int} {v : Int32} (hd : decode cc pc = .ok (.iconst n, 1)) (hv : Int32.ofInt n = v) (kk : Zj D own cc nL p l e R s m args below meth c A Q (pc + 1) lv (.int v :: st) ws tys cells slots) : Zj D own cc nL p l e R s m args below meth c A Q pc lv st ws tys cells slots := by
  intro C H locs ls hK hP hD hS hl
  exact lv_iconst C.1 C.2.1 hd hv (kk C H locs ls hK hP hD hS hl)
theorem z_bipush {n : Int} {v : Int32} (hd : decode cc pc = .ok (.bipush n, 2)) (hv : (Int8.ofInt n).toInt32 = v) (kk : Zj D own cc nL p l e R s m args below meth c A Q (pc + 2) lv (.int v :: st) ws tys cells slots) : Zj D own cc nL p l e R s m args below meth c A Q pc lv st ws tys cells slots := by
  intro C H locs ls hK hP hD hS hl
  exact lv_bipush C.1 C.2.1 hd hv (kk C H locs ls hK hP hD hS hl)
theorem z_sipush {n : Int} {v : Int32} (hd : decode cc pc = .ok (.sipush n, 3)) (hv : (Int16.ofInt n).toInt32 = v) (kk : Zj D own cc nL p l e R s m args below meth c A Q (pc + 3) lv (.int v :: st) ws tys cells slots) : Zj D own cc nL p l e R s m args below meth c A Q pc lv st ws tys cells slots := by
  intro C H locs ls hK hP hD hS hl
  exact lv_sipush C.1 C.2.1 hd hv (kk C H locs ls hK hP hD hS hl)
theorem z_dup {x : Nat} (hd : decode cc pc = .ok (.dup, 1)) (kk : Zj D own cc nL p l e R s m args below meth c A Q (pc + 1) lv (.ref x :: .ref x :: st) ws tys cells slots) : Zj D own cc nL p l e R s m args below meth c A Q pc lv (.ref x :: st) ws tys cells slots := by
  intro C H locs ls hK hP hD hS hl
  exact lv_dup C.1 C.2.1 hd rfl (kk C H locs ls hK hP hD hS hl)
theorem z_goto {off : Int} {tgt : Nat} (hd : decode cc pc = .ok (.goto off, 3)) (ht : (pc : Int) + off = (tgt : Int)) (kk : Zj D own cc nL p l e R s m args below meth c A Q tgt lv st ws tys cells slots) : Zj D own cc nL p l e R s m args below meth c A Q pc lv st ws tys cells slots := by
  intro C H locs ls hK hP hD hS hl
  exact lv_goto C.1 C.2.1 hd ht (kk C H locs ls hK hP hD hS hl)
theorem z_istore {k : Fin 4} {i : Nat} {x : Int32} {lv' : List (Nat × Value)} (hd : decode cc pc = .ok (.istore_n k, 1)) (hi : (k : Nat) = i) (hn : i < nL) (hv : (i, Value.int x) :: lv.filter (fun q => !(q.1 == i) && !(q.1 + 1 == i && q.2.category == 2)) = lv') (kk : Zj D own cc nL p l e R s m args below meth c A Q (pc + 1) lv' st ws tys cells slots) : Zj D own cc nL p l e R s m args below meth c A Q pc lv (.int x :: st) ws tys cells slots := by
  intro C H locs ls hK hP hD hS hl
  exact lv_istore_n C.1 C.2.1 hd hi hl hn hv (fun ls' hl' => kk C H locs ls' hK hP hD hS hl')
theorem z_iinc {i j : Nat} {n : Int} {x v : Int32} {lv' : List (Nat × Value)} (hd : decode cc pc = .ok (.iinc i n, 3)) (hk : lv[j]? = some (i, .int x)) (hx : x + Int32.ofInt n = v) (hn : i < nL) (hv : (i, Value.int v) :: lv.filter (fun q => !(q.1 == i) && !(q.1 + 1 == i && q.2.category == 2)) = lv') (kk : Zj D own cc nL p l e R s m args below meth c A Q (pc + 3) lv' st ws tys cells slots) : Zj D own cc nL p l e R s m args below meth c A Q pc lv st ws tys cells slots := by
  intro C H locs ls hK hP hD hS hl
  exact lv_iinc C.1 C.2.1 hd hl hk hx hn hv (fun ls' hl' => kk C H locs ls' hK hP hD hS hl')
theorem z_newa {n : Int32} {N : Nat} (hd : decode cc pc = .ok (.newarray .int, 2)) (hn : ¬ n < 0) (hN : n.toNatClampNeg = N) (hb : N * 4 ≤ 536870912) (hc : cells + 1 ≤ R.cells) (hs : slots + N ≤ R.slots) (kk : ∀ (q : Nat) (cA : ClassId), Zj D own cc nL p l e R s m args below meth c A Q (pc + 2) lv (.ref q :: st) (ws ++ [(q, .inl (cA, N, .inl (fun _ => 0)))]) (tys ++ [(cA, .int)]) (cells + 1) (slots + N)) : Zj D own cc nL p l e R s m args below meth c A Q pc lv (.int n :: st) ws tys cells slots := by
  intro C H locs ls hK hP hD hS hl
  exact va_newa (atype := .int) C.1 C.2.1 (C.2.2.2.2.1 (.arrayClass .int) (w_arrI)) rfl hK hP hD hS C.2.2.2.2.2.1 (a0 := (N, .inl (fun _ => 0))) (fun cA => rfl) hn hN hb hc hs hd (fun q cA H1 hK1 hP1 hD1 hS1 => kk q cA C H1 locs ls hK1 hP1 hD1 hS1 hl)
theorem z_putF {a ci k index N : Nat} {fs : List Value} {Rr : va_W} {C0 : String} {T : u_T} {ty0 : Nat → FieldType} {v : Value} (hd : decode cc pc = .ok (.putfield index, 3)) (hc : kcl[ci]? = some (C0, T, N)) (hin : ∀ w ∈ u_ws C0 T N, w ∈ lw_g) (hty : ∀ k, k < N → parseFieldDescriptor (T k).2.2.1 = some (ty0 k)) (hnm : ∀ a, a < N → ∀ b, b < N → a ≠ b → (T a).2.1 ≠ (T b).2.1) (hk : k < N) (hlk : Cond.fieldLink own index (T k).1 (T k).2.1 (T k).2.2.1 ∈ lw_g) (hfin : (T k).2.2.2 = true) (hdecl : (T k).1 = own) (hname : meth.name = "<init>") (hn : narrow (ty0 k) v = v) (hfit : fits (ty0 k) v = true) (hl0 : k < fs.length) (kk : Zj D own cc nL p l e R s m args below meth c A Q (pc + 3) lv st ((a, .inr (ci, fs.set k v)) :: Rr) tys cells slots) : Zj D own cc nL p l e R s m args below meth c A Q pc lv (v :: .ref a :: st) ((a, .inr (ci, fs)) :: Rr) tys cells slots := by
  intro C H locs ls hK hP hD hS hl
  exact va_putF (ws := (a, .inr (ci, fs)) :: Rr) C.1 C.2.1 C.2.2.2.2.1 hin ty0 hty hnm C.2.2.2.1 hK hP hD hS 0 rfl hc k hk (C.2.2.2.2.1 _ hlk) (fun _ h => h) hfin hname hdecl (hty k hk) hn hfit hl0 hd (fun H1 locs1 hP1 hD1 hS1 => kk C H1 locs1 ls hK hP1 hD1 hS1 hl)
theorem z_put {a ci k index N : Nat} {fs : List Value} {Rr : va_W} {C0 : String} {T : u_T} {ty0 : Nat → FieldType} {v : Value} (hd : decode cc pc = .ok (.putfield index, 3)) (hc : kcl[ci]? = some (C0, T, N)) (hin : ∀ w ∈ u_ws C0 T N, w ∈ lw_g) (hty : ∀ k, k < N → parseFieldDescriptor (T k).2.2.1 = some (ty0 k)) (hnm : ∀ a, a < N → ∀ b, b < N → a ≠ b → (T a).2.1 ≠ (T b).2.1) (hk : k < N) (hlk : Cond.fieldLink own index (T k).1 (T k).2.1 (T k).2.2.1 ∈ lw_g) (hfin : (T k).2.2.2 = false) (hn : narrow (ty0 k) v = v) (hfit : fits (ty0 k) v = true) (hl0 : k < fs.length) (kk : Zj D own cc nL p l e R s m args below meth c A Q (pc + 3) lv st ((a, .inr (ci, fs.set k v)) :: Rr) tys cells slots) : Zj D own cc nL p l e R s m args below meth c A Q pc lv (v :: .ref a :: st) ((a, .inr (ci, fs)) :: Rr) tys cells slots := by
  intro C H locs ls hK hP hD hS hl
  exact va_put (ws := (a, .inr (ci, fs)) :: Rr) C.1 C.2.1 C.2.2.2.2.1 hin ty0 hty hnm C.2.2.2.1 hK hP hD hS 0 rfl hc k hk (C.2.2.2.2.1 _ hlk) (fun _ h => h) hfin (hty k hk) hn hfit hl0 hd (fun H1 locs1 hP1 hD1 hS1 => kk C H1 locs1 ls hK hP1 hD1 hS1 hl)
theorem z_get {a ci k index N : Nat} {fs : List Value} {Rr : va_W} {C0 : String} {T : u_T} {v : Value} (hd : decode cc pc = .ok (.getfield index, 3)) (hc : kcl[ci]? = some (C0, T, N)) (hin : ∀ w ∈ u_ws C0 T N, w ∈ lw_g) (hk : k < N) (hlk : Cond.fieldLink own index (T k).1 (T k).2.1 (T k).2.2.1 ∈ lw_g) (hv : fs[k]? = some v) (kk : Zj D own cc nL p l e R s m args below meth c A Q (pc + 3) lv (v :: st) ((a, .inr (ci, fs)) :: Rr) tys cells slots) : Zj D own cc nL p l e R s m args below meth c A Q pc lv (.ref a :: st) ((a, .inr (ci, fs)) :: Rr) tys cells slots := by
  intro C H locs ls hK hP hD hS hl
  exact va_get (ws := (a, .inr (ci, fs)) :: Rr) C.1 C.2.1 C.2.2.2.2.1 hin C.2.2.2.1 hK hP 0 rfl hc k hk (C.2.2.2.2.1 _ hlk) (fun _ h => h) hv hd (kk C H locs ls hK hP hD hS hl)
theorem z_obj {a index : Nat} (hd : decode cc pc = .ok (.invokespecial index, 3)) (hlk : Cond.methodLink own index objectInit ∈ lw_g) (hf : 1 ≤ R.frames) (hlo : 34 ≤ R.locals) (kk : Zj D own cc nL p l e R s m args below meth c A Q (pc + 3) lv [] ws tys cells slots) : Zj D own cc nL p l e R s m args below meth c A Q pc lv [.ref a] ws tys cells slots := by
  intro C H locs ls hK hP hD hS hl
  exact W.objInit C.1 C.2.1 C.2.2.2.1 (C.2.2.2.2.1 _ hlk) (C.2.2.2.2.1 _ w_oiI) (C.2.2.2.2.1 _ w_oiC) rfl (by rw [C.2.2.1]; exact hl.1) rfl hd hf (by show 2 * 0 + 0 + 12 ≤ R.locals; omega) (kk C H locs ls hK hP hD hS hl)
theorem z_new {ci index N : Nat} {C0 : String} {T : u_T} {ty0 : Nat → FieldType} {fs : List Value} (hd : decode cc pc = .ok (.new index, 3)) (hc : kcl[ci]? = some (C0, T, N)) (hin : ∀ w ∈ u_ws C0 T N, w ∈ lw_g) (hty : ∀ k, k < N → parseFieldDescriptor (T k).2.2.1 = some (ty0 k)) (hcl : Cond.classLink own index C0 ∈ lw_g) (hins : Cond.instantiable C0 N ∈ lw_g) (hini : Cond.initialized C0 ∈ lw_g) (hfs : ∀ j, j < N → defaultValue (ty0 j) = vp_V fs j) (hcc : cells + 1 ≤ R.cells) (hss : slots + N ≤ R.slots) (kk : ∀ q : Nat, Zj D own cc nL p l e R s m args below meth c A Q (pc + 3) lv (.ref q :: st) (ws ++ [(q, .inr (ci, fs))]) tys (cells + 1) (slots + N)) : Zj D own cc nL p l e R s m args below meth c A Q pc lv st ws tys cells slots := by
  intro C H locs ls hK hP hD hS hl
  exact va_new C.1 C.2.1 C.2.2.2.2.1 hin ty0 hty C.2.2.2.1 (C.2.2.2.2.1 _ hcl) (C.2.2.2.2.1 _ hins) (C.2.2.2.2.1 _ hini) hK hP hD hS C.2.2.2.2.2.1 hc hfs hcc hss hd (fun q H1 hP1 hD1 hS1 => kk q C H1 locs ls hK hP1 hD1 hS1 hl)
theorem z_icmpge {x y : Int32} {off : Int} {tgt : Nat} (hd : decode cc pc = .ok (.if_icmp .ge off, 3)) (ht : (pc : Int) + off = (tgt : Int)) (kt : y ≤ x → Zj D own cc nL p l e R s m args below meth c A Q tgt lv st ws tys cells slots) (kf : ¬ y ≤ x → Zj D own cc nL p l e R s m args below meth c A Q (pc + 3) lv st ws tys cells slots) : Zj D own cc nL p l e R s m args below meth c A Q pc lv (.int y :: .int x :: st) ws tys cells slots := by
  intro C H locs ls hK hP hD hS hl
  exact lv_icmp_ge C.1 C.2.1 hd ht (fun h => kt h C H locs ls hK hP hD hS hl) (fun h => kf h C H locs ls hK hP hD hS hl)
theorem z_iast {a n q0 t0 : Nat} {cA : ClassId} {f : Nat → Int32} {i x : Int32} (hd : decode cc pc = .ok (.iastore, 1)) (ha : ws[q0]? = some (a, .inl (cA, n, .inl f))) (ht : tys[t0]? = some (cA, .int)) (hin : vp_in i n) (kk : Zj D own cc nL p l e R s m args below meth c A Q (pc + 1) lv st (ws.set q0 (a, .inl (cA, n, .inl (upd f i.toNatClampNeg x)))) tys cells slots) : Zj D own cc nL p l e R s m args below meth c A Q pc lv (.int x :: .int i :: .ref a :: st) ws tys cells slots := by
  intro C H locs ls hK hP hD hS hl
  exact va_iast C.1 C.2.1 hK hP hD hS q0 t0 ha ht hin hd (fun H1 locs1 hP1 hD1 hS1 => kk C H1 locs1 ls hK hP1 hD1 hS1 hl)
theorem z_newq {n : Int32} {N index : Nat} {C0 : String} (hd : decode cc pc = .ok (.anewarray index, 3)) (hcl : Cond.classLink own index C0 ∈ lw_g) (hov : va_AO C0 s) (hn : ¬ n < 0) (hN : n.toNatClampNeg = N) (hb : N * 4 ≤ 536870912) (hc : cells + 1 ≤ R.cells) (hs : slots + N ≤ R.slots) (kk : ∀ (q : Nat) (cA : ClassId), Zj D own cc nL p l e R s m args below meth c A Q (pc + 3) lv (.ref q :: st) (ws ++ [(q, .inl (cA, N, .inr (.inr (.inr (.inr (fun _ => none))))))]) (tys ++ [(cA, .object C0)]) (cells + 1) (slots + N)) : Zj D own cc nL p l e R s m args below meth c A Q pc lv (.int n :: st) ws tys cells slots := by
  intro C H locs ls hK hP hD hS hl
  exact va_newq C.1 C.2.1 C.2.2.2.1 (C.2.2.2.2.1 _ hcl) hov hK hP hD hS C.2.2.2.2.2.1 hn hN hb hc hs hd (fun q cA H1 hK1 hP1 hD1 hS1 => kk q cA C H1 locs ls hK1 hP1 hD1 hS1 hl)
theorem z_astq {a v n q0 t0 qk ci : Nat} {cA : ClassId} {r : vw_C} {vs : List Value} {f : Nat → Option Nat} {i : Int32} (hd : decode cc pc = .ok (.aastore, 1)) (ha : ws[q0]? = some (a, .inl (cA, n, .inr (.inr (.inr (.inr f)))))) (ht : tys[t0]? = some (cA, .object r.1)) (hv : ws[qk]? = some (v, .inr (ci, vs))) (hc : kcl[ci]? = some r) (hin : vp_in i n) (kk : Zj D own cc nL p l e R s m args below meth c A Q (pc + 1) lv st (ws.set q0 (a, .inl (cA, n, .inr (.inr (.inr (.inr (va_up f i.toNatClampNeg (some v)))))))) tys cells slots) : Zj D own cc nL p l e R s m args below meth c A Q pc lv (.ref v :: .int i :: .ref a :: st) ws tys cells slots := by
  intro C H locs ls hK hP hD hS hl
  exact va_astq C.1 C.2.1 hK hP hD hS q0 t0 qk ci ha ht hv hc hin hd (fun H1 locs1 hP1 hD1 hS1 => kk C H1 locs1 ls hK hP1 hD1 hS1 hl)
end ZR
/-! worlds of places -/
def c0 (κ : KP) (q : Nat) : va_E := if q = 131 then .inl (κ.2.1 q, 8, .inr (.inr (.inr (.inr (fun i => if i < 8 then some (κ.1 (33 + 11 * i)) else none))))) else cell κ q (M0 q)
def pt (κ : KP) (I : List Nat) : va_W := I.map (fun q => (κ.1 q, c0 κ q))
def pty (κ : KP) (I : List Nat) : List (ClassId × FieldType) := I.map (fun q => (κ.2.1 q, if q = 131 then .object "OnlyInFog$World" else .int))
def rmi (d mc ms : Nat) : Room := { frames := d, cells := mc, slots := ms, locals := 34 * d }
def PIn (D : va_G) (ci : Nat) (fs0 : List Value) (h0 sz : Nat) : Array Value → State → Prop := va_Pc [.ref h0] (fun U => U.heap.size = sz ∧ va_P D kcl [(h0, .inr (ci, fs0))] U.heap ∧ va_K D kcl [] U ∧ va_D (fun _ => True) [(h0, .inr (ci, fs0))] ∧ NWA U)
def BIn (D : va_G) (A : Nat → Prop) (I : List Nat) (κ : KP) (t : State) : Prop := va_P D kcl (pt κ I) t.heap ∧ va_K D kcl (pty κ I) t ∧ va_D A (pt κ I)
def InitC (l : Launch) (y : MethodName) (b : ByteArray) (n d mc ms ci : Nat) (fs0 : List Value) (I : List Nat) (q0 : Nat) : Prop := ∀ (D : va_G) (h0 sz : Nat), Met l y (Cond.code y b n none :: lw_g) (rmi d mc ms) (PIn D ci fs0 h0 sz) (va_Qv (fun κ : KP => κ.2.2 = D ∧ κ.1 q0 = h0) (BIn D (va_A [(h0, .inr (ci, fs0))] sz) I) (va_A [(h0, .inr (ci, fs0))] sz)) mc ms (va_A [(h0, .inr (ci, fs0))] sz)
theorem last_at {α : Type} (ws : List α) (x : α) : (ws ++ [x])[ws.length]? = some x := by
  rw [List.getElem?_append_right (Nat.le_refl _), Nat.sub_self]; rfl
theorem nd_of : ∀ (l : List Nat), l.Nodup → va_nd l = true
  | [], _ => rfl
  | a :: l, h => by
    have h' := List.nodup_cons.mp h
    show (decide (a ∉ l) && va_nd l) = true
    rw [nd_of l h'.2, decide_eq_true h'.1]; rfl
theorem front_at {α : Type} (ws : List α) (x : α) : (List.range ws.length).map (fun i => (ws ++ [x])[i]?) = ws.map some := by
  apply List.ext_getElem?
  intro i
  rw [List.getElem?_map, List.getElem?_map]
  by_cases h : i < ws.length
  · rw [List.getElem?_range h, List.getElem?_eq_getElem h]
    show some ((ws ++ [x])[i]?) = some (some ws[i])
    rw [List.getElem?_append_left h, List.getElem?_eq_getElem h]
  · rw [List.getElem?_eq_none (by rw [List.length_range]; omega), List.getElem?_eq_none (by omega)]
    rfl
theorem NWA_warm {s U : State} (hW : s.WarmedH U.vm) (h : NWA s) : NWA U := ⟨va_Nw.warmM hW h.1, va_Nw.warmM hW h.2.1, va_Nw.warmM hW h.2.2.1, h.2.2.2.moved hW.alike⟩
theorem PIn_pre {D : va_G} {ci : Nat} {fs0 : List Value} {h0 : Nat} {s : State} {H : Heap} (hP : va_P D kcl [(h0, .inr (ci, fs0))] H) (hK : va_K D kcl [] s) (hD : va_D (fun _ => True) [(h0, .inr (ci, fs0))]) (hN : NWA s) : PreS s H (PIn D ci fs0 h0 H.size) [.ref h0] :=
  ⟨fun a U g mk q => by
    obtain ⟨q0, q1, qP, qK, qD, qN⟩ := q
    exact ⟨q0, q1, qP, va_K.moved (u := U) (U := U.calling g mk a) (Vm.Alike.refl U.vm) qK, qD, ⟨va_Nw.same rfl rfl qN.1, va_Nw.same rfl rfl qN.2.1, va_Nw.same rfl rfl qN.2.2.1, va_AO.moved (u := U) (U := U.calling g mk a) (Vm.Alike.refl U.vm) qN.2.2.2⟩⟩, fun U hU hW => ⟨rfl, by rw [hU], by rw [hU]; exact hP, va_K.moved hW.alike hK, hD, NWA_warm hW hN⟩⟩
section ZI
variable {D : va_G} {own : String} {cc : ByteArray} {nL : Nat} {p : Program} {l : Launch} {e : Env} {R : Room} {s : State} {m : MethodId} {args : Array Value} {below : List Frame} {meth : Method} {c : Code} {A : Nat → Prop} {Q : State → Prop} {pc : Nat} {lv : List (Nat × Value)} {st : List Value} {ws : va_W} {tys : List (ClassId × FieldType)} {cells slots : Nat}
theorem z_init {y : MethodName} {b : ByteArray} {n d mc ms ci q0 index h0 : Nat} {fs0 : List Value} {I : List Nat} (hd : decode cc pc = .ok (.invokespecial index, 3)) (hC : InitC l y b n d mc ms ci fs0 I q0) (hlk : Cond.methodLink own index y ∈ lw_g) (hcode : Cond.code y b n none ∈ lw_g) (hins : Cond.instanceMethod y ∈ lw_g) (hini : Cond.initialized y.cls ∈ lw_g) (hyn : y.name = "<init>") (hyd : y.cls ≠ "java/lang/invoke/MethodHandle" ∧ y.cls ≠ "java/lang/invoke/VarHandle" ∧ (parseMethodDescriptor y.desc).map (fun d => d.parameters.length) = some 0) (hfr : d + 1 ≤ R.frames) (hlo : 34 * d + 34 ≤ R.locals) (hn : n ≤ 15) (hcat : (st.map fun v => v.category).sum ≤ 8) (hcc : cells + mc ≤ R.cells) (hss : slots + ms ≤ R.slots)
    (kk : ∀ κ : KP, κ.2.2 = D → κ.1 q0 = h0 → Zj D own cc nL p l e R s m args below meth c A Q (pc + 3) lv st (ws ++ pt κ I) (tys ++ pty κ I) (cells + mc) (slots + ms)) : Zj D own cc nL p l e R s m args below meth c A Q pc lv (.ref h0 :: st) (ws ++ [(h0, .inr (ci, fs0))]) tys cells slots := by
  intro C H locs ls hK hP hD hS hl
  have hts := C.2.2.2.2.1
  have hA := C.2.2.2.2.2.1
  have hN := C.2.2.2.2.2.2
  have hPc := hP.sub (ws' := [(h0, .inr (ci, fs0))]) [ws.length] (by simp [last_at])
  have hDc := hD.sub (ws' := [(h0, .inr (ci, fs0))]) [ws.length] (nd_of _ (by simp)) (by simp [last_at])
  have hKc := hK.sub (tys' := []) [] rfl
  have hFc := va_free (wc := [(h0, .inr (ci, fs0))]) hD hS hA [ws.length] (by simp [last_at])
  have hgood : GoodIn lw_g (Cond.code y b n none :: lw_g) := fun w hw => by
    rcases List.mem_cons.mp hw with h | h
    · rw [h]; exact gd_in hcode
    · exact gd_in h
  refine va_callv (va_runI (As := []) (rest := st) ⟨C.1, C.2.1, C.2.2.1, C.2.2.2.1, hts⟩ (hC D h0 H.size) (cwI 0 hts hgood rfl rfl rfl (hts _ hini) (hts _ hlk) (hts _ hins) hyn hyd ⟨hfr, by show 8 + (n + 11) + 34 * d ≤ R.locals; omega⟩) (PIn_pre hPc hKc (hDc.weaken (fun _ _ _ _ => trivial)) hN) rfl rfl hl.1 rfl (lv_room hcat) hd ⟨hcc, hss⟩) hS (fun q _ h => hFc q h) hFc (fun κ t H1 locs1 ht hvm hp hB hz hk hS1 => ?_)
  obtain ⟨hP1, hK1, hD1⟩ := hB
  rw [ht] at hP1
  have hK1 := va_K.moved hvm.symm hK1
  obtain ⟨hP2, hD2⟩ := va_join (wr := ws) (w1 := pt κ I) hP hD [ws.length] (List.range ws.length) (by simp [last_at]) (front_at ws _) (nd_of _ List.nodup_range) (fun i hi h => by
    rw [List.mem_singleton.mp h] at hi
    exact absurd (List.mem_range.mp hi) (Nat.lt_irrefl _)) hk hFc hP1 hD1
  exact kk κ hp.1 hp.2 C H1 locs1 ls (hK.app hK1) hP2 hD2 hS1 hl
theorem z_initN {y : MethodName} {b : ByteArray} {n d mc ms ci q0 index h0 : Nat} {fs0 : List Value} {I : List Nat} (hd : decode cc pc = .ok (.invokespecial index, 3)) (hC : InitC l y b n d mc ms ci fs0 I q0) {host : String} (hlk : va_Nw (.methodLinkNest own index y host) s) (hcode : Cond.code y b n none ∈ lw_g) (hins : Cond.instanceMethod y ∈ lw_g) (hini : Cond.initialized y.cls ∈ lw_g) (hyn : y.name = "<init>") (hyd : y.cls ≠ "java/lang/invoke/MethodHandle" ∧ y.cls ≠ "java/lang/invoke/VarHandle" ∧ (parseMethodDescriptor y.desc).map (fun d => d.parameters.length) = some 0) (hfr : d + 1 ≤ R.frames) (hlo : 34 * d + 34 ≤ R.locals) (hn : n ≤ 15) (hcat : (st.map fun v => v.category).sum ≤ 8) (hcc : cells + mc ≤ R.cells) (hss : slots + ms ≤ R.slots)
    (kk : ∀ κ : KP, κ.2.2 = D → κ.1 q0 = h0 → Zj D own cc nL p l e R s m args below meth c A Q (pc + 3) lv st (ws ++ pt κ I) (tys ++ pty κ I) (cells + mc) (slots + ms)) : Zj D own cc nL p l e R s m args below meth c A Q pc lv (.ref h0 :: st) (ws ++ [(h0, .inr (ci, fs0))]) tys cells slots := by
  intro C H locs ls hK hP hD hS hl
  have hts := C.2.2.2.2.1
  have hA := C.2.2.2.2.2.1
  have hN := C.2.2.2.2.2.2
  have hPc := hP.sub (ws' := [(h0, .inr (ci, fs0))]) [ws.length] (by simp [last_at])
  have hDc := hD.sub (ws' := [(h0, .inr (ci, fs0))]) [ws.length] (nd_of _ (by simp)) (by simp [last_at])
  have hKc := hK.sub (tys' := []) [] rfl
  have hFc := va_free (wc := [(h0, .inr (ci, fs0))]) hD hS hA [ws.length] (by simp [last_at])
  have hgood : GoodIn lw_g (Cond.code y b n none :: lw_g) := fun w hw => by
    rcases List.mem_cons.mp hw with h | h
    · rw [h]; exact gd_in hcode
    · exact gd_in h
  refine va_callv (va_runIN (As := []) (rest := st) ⟨C.1, C.2.1, C.2.2.1, C.2.2.2.1, hts⟩ (hC D h0 H.size) ⟨va_cnB 0 hts hgood rfl rfl rfl hlk (hts _ hini) hyd ⟨hfr, by show 8 + (n + 11) + 34 * d ≤ R.locals; omega⟩, hyn, hts _ hins⟩ (PIn_pre hPc hKc (hDc.weaken (fun _ _ _ _ => trivial)) hN) rfl rfl hl.1 rfl (lv_room hcat) hd ⟨hcc, hss⟩) hS (fun q _ h => hFc q h) hFc (fun κ t H1 locs1 ht hvm hp hB hz hk hS1 => ?_)
  obtain ⟨hP1, hK1, hD1⟩ := hB
  rw [ht] at hP1
  have hK1 := va_K.moved hvm.symm hK1
  obtain ⟨hP2, hD2⟩ := va_join (wr := ws) (w1 := pt κ I) hP hD [ws.length] (List.range ws.length) (by simp [last_at]) (front_at ws _) (nd_of _ List.nodup_range) (fun i hi h => by
    rw [List.mem_singleton.mp h] at hi
    exact absurd (List.mem_range.mp hi) (Nat.lt_irrefl _)) hk hFc hP1 hD1
  exact kk κ hp.1 hp.2 C H1 locs1 ls (hK.app hK1) hP2 hD2 hS1 hl
end ZI
section ZS
variable {D : va_G} {own : String} {cc : ByteArray} {nL : Nat} {p : Program} {l : Launch} {e : Env} {R : Room} {s : State} {m : MethodId} {args : Array Value} {below : List Frame} {meth : Method} {c : Code} {A : Nat → Prop} {Q : State → Prop} {pc : Nat} {lv : List (Nat × Value)} {st : List Value} {ws Rr : va_W} {x : Nat × va_E} {tys : List (ClassId × FieldType)} {cells slots : Nat}
theorem z_ws {ws' : va_W} (h : ws = ws') (k : Zj D own cc nL p l e R s m args below meth c A Q pc lv st ws' tys cells slots) : Zj D own cc nL p l e R s m args below meth c A Q pc lv st ws tys cells slots := by
  rw [h]; exact k
theorem z_astore {k : Fin 4} {i : Nat} {a : Nat} {lv' : List (Nat × Value)} (hd : decode cc pc = .ok (.astore_n k, 1)) (hi : (k : Nat) = i) (hn : i < nL) (hv : (i, Value.ref a) :: lv.filter (fun q => !(q.1 == i) && !(q.1 + 1 == i && q.2.category == 2)) = lv') (kk : Zj D own cc nL p l e R s m args below meth c A Q (pc + 1) lv' st ws tys cells slots) : Zj D own cc nL p l e R s m args below meth c A Q pc lv (.ref a :: st) ws tys cells slots := by
  intro C H locs ls hK hP hD hS hl
  exact lv_astore_n C.1 C.2.1 hd hi hl hn hv (fun ls' hl' => kk C H locs ls' hK hP hD hS hl')
theorem s_newa {n : Int32} {N : Nat} (hd : decode cc pc = .ok (.newarray .int, 2)) (hn : ¬ n < 0) (hN : n.toNatClampNeg = N) (hb : N * 4 ≤ 536870912) (hc : cells + 1 ≤ R.cells) (hs : slots + N ≤ R.slots) (kk : ∀ (q : Nat) (cA : ClassId), Zj D own cc nL p l e R s m args below meth c A Q (pc + 2) lv (.ref q :: st) (x :: (Rr ++ [(q, .inl (cA, N, .inl (fun _ => 0)))])) (tys ++ [(cA, .int)]) (cells + 1) (slots + N)) : Zj D own cc nL p l e R s m args below meth c A Q pc lv (.int n :: st) (x :: Rr) tys cells slots := z_newa (ws := x :: Rr) hd hn hN hb hc hs kk
theorem s_new {ci index N : Nat} {C0 : String} {T : u_T} {ty0 : Nat → FieldType} {fs : List Value} (hd : decode cc pc = .ok (.new index, 3)) (hc : kcl[ci]? = some (C0, T, N)) (hin : ∀ w ∈ u_ws C0 T N, w ∈ lw_g) (hty : ∀ k, k < N → parseFieldDescriptor (T k).2.2.1 = some (ty0 k)) (hcl : Cond.classLink own index C0 ∈ lw_g) (hins : Cond.instantiable C0 N ∈ lw_g) (hini : Cond.initialized C0 ∈ lw_g) (hfs : ∀ j, j < N → defaultValue (ty0 j) = vp_V fs j) (hcc : cells + 1 ≤ R.cells) (hss : slots + N ≤ R.slots) (kk : ∀ q : Nat, Zj D own cc nL p l e R s m args below meth c A Q (pc + 3) lv (.ref q :: st) (x :: (Rr ++ [(q, .inr (ci, fs))])) tys (cells + 1) (slots + N)) : Zj D own cc nL p l e R s m args below meth c A Q pc lv st (x :: Rr) tys cells slots := z_new (ws := x :: Rr) hd hc hin hty hcl hins hini hfs hcc hss kk
theorem s_newq {n : Int32} {N index : Nat} {C0 : String} (hd : decode cc pc = .ok (.anewarray index, 3)) (hcl : Cond.classLink own index C0 ∈ lw_g) (hov : NWA s → va_AO C0 s) (hn : ¬ n < 0) (hN : n.toNatClampNeg = N) (hb : N * 4 ≤ 536870912) (hc : cells + 1 ≤ R.cells) (hs : slots + N ≤ R.slots) (kk : ∀ (q : Nat) (cA : ClassId), Zj D own cc nL p l e R s m args below meth c A Q (pc + 3) lv (.ref q :: st) (x :: (Rr ++ [(q, .inl (cA, N, .inr (.inr (.inr (.inr (fun _ => none))))))])) (tys ++ [(cA, .object C0)]) (cells + 1) (slots + N)) : Zj D own cc nL p l e R s m args below meth c A Q pc lv (.int n :: st) (x :: Rr) tys cells slots := fun C => z_newq (ws := x :: Rr) hd hcl (hov C.2.2.2.2.2.2) hn hN hb hc hs kk C
theorem s_init {y : MethodName} {b : ByteArray} {n d mc ms ci q0 index h0 : Nat} {fs0 : List Value} {I : List Nat} (hd : decode cc pc = .ok (.invokespecial index, 3)) (hC : InitC l y b n d mc ms ci fs0 I q0) (hlk : Cond.methodLink own index y ∈ lw_g) (hm : Cond.code y b n none ∈ lw_g ∧ Cond.instanceMethod y ∈ lw_g ∧ Cond.initialized y.cls ∈ lw_g ∧ y.name = "<init>" ∧ (y.cls ≠ "java/lang/invoke/MethodHandle" ∧ y.cls ≠ "java/lang/invoke/VarHandle" ∧ (parseMethodDescriptor y.desc).map (fun d => d.parameters.length) = some 0)) (hfr : d + 1 ≤ R.frames) (hlo : 34 * d + 34 ≤ R.locals) (hn : n ≤ 15) (hcat : (st.map fun v => v.category).sum ≤ 8) (hcc : cells + mc ≤ R.cells) (hss : slots + ms ≤ R.slots) (kk : ∀ κ : KP, κ.2.2 = D → κ.1 q0 = h0 → Zj D own cc nL p l e R s m args below meth c A Q (pc + 3) lv st (x :: (Rr ++ pt κ I)) (tys ++ pty κ I) (cells + mc) (slots + ms)) : Zj D own cc nL p l e R s m args below meth c A Q pc lv (.ref h0 :: st) (x :: (Rr ++ [(h0, .inr (ci, fs0))])) tys cells slots := fun C => z_init (ws := x :: Rr) hd hC hlk hm.1 hm.2.1 hm.2.2.1 hm.2.2.2.1 hm.2.2.2.2 hfr hlo hn hcat hcc hss kk C
theorem s_initN {y : MethodName} {b : ByteArray} {n d mc ms ci q0 index h0 : Nat} {fs0 : List Value} {I : List Nat} (hd : decode cc pc = .ok (.invokespecial index, 3)) (hC : InitC l y b n d mc ms ci fs0 I q0) {host : String} (hlk : NWA s → va_Nw (.methodLinkNest own index y host) s) (hm : Cond.code y b n none ∈ lw_g ∧ Cond.instanceMethod y ∈ lw_g ∧ Cond.initialized y.cls ∈ lw_g ∧ y.name = "<init>" ∧ (y.cls ≠ "java/lang/invoke/MethodHandle" ∧ y.cls ≠ "java/lang/invoke/VarHandle" ∧ (parseMethodDescriptor y.desc).map (fun d => d.parameters.length) = some 0)) (hfr : d + 1 ≤ R.frames) (hlo : 34 * d + 34 ≤ R.locals) (hn : n ≤ 15) (hcat : (st.map fun v => v.category).sum ≤ 8) (hcc : cells + mc ≤ R.cells) (hss : slots + ms ≤ R.slots) (kk : ∀ κ : KP, κ.2.2 = D → κ.1 q0 = h0 → Zj D own cc nL p l e R s m args below meth c A Q (pc + 3) lv st (x :: (Rr ++ pt κ I)) (tys ++ pty κ I) (cells + mc) (slots + ms)) : Zj D own cc nL p l e R s m args below meth c A Q pc lv (.ref h0 :: st) (x :: (Rr ++ [(h0, .inr (ci, fs0))])) tys cells slots := fun C => z_initN (ws := x :: Rr) hd hC (hlk C.2.2.2.2.2.2) hm.1 hm.2.1 hm.2.2.1 hm.2.2.2.1 hm.2.2.2.2 hfr hlo hn hcat hcc hss kk C
theorem lk_X0 {own : String} {index k : Nat} (h : FLk own index 0 k) : Cond.fieldLink own index (TX0 k).1 (TX0 k).2.1 (TX0 k).2.2.1 ∈ lw_g := by
  obtain ⟨C, T, N, h1, h2, h3, h4⟩ := h
  have h1 : some (RX0, TX0, 5) = some (C, T, N) := h1
  cases h1
  exact h4
theorem s_putF_X0 {a k index : Nat} {fs fs' : List Value} {v : Value} (hd : decode cc pc = .ok (.putfield index, 3)) (hf : FLk own index 0 k) (hk : k < 5) (hfin : (TX0 k).2.2.2 = true) (hdecl : (TX0 k).1 = own) (hname : meth.name = "<init>") (hn : narrow (tyX0 k) v = v) (hfit : fits (tyX0 k) v = true) (hl0 : k < fs.length) (hs : fs.set k v = fs') (kk : Zj D own cc nL p l e R s m args below meth c A Q (pc + 3) lv st ((a, .inr (0, fs')) :: Rr) tys cells slots) : Zj D own cc nL p l e R s m args below meth c A Q pc lv (v :: .ref a :: st) ((a, .inr (0, fs)) :: Rr) tys cells slots := by
  subst hs
  exact z_putF hd rfl fw_X0 tyX0_ok nmX0 hk (lk_X0 hf) hfin hdecl hname hn hfit hl0 kk
theorem s_put_X0 {a k index : Nat} {fs fs' : List Value} {v : Value} (hd : decode cc pc = .ok (.putfield index, 3)) (hf : FLk own index 0 k) (hk : k < 5) (hfin : (TX0 k).2.2.2 = false)  (hn : narrow (tyX0 k) v = v) (hfit : fits (tyX0 k) v = true) (hl0 : k < fs.length) (hs : fs.set k v = fs') (kk : Zj D own cc nL p l e R s m args below meth c A Q (pc + 3) lv st ((a, .inr (0, fs')) :: Rr) tys cells slots) : Zj D own cc nL p l e R s m args below meth c A Q pc lv (v :: .ref a :: st) ((a, .inr (0, fs)) :: Rr) tys cells slots := by
  subst hs
  exact z_put hd rfl fw_X0 tyX0_ok nmX0 hk (lk_X0 hf) hfin  hn hfit hl0 kk
theorem s_get_X0 {a k index : Nat} {fs : List Value} {v : Value} (hd : decode cc pc = .ok (.getfield index, 3)) (hf : FLk own index 0 k) (hk : k < 5) (hv : fs[k]? = some v) (kk : Zj D own cc nL p l e R s m args below meth c A Q (pc + 3) lv (v :: st) ((a, .inr (0, fs)) :: Rr) tys cells slots) : Zj D own cc nL p l e R s m args below meth c A Q pc lv (.ref a :: st) ((a, .inr (0, fs)) :: Rr) tys cells slots := z_get hd rfl fw_X0 hk (lk_X0 hf) hv kk
theorem lk_X3 {own : String} {index k : Nat} (h : FLk own index 1 k) : Cond.fieldLink own index (TX3 k).1 (TX3 k).2.1 (TX3 k).2.2.1 ∈ lw_g := by
  obtain ⟨C, T, N, h1, h2, h3, h4⟩ := h
  have h1 : some (RX3, TX3, 8) = some (C, T, N) := h1
  cases h1
  exact h4
theorem s_putF_X3 {a k index : Nat} {fs fs' : List Value} {v : Value} (hd : decode cc pc = .ok (.putfield index, 3)) (hf : FLk own index 1 k) (hk : k < 8) (hfin : (TX3 k).2.2.2 = true) (hdecl : (TX3 k).1 = own) (hname : meth.name = "<init>") (hn : narrow (tyX3 k) v = v) (hfit : fits (tyX3 k) v = true) (hl0 : k < fs.length) (hs : fs.set k v = fs') (kk : Zj D own cc nL p l e R s m args below meth c A Q (pc + 3) lv st ((a, .inr (1, fs')) :: Rr) tys cells slots) : Zj D own cc nL p l e R s m args below meth c A Q pc lv (v :: .ref a :: st) ((a, .inr (1, fs)) :: Rr) tys cells slots := by
  subst hs
  exact z_putF hd rfl fw_X3 tyX3_ok nmX3 hk (lk_X3 hf) hfin hdecl hname hn hfit hl0 kk
theorem s_put_X3 {a k index : Nat} {fs fs' : List Value} {v : Value} (hd : decode cc pc = .ok (.putfield index, 3)) (hf : FLk own index 1 k) (hk : k < 8) (hfin : (TX3 k).2.2.2 = false)  (hn : narrow (tyX3 k) v = v) (hfit : fits (tyX3 k) v = true) (hl0 : k < fs.length) (hs : fs.set k v = fs') (kk : Zj D own cc nL p l e R s m args below meth c A Q (pc + 3) lv st ((a, .inr (1, fs')) :: Rr) tys cells slots) : Zj D own cc nL p l e R s m args below meth c A Q pc lv (v :: .ref a :: st) ((a, .inr (1, fs)) :: Rr) tys cells slots := by
  subst hs
  exact z_put hd rfl fw_X3 tyX3_ok nmX3 hk (lk_X3 hf) hfin  hn hfit hl0 kk
theorem s_get_X3 {a k index : Nat} {fs : List Value} {v : Value} (hd : decode cc pc = .ok (.getfield index, 3)) (hf : FLk own index 1 k) (hk : k < 8) (hv : fs[k]? = some v) (kk : Zj D own cc nL p l e R s m args below meth c A Q (pc + 3) lv (v :: st) ((a, .inr (1, fs)) :: Rr) tys cells slots) : Zj D own cc nL p l e R s m args below meth c A Q pc lv (.ref a :: st) ((a, .inr (1, fs)) :: Rr) tys cells slots := z_get hd rfl fw_X3 hk (lk_X3 hf) hv kk
theorem lk_X4 {own : String} {index k : Nat} (h : FLk own index 2 k) : Cond.fieldLink own index (TX4 k).1 (TX4 k).2.1 (TX4 k).2.2.1 ∈ lw_g := by
  obtain ⟨C, T, N, h1, h2, h3, h4⟩ := h
  have h1 : some (RX4, TX4, 15) = some (C, T, N) := h1
  cases h1
  exact h4
theorem s_putF_X4 {a k index : Nat} {fs fs' : List Value} {v : Value} (hd : decode cc pc = .ok (.putfield index, 3)) (hf : FLk own index 2 k) (hk : k < 15) (hfin : (TX4 k).2.2.2 = true) (hdecl : (TX4 k).1 = own) (hname : meth.name = "<init>") (hn : narrow (tyX4 k) v = v) (hfit : fits (tyX4 k) v = true) (hl0 : k < fs.length) (hs : fs.set k v = fs') (kk : Zj D own cc nL p l e R s m args below meth c A Q (pc + 3) lv st ((a, .inr (2, fs')) :: Rr) tys cells slots) : Zj D own cc nL p l e R s m args below meth c A Q pc lv (v :: .ref a :: st) ((a, .inr (2, fs)) :: Rr) tys cells slots := by
  subst hs
  exact z_putF hd rfl fw_X4 tyX4_ok nmX4 hk (lk_X4 hf) hfin hdecl hname hn hfit hl0 kk
theorem s_put_X4 {a k index : Nat} {fs fs' : List Value} {v : Value} (hd : decode cc pc = .ok (.putfield index, 3)) (hf : FLk own index 2 k) (hk : k < 15) (hfin : (TX4 k).2.2.2 = false)  (hn : narrow (tyX4 k) v = v) (hfit : fits (tyX4 k) v = true) (hl0 : k < fs.length) (hs : fs.set k v = fs') (kk : Zj D own cc nL p l e R s m args below meth c A Q (pc + 3) lv st ((a, .inr (2, fs')) :: Rr) tys cells slots) : Zj D own cc nL p l e R s m args below meth c A Q pc lv (v :: .ref a :: st) ((a, .inr (2, fs)) :: Rr) tys cells slots := by
  subst hs
  exact z_put hd rfl fw_X4 tyX4_ok nmX4 hk (lk_X4 hf) hfin  hn hfit hl0 kk
theorem s_get_X4 {a k index : Nat} {fs : List Value} {v : Value} (hd : decode cc pc = .ok (.getfield index, 3)) (hf : FLk own index 2 k) (hk : k < 15) (hv : fs[k]? = some v) (kk : Zj D own cc nL p l e R s m args below meth c A Q (pc + 3) lv (v :: st) ((a, .inr (2, fs)) :: Rr) tys cells slots) : Zj D own cc nL p l e R s m args below meth c A Q pc lv (.ref a :: st) ((a, .inr (2, fs)) :: Rr) tys cells slots := z_get hd rfl fw_X4 hk (lk_X4 hf) hv kk
theorem lk_X5 {own : String} {index k : Nat} (h : FLk own index 3 k) : Cond.fieldLink own index (TX5 k).1 (TX5 k).2.1 (TX5 k).2.2.1 ∈ lw_g := by
  obtain ⟨C, T, N, h1, h2, h3, h4⟩ := h
  have h1 : some (RX5, TX5, 13) = some (C, T, N) := h1
  cases h1
  exact h4
theorem s_putF_X5 {a k index : Nat} {fs fs' : List Value} {v : Value} (hd : decode cc pc = .ok (.putfield index, 3)) (hf : FLk own index 3 k) (hk : k < 13) (hfin : (TX5 k).2.2.2 = true) (hdecl : (TX5 k).1 = own) (hname : meth.name = "<init>") (hn : narrow (tyX5 k) v = v) (hfit : fits (tyX5 k) v = true) (hl0 : k < fs.length) (hs : fs.set k v = fs') (kk : Zj D own cc nL p l e R s m args below meth c A Q (pc + 3) lv st ((a, .inr (3, fs')) :: Rr) tys cells slots) : Zj D own cc nL p l e R s m args below meth c A Q pc lv (v :: .ref a :: st) ((a, .inr (3, fs)) :: Rr) tys cells slots := by
  subst hs
  exact z_putF hd rfl fw_X5 tyX5_ok nmX5 hk (lk_X5 hf) hfin hdecl hname hn hfit hl0 kk
theorem s_put_X5 {a k index : Nat} {fs fs' : List Value} {v : Value} (hd : decode cc pc = .ok (.putfield index, 3)) (hf : FLk own index 3 k) (hk : k < 13) (hfin : (TX5 k).2.2.2 = false)  (hn : narrow (tyX5 k) v = v) (hfit : fits (tyX5 k) v = true) (hl0 : k < fs.length) (hs : fs.set k v = fs') (kk : Zj D own cc nL p l e R s m args below meth c A Q (pc + 3) lv st ((a, .inr (3, fs')) :: Rr) tys cells slots) : Zj D own cc nL p l e R s m args below meth c A Q pc lv (v :: .ref a :: st) ((a, .inr (3, fs)) :: Rr) tys cells slots := by
  subst hs
  exact z_put hd rfl fw_X5 tyX5_ok nmX5 hk (lk_X5 hf) hfin  hn hfit hl0 kk
theorem s_get_X5 {a k index : Nat} {fs : List Value} {v : Value} (hd : decode cc pc = .ok (.getfield index, 3)) (hf : FLk own index 3 k) (hk : k < 13) (hv : fs[k]? = some v) (kk : Zj D own cc nL p l e R s m args below meth c A Q (pc + 3) lv (v :: st) ((a, .inr (3, fs)) :: Rr) tys cells slots) : Zj D own cc nL p l e R s m args below meth c A Q pc lv (.ref a :: st) ((a, .inr (3, fs)) :: Rr) tys cells slots := z_get hd rfl fw_X5 hk (lk_X5 hf) hv kk
end ZS
def FinI (below : List Frame) (D : va_G) (h0 ci : Nat) (fs0 : List Value) (q0 : Nat) (I : List Nat) (mc ms : Nat) (s : State) : State → Prop := MQ below (va_Qv (fun κ : KP => κ.2.2 = D ∧ κ.1 q0 = h0) (BIn D (va_A [(h0, .inr (ci, fs0))] s.heap.size) I) (va_A [(h0, .inr (ci, fs0))] s.heap.size)) [Value.ref h0].toArray s mc ms (va_A [(h0, .inr (ci, fs0))] s.heap.size)
theorem z_ret {D : va_G} {own : String} {cc : ByteArray} {nL : Nat} {p : Program} {l : Launch} {e : Env} {R : Room} {s : State} {m : MethodId} {below : List Frame} {meth : Method} {c : Code} {pc : Nat} {lv : List (Nat × Value)} {ws : va_W} {tys : List (ClassId × FieldType)} {cells slots h0 ci q0 mc ms : Nat} {fs0 : List Value} {I : List Nat} (κ : KP) (hd : decode cc pc = .ok (.return_, 1)) (hr : meth.sig.returnType = none) (hlocks : meth.locks = false) (h1 : cells ≤ mc) (h2 : slots ≤ ms) (hκ : κ.2.2 = D) (hq : κ.1 q0 = h0) (hw : ws = pt κ I) (hT : ∀ e ∈ pty κ I, e ∈ tys) : Zj D own cc nL p l e R s m [Value.ref h0].toArray below meth c (va_A [(h0, .inr (ci, fs0))] s.heap.size) (FinI below D h0 ci fs0 q0 I mc ms s) pc lv [] ws tys cells slots := by
  intro C H locs ls hK hP hD hS hl
  subst hw
  exact W.widen h1 h2 (W.vret C.1 C.2.1 hr (fun t ht hW => ⟨⟨κ, rfl, ⟨hκ, hq⟩, ⟨by rw [ht]; exact hP, va_K.moved hW.alike (va_K_mem hK hT), hD⟩⟩, hS.F ht⟩) hS.2.2 hd hlocks)
theorem init_of {l : Launch} {y : MethodName} {b : ByteArray} {n d mc ms ci : Nat} {fs0 : List Value} {I : List Nat} {q0 : Nat} {own : String} (hp : plainName y.cls = true) (hc : y.cls = own) (hyn : y.name = "<init>") (hn : 1 ≤ n) (hZ : ∀ (D : va_G) (h0 : Nat) (p : Program) (e : Env) (s : State) (m : MethodId) (below : List Frame) (meth : Method) (c : Code), meth.name = "<init>" → meth.sig.returnType = none → meth.locks = false → Zj D own b n p l e (rmi d mc ms) s m [Value.ref h0].toArray below meth c (va_A [(h0, .inr (ci, fs0))] s.heap.size) (FinI below D h0 ci fs0 q0 I mc ms s) 0 [(0, .ref h0)] [] [(h0, .inr (ci, fs0))] [] 0 0) : InitC l y b n d mc ms ci fs0 I q0 := by
  intro D h0 sz
  refine Met.ofW (cc := b) (maxL := n) (ret := none) hp rfl ?_
  intro p e s m args below meth c s₁ B hml hv
  obtain ⟨rfl, hsz, hP, hK, hD0, hN⟩ := hv
  have hts := atoms_spec (ws := Cond.code y b n none :: lw_g) B.pre
  have hown := findClass_of_methodNamed B.named
  have hin : meth.name = "<init>" := (name_of_methodNamed B.named B.method).1.trans hyn
  subst hsz
  have hD := hD0.self (sz := s.heap.size)
  rw [lg_entry_eq]
  have hl := lv_entry ([.ref h0]) (n := n) hn
  exact hZ D h0 p e s m below meth c hin B.returns B.notSynchronized ⟨B.exec, B.bytes, hml, hc ▸ hown, fun w hw => hts w (List.mem_cons_of_mem _ hw), fun q h => Or.inr h, hN⟩ s.heap [] _ hK hP hD va_S.rf hl
