/-! the law's own judgement: beside the class's world it has up to five arrays of its own -/
def eln (j : Nat) : Nat := if j ≤ 1 then 8 else 5
theorem eln_lt (j : Nat) : eln j < 2147483648 := by
  unfold eln
  by_cases h : j ≤ 1
  · rw [if_pos h]; decide
  · rw [if_neg h]; decide
def ec (κ : KP) (E : Mem) (j : Nat) : Nat × va_E := (κ.1 (3000000000 + j), .inl (κ.2.1 (3000000000 + j), eln j, .inl (E j)))
def exs (κ : KP) (E : Mem) (nx : Nat) : va_W := (List.range nx).map (ec κ E)
def tyx (κ : KP) : List (ClassId × FieldType) := (List.range 5).map (fun j => (κ.2.1 (3000000000 + j), .int))
theorem exs_at (κ : KP) (E : Mem) {nx j : Nat} (h : j < nx) : (exs κ E nx)[j]? = some (ec κ E j) := by
  unfold exs
  rw [List.getElem?_map, List.getElem?_range h]
  rfl
theorem exs_ge (κ : KP) (E : Mem) {nx j : Nat} (h : ¬ j < nx) : (exs κ E nx)[j]? = none := by
  unfold exs
  exact List.getElem?_eq_none (by rw [List.length_map, List.length_range]; omega)
theorem exs_lt {κ : KP} {E : Mem} {nx j : Nat} {e : Nat × va_E} (h : (exs κ E nx)[j]? = some e) : j < nx := by
  by_cases hj : j < nx
  · exact hj
  · rw [exs_ge κ E hj] at h; cases h
theorem big_l (κ : KP) (M E : Mem) {nx k : Nat} (h : k < 137) : (cw κ M ++ exs κ E nx)[k]? = (cw κ M)[k]? := List.getElem?_append_left (by rw [cw_len]; exact h)
theorem big_r (κ : KP) (M E : Mem) (nx j : Nat) : (cw κ M ++ exs κ E nx)[137 + j]? = (exs κ E nx)[j]? := by
  rw [List.getElem?_append_right (by rw [cw_len]; omega), cw_len, show 137 + j - 137 = j by omega]
theorem big_at (κ : KP) (M E : Mem) {nx j : Nat} (h : j < nx) : (cw κ M ++ exs κ E nx)[137 + j]? = some (ec κ E j) := by
  rw [big_r, exs_at κ E h]
theorem tys_len (κ : KP) : (tys κ).length = 137 := by
  unfold tys
  rw [List.length_map, List.length_range]
theorem tyx_at (κ : KP) {j : Nat} (h : j < 5) : (tys κ ++ tyx κ)[137 + j]? = some (κ.2.1 (3000000000 + j), .int) := by
  rw [List.getElem?_append_right (by rw [tys_len]; omega), tys_len, show 137 + j - 137 = j by omega]
  unfold tyx
  rw [List.getElem?_map, List.getElem?_range h]
  rfl
theorem va_K_mem {D : va_G} {cl : List vw_C} {tys tys' : List (ClassId × FieldType)} {U : State} (h : va_K D cl tys U) (hm : ∀ e ∈ tys', e ∈ tys) : va_K D cl tys' U := ⟨h.1, fun k q hk => by
  obtain ⟨i, hi⟩ := List.getElem?_of_mem (hm q (List.mem_of_getElem? hk))
  exact h.2 i q hi⟩
def FX (own : String) (cc : ByteArray) (nL d : Nat) (sc : SC) (κ : KP) (p : Program) (R : Room) (s : State) (m : MethodId) (args : Array Value) (c : Code) (A : Nat → Prop) : Prop :=
  p.tables.exec = Jvm.exec ∧ c.code = cc ∧ c.maxLocals = nL ∧ s.vm.findClass own = some m.cls ∧ (∀ w ∈ lw_g, w.before args s = true) ∧ d ≤ R.frames ∧ 34 * d ≤ R.locals ∧ 500000 ≤ R.cells ∧ 500000 ≤ R.slots ∧ va_K κ.2.2 kcl (tys κ ++ tyx κ) s ∧ (∀ q, s.heap.size ≤ q → A q) ∧ (∀ L xs, sc = some (L, xs) → va_X (κ.1 158) L xs s s.heap ∧ κ.1 158 < s.heap.size ∧ ¬ A (κ.1 158)) ∧ NW s
def PX (κ : KP) (s : State) (A : Nat → Prop) (M E : Mem) (nx u cells slots : Nat) (H : Heap) (locs : List Loc) : Prop := va_P κ.2.2 kcl (cw κ M ++ exs κ E nx) H ∧ va_D A (cw κ M ++ exs κ E nx) ∧ va_S A s.heap H locs ∧ cells ≤ u ∧ slots ≤ u ∧ u ≤ 500000
def HrX (cc : ByteArray) (res : Int × Mem) (p : Program) (l : Launch) (e : Env) (R : Room) (s : State) (m : MethodId) (args : Array Value) (below : List Frame) (meth : Method) (c : Code) (A : Nat → Prop) (Fin : State → Prop) : Prop :=
  ∀ H locs ls pc cells slots, va_S A s.heap H locs → cells ≤ 500000 → slots ≤ 500000 → (res.1 = 0 ∨ res.1 = 1) → decode cc pc = .ok (.ireturn, 1) → W p l e R s m args below meth c H locs cells slots Fin (F0 m pc ls [.int (Int32.ofInt res.1)])
def X (own : String) (cc : ByteArray) (nL d rk : Nat) (sc : SC) (pc : Nat) (L : List (Option AV)) (st : List AV) (M E : Mem) (nx u : Nat) (o : Rs) : Prop :=
  ∀ (res : Int × Mem), o = some res → ∀ (κ : KP) (p : Program) (l : Launch) (e : Env) (R : Room) (s : State) (m : MethodId) (args : Array Value) (below : List Frame) (meth : Method) (c : Code) (cells slots : Nat) (A : Nat → Prop) (Fin : State → Prop),
    FX own cc nL d sc κ p R s m args c A → HrX cc res p l e R s m args below meth c A Fin →
    ∀ (H : Heap) (locs : List Loc) (ls : Array Slot), PX κ s A M E nx u cells slots H locs → agr κ ls nL L → W p l e R s m args below meth c H locs cells slots Fin (F0 m pc ls (st.map (cv κ)))
/-- fewer arrays of its own -/
theorem px_less {κ : KP} {s : State} {A : Nat → Prop} {M E : Mem} {nx nx' u cells slots : Nat} {H : Heap} {locs : List Loc} (h : PX κ s A M E nx u cells slots H locs) (hn : nx' ≤ nx) : PX κ s A M E nx' u cells slots H locs := by
  have hat : ∀ (k : Nat) (q : Nat × va_E), (cw κ M ++ exs κ E nx')[k]? = some q → (cw κ M ++ exs κ E nx)[k]? = some q := by
    intro k q hk
    by_cases h1 : k < 137
    · rw [big_l κ M E h1] at hk ⊢; exact hk
    · obtain ⟨j, rfl⟩ : ∃ j, k = 137 + j := ⟨k - 137, by omega⟩
      rw [big_r] at hk ⊢
      have hj := exs_lt hk
      rw [exs_at κ E hj] at hk
      rw [exs_at κ E (by omega)]
      exact hk
  exact ⟨fun k q hk => h.1 k q (hat k q hk), ⟨fun i j p q hi hj hpq => h.2.1.1 i j p q (hat i p hi) (hat j q hj) hpq, fun k q hk => h.2.1.2 k q (hat k q hk)⟩, h.2.2⟩
theorem px_free {κ : KP} {s : State} {A : Nat → Prop} {M E : Mem} {nx u cells slots : Nat} {H : Heap} {locs : List Loc} (hP : PX κ s A M E nx u cells slots H locs) (hA : ∀ q, s.heap.size ≤ q → A q) : ∀ q, va_A (cw κ M) H.size q → A q := by
  rintro q (⟨k, e, hk⟩ | h)
  · have h1 : k < 137 := by
      by_cases hk' : k < 137
      · exact hk'
      · rw [cw_ge κ M hk'] at hk; cases hk
    exact hP.2.1.2 k _ ((big_l κ M E h1).trans hk)
  · exact hA q (Nat.le_trans hP.2.2.1.1 h)
theorem px_cwD {κ : KP} {s : State} {A : Nat → Prop} {M E : Mem} {nx u cells slots : Nat} {H : Heap} {locs : List Loc} (hP : PX κ s A M E nx u cells slots H locs) : va_D A (cw κ M) := by
  have hat : ∀ (k : Nat) (q : Nat × va_E), (cw κ M)[k]? = some q → (cw κ M ++ exs κ E nx)[k]? = some q := by
    intro k q hk
    have h1 : k < 137 := by
      by_cases hk' : k < 137
      · exact hk'
      · rw [cw_ge κ M hk'] at hk; cases hk
    exact (big_l κ M E h1).trans hk
  exact ⟨fun i j p q hi hj hpq => hP.2.1.1 i j p q (hat i p hi) (hat j q hj) hpq, fun k q hk => hP.2.1.2 k q (hat k q hk)⟩
theorem px_cwP {κ : KP} {s : State} {A : Nat → Prop} {M E : Mem} {nx u cells slots : Nat} {H : Heap} {locs : List Loc} (hP : PX κ s A M E nx u cells slots H locs) : va_P κ.2.2 kcl (cw κ M) H := by
  intro k q hk
  have h1 : k < 137 := by
    by_cases hk' : k < 137
    · exact hk'
    · rw [cw_ge κ M hk'] at hk; cases hk
  exact hP.1 k q ((big_l κ M E h1).trans hk)
theorem px_back {κ : KP} {s t : State} {A : Nat → Prop} {M M' E : Mem} {nx u cells slots : Nat} {H H1 : Heap} {locs locs1 : List Loc} (hP : PX κ s A M E nx u cells slots H locs) (hB : BT κ M M' H.size t) (ht : t.heap = H1) (hk1 : ∀ q : Nat, q < H.size → ¬ va_A (cw κ M) H.size q → H1[q]? = H[q]?) (hS : va_S A s.heap H1 locs1) : PX κ s A M' E nx u (cells + 0) (slots + 0) H1 locs1 := by
  have hfst : ∀ (k : Nat) (q : Nat × va_E), (cw κ M' ++ exs κ E nx)[k]? = some q → ∃ q', (cw κ M ++ exs κ E nx)[k]? = some q' ∧ q'.1 = q.1 := by
    intro k q hk
    by_cases h1 : k < 137
    · rw [big_l κ M' E h1] at hk
      obtain ⟨e', a1, a2⟩ := cw_fst κ M' M hk
      exact ⟨e', (big_l κ M E h1).trans a1, a2⟩
    · obtain ⟨j, rfl⟩ : ∃ j, k = 137 + j := ⟨k - 137, by omega⟩
      rw [big_r] at hk
      exact ⟨q, (big_r κ M E nx j).trans hk, rfl⟩
  refine ⟨fun k q hk => ?_, ⟨fun i j p q hi hj hpq => ?_, fun k q hk => ?_⟩, hS, hP.2.2.2⟩
  · by_cases h1 : k < 137
    · rw [big_l κ M' E h1] at hk
      have := hB.1 k q hk
      rw [ht] at this
      exact this
    · obtain ⟨j, rfl⟩ : ∃ j, k = 137 + j := ⟨k - 137, by omega⟩
      rw [big_r] at hk
      have h2 : (cw κ M ++ exs κ E nx)[137 + j]? = some q := (big_r κ M E nx j).trans hk
      have h3 := hP.1 _ q h2
      refine h3.kept (hk1 q.1 h3.lt ?_)
      rintro (⟨k', e', hk'⟩ | h4)
      · have h5 : k' < 137 := by
          by_cases hq : k' < 137
          · exact hq
          · rw [cw_ge κ M hq] at hk'; cases hk'
        have := hP.2.1.1 k' (137 + j) _ q ((big_l κ M E h5).trans hk') h2 rfl
        omega
      · exact absurd h3.lt (Nat.not_lt.mpr h4)
  · obtain ⟨p', a1, a2⟩ := hfst i p hi
    obtain ⟨q', b1, b2⟩ := hfst j q hj
    exact hP.2.1.1 i j p' q' a1 b1 (a2.trans (hpq.trans b2.symm))
  · obtain ⟨q', b1, b2⟩ := hfst k q hk
    rw [← b2]
    exact hP.2.1.2 k q' b1
theorem fx_K {own : String} {cc : ByteArray} {nL d : Nat} {sc : SC} {κ : KP} {p : Program} {R : Room} {s : State} {m : MethodId} {args : Array Value} {c : Code} {A : Nat → Prop} (hF : FX own cc nL d sc κ p R s m args c A) : va_K κ.2.2 kcl (tys κ) s := va_K_mem hF.2.2.2.2.2.2.2.2.2.1 (fun e he => List.mem_append.mpr (.inl he))
/-! an array made -/
def nopV (q : Nat) : AV → Bool
  | .inl _ => true
  | .inr (.inl _) => true
  | .inr (.inr x) => x != q
def nopL (q : Nat) : List (Option AV) → Bool
  | [] => true
  | none :: L => nopL q L
  | some v :: L => nopV q v && nopL q L
def nopS (q : Nat) : List AV → Bool
  | [] => true
  | v :: L => nopV q v && nopS q L
def κup (κ : KP) (q a : Nat) (cA : ClassId) : KP := (fun z => if z = q then a else κ.1 z, fun z => if z = q then cA else κ.2.1 z, κ.2.2)
theorem κup_v (κ : KP) {q a : Nat} {cA : ClassId} {v : AV} (h : nopV q v = true) : cv (κup κ q a cA) v = cv κ v := by
  rcases v with v | v | v
  · rfl
  · rfl
  · have h1 : v ≠ q := by simpa [nopV] using h
    show Value.ref (if v = q then a else κ.1 v) = .ref (κ.1 v)
    rw [if_neg h1]
theorem κup_S (κ : KP) {q a : Nat} {cA : ClassId} : ∀ {st : List AV}, nopS q st = true → st.map (cv (κup κ q a cA)) = st.map (cv κ)
  | [], _ => rfl
  | v :: st, h => by
    have h1 : nopV q v = true ∧ nopS q st = true := by simpa [nopS] using h
    rw [List.map_cons, List.map_cons, κup_v κ h1.1, κup_S κ h1.2]
theorem κup_pr (κ : KP) {q a : Nat} {cA : ClassId} : ∀ {L : List (Option AV)} (i : Nat), nopL q L = true → pr (κup κ q a cA) i L = pr κ i L
  | [], i, _ => rfl
  | none :: L, i, h => κup_pr κ (L := L) (i + 1) h
  | some v :: L, i, h => by
    have h1 : nopV q v = true ∧ nopL q L = true := by simpa [nopL] using h
    show (i, cv (κup κ q a cA) v) :: pr (κup κ q a cA) (i + 1) L = (i, cv κ v) :: pr κ (i + 1) L
    rw [κup_v κ h1.1, κup_pr κ (i + 1) h1.2]
theorem i32_nat (x : Int32) : x.toInt.toNat < 3000000000 := by
  have := i_rng x
  omega
theorem κup_cell (κ : KP) {q j a : Nat} {cA : ClassId} (hq : q < 137) (f : Nat → Int32) : cell (κup κ (3000000000 + j) a cA) q f = cell κ q f := by
  have h1 : ∀ z, z < 3000000000 → (κup κ (3000000000 + j) a cA).1 z = κ.1 z := fun z hz => if_neg (by omega)
  have h2 : ∀ z, z < 3000000000 → (κup κ (3000000000 + j) a cA).2.1 z = κ.2.1 z := fun z hz => if_neg (by omega)
  unfold cell
  cases ho : ob q with
  | none =>
    show (if q = 131 then _ else _) = (if q = 131 then _ else _)
    by_cases h131 : q = 131
    · rw [if_pos h131, if_pos h131, h2 q (by omega)]
      congr 7
      funext i
      rw [h1 _ (i32_nat (f i))]
    · rw [if_neg h131, if_neg h131, h2 q (by omega)]
  | some x =>
    show (Sum.inr (x.1, x.2.map (fv (κup κ (3000000000 + j) a cA) f)) : va_E) = .inr (x.1, x.2.map (fv κ f))
    congr 2
    refine List.map_congr_left (fun r hr => ?_)
    rcases r with p | i
    · have hp : p < 137 := by
        unfold ob at ho
        by_cases c1 : q < 121 ∧ q % 11 = 0
        · rw [if_pos c1] at ho
          cases ho
          simp [flW] at hr
          omega
        · rw [if_neg c1] at ho
          by_cases c2 : q = 121
          · rw [if_pos c2] at ho; cases ho
            simp [fl121] at hr
            omega
          · rw [if_neg c2] at ho
            by_cases c3 : q = 129
            · rw [if_pos c3] at ho; cases ho
              simp [fl129] at hr
              omega
            · rw [if_neg c3] at ho
              by_cases c4 : q = 130
              · rw [if_pos c4] at ho; cases ho
                simp [fl130] at hr
                omega
              · rw [if_neg c4] at ho; cases ho
      show Value.ref ((κup κ (3000000000 + j) a cA).1 p) = .ref (κ.1 p)
      rw [h1 p (by omega)]
    · rfl
theorem κup_cw (κ : KP) (j a : Nat) (cA : ClassId) (M : Mem) : cw (κup κ (3000000000 + j) a cA) M = cw κ M := by
  apply List.ext_getElem?
  intro k
  by_cases h : k < 137
  · rw [cw_at _ M h, cw_at _ M h, κup_cell κ h]
    show some ((if k = 3000000000 + j then a else κ.1 k), _) = _
    rw [if_neg (by omega)]
  · rw [cw_ge _ M h, cw_ge _ M h]
theorem κup_tys (κ : KP) (j a : Nat) (cA : ClassId) : tys (κup κ (3000000000 + j) a cA) = tys κ := by
  unfold tys
  refine List.map_congr_left (fun q hq => ?_)
  have hq := List.mem_range.mp hq
  show ((if q = 3000000000 + j then cA else κ.2.1 q), _) = _
  rw [if_neg (by omega)]
theorem κup_tyx (κ : KP) (j a : Nat) (cA : ClassId) : ∀ e ∈ tyx (κup κ (3000000000 + j) a cA), e ∈ tyx κ ++ [(cA, .int)] := by
  intro e he
  obtain ⟨i, hi, h⟩ := List.mem_map.mp he
  subst h
  show ((if 3000000000 + i = 3000000000 + j then cA else κ.2.1 (3000000000 + i)), FieldType.int) ∈ _
  by_cases hij : 3000000000 + i = 3000000000 + j
  · rw [if_pos hij]; exact List.mem_append.mpr (.inr List.mem_cons_self)
  · rw [if_neg hij]; exact List.mem_append.mpr (.inl (List.mem_map.mpr ⟨i, hi, rfl⟩))
def ez (E : Mem) (j : Nat) : Mem := fun a b => if a = j then 0 else E a b
theorem exs_new (κ : KP) (E : Mem) (j a : Nat) (cA : ClassId) : exs (κup κ (3000000000 + j) a cA) (ez E j) (j + 1) = exs κ E j ++ [(a, .inl (cA, eln j, .inl (fun _ => 0)))] := by
  apply List.ext_getElem?
  intro k
  by_cases h : k < j
  · rw [exs_at _ _ (by omega), List.getElem?_append_left (by unfold exs; rw [List.length_map, List.length_range]; exact h), exs_at κ E h]
    show some (_, _) = some (_, _)
    have e1 : (κup κ (3000000000 + j) a cA).1 (3000000000 + k) = κ.1 (3000000000 + k) := if_neg (by omega)
    have e2 : (κup κ (3000000000 + j) a cA).2.1 (3000000000 + k) = κ.2.1 (3000000000 + k) := if_neg (by omega)
    have e3 : ez E j k = E k := by funext b; exact if_neg (by omega)
    rw [e1, e2, e3]
  · rw [List.getElem?_append_right (by unfold exs; rw [List.length_map, List.length_range]; omega)]
    have hl : (exs κ E j).length = j := by unfold exs; rw [List.length_map, List.length_range]
    rw [hl]
    by_cases h2 : k = j
    · subst h2
      rw [exs_at _ _ (by omega), Nat.sub_self]
      show some (_, _) = some (_, _)
      have e1 : (κup κ (3000000000 + k) a cA).1 (3000000000 + k) = a := if_pos rfl
      have e2 : (κup κ (3000000000 + k) a cA).2.1 (3000000000 + k) = cA := if_pos rfl
      have e3 : ez E k k = fun _ => 0 := by funext b; exact if_pos rfl
      rw [e1, e2, e3]
    · rw [exs_ge _ _ (by omega), List.getElem?_eq_none (by show 1 ≤ k - j; omega)]
theorem w_arrI : Cond.arrayClass .int ∈ lw_g := gm (i := 114) (by decide +kernel) rfl
section XR
variable {own : String} {cc : ByteArray} {nL d rk : Nat} {sc : SC} {pc : Nat} {L : List (Option AV)} {st : List AV} {M E : Mem} {nx u : Nat} {o o1 o2 : Rs}
theorem x_newa {j N q : Nat} (hd : decode cc pc = .ok (.newarray .int, 2)) (hj : j < 5) (hN : eln j = N) (hq : 3000000000 + j = q) (hL : nopL q L = true) (hst : nopS q st = true) (kk : X own cc nL d rk sc (pc + 2) L (rv q :: st) M (ez E j) (j + 1) (u + 1 + N) o) : X own cc nL d rk sc pc L (iv (N : Int) :: st) M E j u (if u + 1 + N ≤ 500000 then o else none) := by
  intro res ho κ p l eV R s m args below meth c cells slots A Fin hF hR H locs ls hP hl
  obtain ⟨hu, ho⟩ := gd_some ho
  subst hq
  have hNe := hN
  have hN8 : N < 2147483648 := by rw [← hN]; exact eln_lt j
  have nn : ¬ Int32.ofInt (N : Int) < 0 := by
    rw [z32, i_lt ⟨by omega, by omega⟩ i32_0]
    omega
  have hPp := hP.2.2.2
  refine va_newa (atype := .int) hF.1 hF.2.1 (hF.2.2.2.2.1 (.arrayClass .int) w_arrI) rfl hF.2.2.2.2.2.2.2.2.2.1 hP.1 hP.2.1 hP.2.2.1 hF.2.2.2.2.2.2.2.2.2.2.1 (N' := N) (a0 := (N, .inl (fun _ => 0))) (fun cA => rfl) nn (by rw [i_ix (by omega) (by omega)]; omega) (by show N * 4 ≤ 536870912; rw [← hN]; unfold eln; split <;> decide) (by have := hF.2.2.2.2.2.2.2.1; omega) (by have := hF.2.2.2.2.2.2.2.2.1; omega) hd (fun a cA H1 hK1 hP1 hD1 hS1 => ?_)
  have e1 : cw (κup κ (3000000000 + j) a cA) M ++ exs (κup κ (3000000000 + j) a cA) (ez E j) (j + 1) = (cw κ M ++ exs κ E j) ++ [(a, .inl (cA, (N, .inl (fun _ => 0))))] := by
    rw [κup_cw, exs_new, hN, List.append_assoc]
  have k' := kk res ho (κup κ (3000000000 + j) a cA) p l eV R s m args below meth c (cells + 1) (slots + N) A Fin ?_ hR H1 locs ls ?_ ?_
  · have e2 : (rv (3000000000 + j) :: st).map (cv (κup κ (3000000000 + j) a cA)) = .ref a :: st.map (cv κ) := by
      rw [List.map_cons, κup_S κ hst]
      show Value.ref (if 3000000000 + j = 3000000000 + j then a else _) :: _ = _
      rw [if_pos rfl]
    rw [e2] at k'
    exact k'
  · obtain ⟨f1, f2, f3, f4, f5, f6, f7, f8, f9, f10, f11, f12, f13⟩ := hF
    refine ⟨f1, f2, f3, f4, f5, f6, f7, f8, f9, ?_, f11, ?_, f13⟩
    · refine va_K_mem hK1 (fun e he => ?_)
      rcases List.mem_append.mp he with h | h
      · rw [κup_tys] at h
        exact List.mem_append.mpr (.inl (List.mem_append.mpr (.inl h)))
      · rcases List.mem_append.mp (κup_tyx κ j a cA e h) with h | h
        · exact List.mem_append.mpr (.inl (List.mem_append.mpr (.inr h)))
        · exact List.mem_append.mpr (.inr h)
    · intro L' xs' hx
      have h := f12 L' xs' hx
      have e3 : (κup κ (3000000000 + j) a cA).1 158 = κ.1 158 := if_neg (by omega)
      rw [e3]
      exact h
  · refine ⟨by rw [e1]; exact hP1, by rw [e1]; exact hD1, hS1, by omega, by omega, by omega⟩
  · unfold agr
    rw [κup_pr κ 0 hL]
    exact hl
theorem x_iald {j N q : Nat} {a : Int} (hd : decode cc pc = .ok (.iaload, 1)) (hj : j < nx) (h5 : j < 5) (hN : eln j = N) (hq : 3000000000 + j = q) (h : 0 ≤ a ∧ a < (N : Int)) (k : X own cc nL d rk sc (pc + 1) L (iv (rd E j a.toNat) :: st) M E nx u o) : X own cc nL d rk sc pc L (iv a :: rv q :: st) M E nx u o := by
  intro res ho κ p l eV R s m args below meth c cells slots A Fin hF hR H locs ls hP hl
  have k' := k res ho κ p l eV R s m args below meth c cells slots A Fin hF hR H locs ls hP hl
  subst hq
  have hN8 := eln_lt j
  refine va_iald hF.1 hF.2.1 hF.2.2.2.2.2.2.2.2.2.1 hP.1 (137 + j) (137 + j) (big_at κ M E hj) (tyx_at κ h5) (i_in h.1 (by rw [hN]; exact h.2) hN8) hd ?_
  rw [show List.map (cv κ) (iv (rd E j a.toNat) :: st) = .int (Int32.ofInt (rd E j a.toNat)) :: st.map (cv κ) from rfl, rd_c] at k'
  rw [i_ix h.1 (by omega)]
  exact k'
theorem x_iast {j N q : Nat} {a v : Int} (hd : decode cc pc = .ok (.iastore, 1)) (hj : j < nx) (h5 : j < 5) (hN : eln j = N) (hq : 3000000000 + j = q) (h : 0 ≤ a ∧ a < (N : Int)) (k : X own cc nL d rk sc (pc + 1) L st M (mup E j a.toNat v) nx u o) : X own cc nL d rk sc pc L (iv v :: iv a :: rv q :: st) M E nx u o := by
  intro res ho κ p l eV R s m args below meth c cells slots A Fin hF hR H locs ls hP hl
  subst hq
  have hN8 := eln_lt j
  refine va_iast (x := Int32.ofInt v) hF.1 hF.2.1 hF.2.2.2.2.2.2.2.2.2.1 hP.1 hP.2.1 hP.2.2.1 (137 + j) (137 + j) (big_at κ M E hj) (tyx_at κ h5) (i_in h.1 (by rw [hN]; exact h.2) hN8) hd (fun H1 locs1 hP1 hD1 hS1 => ?_)
  have e : (cw κ M ++ exs κ E nx).set (137 + j) (κ.1 (3000000000 + j), .inl (κ.2.1 (3000000000 + j), eln j, .inl (upd (E j) a.toNat (Int32.ofInt v)))) = cw κ M ++ exs κ (mup E j a.toNat v) nx := by
    apply List.ext_getElem?
    intro k
    rw [List.getElem?_set]
    by_cases hk : 137 + j = k
    · subst hk
      have hlen : 137 + j < (cw κ M ++ exs κ E nx).length := by
        rw [List.length_append, cw_len]
        unfold exs
        rw [List.length_map, List.length_range]
        omega
      rw [if_pos rfl, if_pos hlen, big_at κ M _ hj]
      show _ = some (_, _)
      rw [mup_self]
    · rw [if_neg hk]
      by_cases h1 : k < 137
      · rw [big_l κ M E h1, big_l κ M _ h1]
      · obtain ⟨i, rfl⟩ : ∃ i, k = 137 + i := ⟨k - 137, by omega⟩
        rw [big_r, big_r]
        by_cases hi : i < nx
        · rw [exs_at κ E hi, exs_at κ _ hi]
          show some (_, _) = some (_, _)
          rw [mup_ne E (by omega)]
        · rw [exs_ge κ E hi, exs_ge κ _ hi]
  rw [i_ix h.1 (by omega), e] at hP1 hD1
  exact k res ho κ p l eV R s m args below meth c cells slots A Fin hF hR H1 locs1 ls ⟨hP1, hD1, hS1, hP.2.2.2⟩ hl
theorem x_less {nx' : Nat} (hn : nx' ≤ nx) (k : X own cc nL d rk sc pc L st M E nx' u o) : X own cc nL d rk sc pc L st M E nx u o := by
  intro res ho κ p l eV R s m args below meth c cells slots A Fin hF hR H locs ls hP hl
  exact k res ho κ p l eV R s m args below meth c cells slots A Fin hF hR H locs ls (px_less hP hn) hl
theorem x_ret {a : Int} (hd : decode cc pc = .ok (.ireturn, 1)) (ha : a = 0 ∨ a = 1) : X own cc nL d rk sc pc L [iv a] M E nx u (some (a, M)) := by
  intro res ho κ p l eV R s m args below meth c cells slots A Fin hF hR H locs ls hP hl
  cases ho
  have hu := hP.2.2.2
  exact hR H locs ls pc cells slots hP.2.2.1 (by omega) (by omega) ha hd
theorem x_mabs {index : Nat} {a : Int} (ha : I32 a) (hlk : Cond.methodLink own index Lib.Math.abs.name ∈ lw_g) (hd : decode cc pc = .ok (.invokestatic index, 3)) (hcat : (st.map catA).sum ≤ 8) (hfr : 1 ≤ d) (k : X own cc nL d rk sc (pc + 3) L (iv (abZ a) :: st) M E nx u o) : X own cc nL d rk sc pc L (iv a :: st) M E nx u o := by
  intro res ho κ p l eV R s m args below meth c cells slots A Fin hF hR H locs ls hP hl
  have hts := hF.2.2.2.2.1
  have k' := k res ho κ p l eV R s m args below meth c cells slots A Fin hF hR H locs ls hP hl
  have hcs : ((st.map (cv κ)).map fun v => v.category).sum ≤ 8 := by rw [cats_cv]; exact hcat
  have hd34 : 34 ≤ 34 * d := by omega
  have hu := hP.2.2.2
  have hr1 := hF.2.2.2.2.2.2.2.1
  have hr2 := hF.2.2.2.2.2.2.2.2.1
  refine va_mabs (x := Int32.ofInt a) hF.1 hF.2.1 (hF.2.2.1.trans hl.1.symm) hF.2.2.2.1 (hts _ hlk) (hts _ w_absS) (hts _ w_mI) (hts _ w_absC) (Nat.le_trans hfr hF.2.2.2.2.2.1) (Nat.le_trans (Nat.add_le_add_right hcs 13) (Nat.le_trans (by omega) (Nat.le_trans hd34 hF.2.2.2.2.2.2.1))) (by omega) (by omega) hd ?_
  rw [show List.map (cv κ) (iv (abZ a) :: st) = .int (Int32.ofInt (abZ a)) :: st.map (cv κ) from rfl, show Int32.ofInt (abZ a) = _ from (i_abs ha).symm] at k'
  exact k'
theorem x_mmin {index : Nat} {a b : Int} (ha : I32 a) (hb : I32 b) (hlk : Cond.methodLink own index Lib.Math.min.name ∈ lw_g) (hd : decode cc pc = .ok (.invokestatic index, 3)) (hcat : (st.map catA).sum ≤ 8) (hfr : 1 ≤ d) (k : X own cc nL d rk sc (pc + 3) L (iv (mnZ b a) :: st) M E nx u o) : X own cc nL d rk sc pc L (iv b :: iv a :: st) M E nx u o := by
  intro res ho κ p l eV R s m args below meth c cells slots A Fin hF hR H locs ls hP hl
  have hts := hF.2.2.2.2.1
  have k' := k res ho κ p l eV R s m args below meth c cells slots A Fin hF hR H locs ls hP hl
  have hcs : ((st.map (cv κ)).map fun v => v.category).sum ≤ 8 := by rw [cats_cv]; exact hcat
  have hd34 : 34 ≤ 34 * d := by omega
  have hu := hP.2.2.2
  have hr1 := hF.2.2.2.2.2.2.2.1
  have hr2 := hF.2.2.2.2.2.2.2.2.1
  refine va_mmin (x := Int32.ofInt a) (y := Int32.ofInt b) hF.1 hF.2.1 (hF.2.2.1.trans hl.1.symm) hF.2.2.2.1 (hts _ hlk) (hts _ w_minS) (hts _ w_mI) (hts _ w_minC) (Nat.le_trans hfr hF.2.2.2.2.2.1) (Nat.le_trans (Nat.add_le_add_right hcs 13) (Nat.le_trans (by omega) (Nat.le_trans hd34 hF.2.2.2.2.2.2.1))) (by omega) (by omega) hd ?_
  rw [show List.map (cv κ) (iv (mnZ b a) :: st) = .int (Int32.ofInt (mnZ b a)) :: st.map (cv κ) from rfl, show Int32.ofInt (mnZ b a) = _ from (i_min hb ha).symm] at k'
  exact k'
end XR
