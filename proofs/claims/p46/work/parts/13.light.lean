abbrev AV : Type := Int ⊕ (Int ⊕ Nat)
abbrev iv (a : Int) : AV := Sum.inl a
abbrev jv (a : Int) : AV := Sum.inr (Sum.inl a)
abbrev rv (q : Nat) : AV := Sum.inr (Sum.inr q)
abbrev Mem : Type := Nat → Nat → Int32
abbrev KP : Type := (Nat → Nat) × (Nat → ClassId) × va_G
abbrev SC : Type := Option (Nat × (Nat → Int32))
abbrev Rs : Type := Option (Int × Mem)
def cv (κ : KP) : AV → Value
  | .inl a => .int (Int32.ofInt a)
  | .inr (.inl a) => .long (Int64.ofInt a)
  | .inr (.inr q) => .ref (κ.1 q)
def catA : AV → Nat
  | .inl _ => 1
  | .inr (.inl _) => 2
  | .inr (.inr _) => 1
theorem cat_cv (κ : KP) (v : AV) : (cv κ v).category = catA v := by
  rcases v with a | a | q <;> rfl
theorem cats_cv (κ : KP) (st : List AV) : ((st.map (cv κ)).map fun v => v.category).sum = (st.map catA).sum := by
  rw [List.map_map]
  congr 1
  exact List.map_congr_left (fun v _ => cat_cv κ v)
def flW (w : Nat) : List (Nat ⊕ Nat) := [.inl (w+1), .inl (w+2), .inl (w+3), .inr 3, .inl (w+4), .inl (w+5), .inl (w+6), .inr 7, .inl (w+7), .inl (w+8), .inl (w+9), .inl (w+10), .inr 12, .inr 13, .inr 14]
def fl121 : List (Nat ⊕ Nat) := [.inl 122, .inl 123, .inl 124, .inr 3, .inl 125, .inl 126, .inl 127, .inl 128]
def fl129 : List (Nat ⊕ Nat) := [.inl 22, .inl 121, .inr 2, .inr 3, .inr 4]
def fl130 : List (Nat ⊕ Nat) := [.inl 0, .inl 11, .inr 2, .inl 131, .inr 4, .inl 132, .inr 6, .inl 133, .inr 8, .inl 134, .inl 129, .inl 135, .inl 136]
abbrev isW (q : Nat) : Prop := q < 121 ∧ q % 11 = 0
def ob (q : Nat) : Option (Nat × List (Nat ⊕ Nat)) :=
  if q < 121 ∧ q % 11 = 0 then some (2, flW q) else if q = 121 then some (1, fl121) else if q = 129 then some (0, fl129) else if q = 130 then some (3, fl130) else none
def ln (q : Nat) : Nat :=
  if q < 121 then (if q % 11 ≤ 3 then 6 else if q % 11 ≤ 6 then 8 else 5) else if q ≤ 124 then 6 else if q = 125 then 1536 else if q = 126 then 64 else if q ≤ 128 then 6 else if q ≤ 131 then 8 else if q = 132 then 96 else if q = 133 then 12 else if q = 134 then 7 else if q ≤ 136 then 4 else if q ≤ 140 then 6 else if q ≤ 143 then 8 else if q ≤ 147 then 5 else if q = 148 then 7 else if q ≤ 150 then 6 else if q = 151 then 96 else if q ≤ 153 then 33 else if q = 154 then 99 else if q = 155 then 750 else if q = 156 then 12 else 8
def fv (κ : KP) (f : Nat → Int32) : Nat ⊕ Nat → Value
  | .inl p => .ref (κ.1 p)
  | .inr i => .int (f i)
def cell (κ : KP) (q : Nat) (f : Nat → Int32) : va_E :=
  match ob q with
  | some x => .inr (x.1, x.2.map (fv κ f))
  | none => if q = 131 then .inl (κ.2.1 q, 8, .inr (.inr (.inr (.inr (fun i => some (κ.1 (f i).toInt.toNat)))))) else .inl (κ.2.1 q, ln q, .inl f)
def cw (κ : KP) (M : Mem) : va_W := (List.range 137).map (fun q => (κ.1 q, cell κ q (M q)))
def tys (κ : KP) : List (ClassId × FieldType) := (List.range 137).map (fun q => (κ.2.1 q, if q = 131 then .object "OnlyInFog$World" else .int))
def rd (M : Mem) (q i : Nat) : Int := (M q i).toInt
def mup (M : Mem) (q i : Nat) (v : Int) : Mem := fun a b => if a = q ∧ b = i then Int32.ofInt v else M a b
theorem rd_rng (M : Mem) (q i : Nat) : I32 (rd M q i) := i_rng _
theorem rd_c (M : Mem) (q i : Nat) : Int32.ofInt (rd M q i) = M q i := i_ofToInt _
theorem cw_at (κ : KP) (M : Mem) {q : Nat} (h : q < 137) : (cw κ M)[q]? = some (κ.1 q, cell κ q (M q)) := by
  unfold cw
  rw [List.getElem?_map, List.getElem?_range h]
  rfl
theorem cw_len (κ : KP) (M : Mem) : (cw κ M).length = 137 := by
  unfold cw
  rw [List.length_map, List.length_range]
theorem cw_ge (κ : KP) (M : Mem) {q : Nat} (h : ¬ q < 137) : (cw κ M)[q]? = none := List.getElem?_eq_none (by rw [cw_len]; omega)
theorem tys_at (κ : KP) {q : Nat} (h : q < 137) : (tys κ)[q]? = some (κ.2.1 q, if q = 131 then .object "OnlyInFog$World" else .int) := by
  unfold tys
  rw [List.getElem?_map, List.getElem?_range h]
  rfl
theorem mup_ne (M : Mem) {q i a : Nat} {v : Int} (h : a ≠ q) : mup M q i v a = M a := by
  funext b
  show (if a = q ∧ b = i then _ else _) = _
  rw [if_neg (fun z => h z.1)]
theorem mup_self (M : Mem) (q i : Nat) (v : Int) : mup M q i v q = upd (M q) i (Int32.ofInt v) := by
  funext b
  show (if q = q ∧ b = i then _ else _) = (if b = i then _ else _)
  by_cases h : b = i
  · rw [if_pos ⟨rfl, h⟩, if_pos h]
  · rw [if_neg (fun z => h z.2), if_neg h]
theorem cw_set (κ : KP) {M M' : Mem} {q : Nat} (h : ∀ a, a ≠ q → M' a = M a) : (cw κ M).set q (κ.1 q, cell κ q (M' q)) = cw κ M' := by
  apply List.ext_getElem?
  intro j
  rw [List.getElem?_set]
  by_cases hj : q = j
  · subst hj
    rw [if_pos rfl, cw_len]
    by_cases h1 : q < 137
    · rw [if_pos h1, cw_at κ M' h1]
    · rw [if_neg h1, cw_ge κ M' h1]
  · rw [if_neg hj]
    by_cases h1 : j < 137
    · rw [cw_at κ M h1, cw_at κ M' h1, h j (fun z => hj z.symm)]
    · rw [cw_ge κ M h1, cw_ge κ M' h1]
theorem cw_fst (κ : KP) (M M' : Mem) {k : Nat} {e : Nat × va_E} (h : (cw κ M)[k]? = some e) : ∃ e', (cw κ M')[k]? = some e' ∧ e'.1 = e.1 := by
  have hk : k < 137 := by
    by_cases hk : k < 137
    · exact hk
    · rw [cw_ge κ M hk] at h; cases h
  rw [cw_at κ M hk] at h
  cases h
  exact ⟨_, cw_at κ M' hk, rfl⟩
theorem cell_ob (κ : KP) {q ci : Nat} {fl : List (Nat ⊕ Nat)} (h : ob q = some (ci, fl)) (f : Nat → Int32) : cell κ q f = .inr (ci, fl.map (fv κ f)) := by
  unfold cell
  rw [h]
abbrev ar (q n : Nat) : Prop := ob q = none ∧ q ≠ 131 ∧ q < 137 ∧ ln q = n
theorem cell_ar (κ : KP) {q n : Nat} (h : ar q n) (f : Nat → Int32) : cell κ q f = .inl (κ.2.1 q, n, .inl f) := by
  unfold cell
  rw [h.1]
  show (if q = 131 then _ else _) = _
  rw [if_neg h.2.1, h.2.2.2]
theorem ob_w {q : Nat} (h : isW q) : ob q = some (2, flW q) := by
  unfold ob
  rw [if_pos h]
theorem ob_121 : ob 121 = some (1, fl121) := rfl
theorem ob_129 : ob 129 = some (0, fl129) := rfl
theorem ob_130 : ob 130 = some (3, fl130) := rfl
theorem ob_lt {q : Nat} {x : Nat × List (Nat ⊕ Nat)} (h : ob q = some x) : q < 137 := by
  unfold ob at h
  by_cases h1 : q < 121 ∧ q % 11 = 0
  · omega
  · rw [if_neg h1] at h
    by_cases h2 : q = 121
    · omega
    · rw [if_neg h2] at h
      by_cases h3 : q = 129
      · omega
      · rw [if_neg h3] at h
        by_cases h4 : q = 130
        · omega
        · rw [if_neg h4] at h; cases h
theorem ite_lt {P : Prop} {dP : Decidable P} {a b N : Nat} (ha : a < N) (hb : b < N) : (if P then a else b) < N := by
  by_cases h : P
  · rw [if_pos h]; exact ha
  · rw [if_neg h]; exact hb
theorem ln_lt (q : Nat) : ln q < 2147483648 := by
  unfold ln
  repeat' apply ite_lt
  all_goals decide
theorem ar_lt {q n : Nat} (h : ar q n) : n < 2147483648 := by
  rw [← h.2.2.2]; exact ln_lt q
/-- an array of a world's own -/
theorem ar_w {w k : Nat} (h : isW w) (h1 : 0 < k) (h2 : k < 11) : ar (w + k) (if k ≤ 3 then 6 else if k ≤ 6 then 8 else 5) := by
  have e : (w + k) % 11 = k := by omega
  have l : w + k < 121 := by omega
  refine ⟨?_, by omega, by omega, ?_⟩
  · unfold ob
    rw [if_neg (by omega), if_neg (by omega), if_neg (by omega), if_neg (by omega)]
  · unfold ln
    rw [if_pos l, e]
/-- an object's int fields: no index twice -/
def flI (fl : List (Nat ⊕ Nat)) : List Nat := fl.filterMap (fun x => match x with | .inl _ => none | .inr i => some i)
theorem flW_nd (w : Nat) : (flI (flW w)).Nodup := by
  show ([3, 7, 12, 13, 14] : List Nat).Nodup
  decide
theorem ob_nd {q ci : Nat} {fl : List (Nat ⊕ Nat)} (h : ob q = some (ci, fl)) : (flI fl).Nodup := by
  unfold ob at h
  by_cases h1 : q < 121 ∧ q % 11 = 0
  · rw [if_pos h1] at h; cases h; exact flW_nd q
  · rw [if_neg h1] at h
    by_cases h2 : q = 121
    · rw [if_pos h2] at h; cases h; decide
    · rw [if_neg h2] at h
      by_cases h3 : q = 129
      · rw [if_pos h3] at h; cases h; decide
      · rw [if_neg h3] at h
        by_cases h4 : q = 130
        · rw [if_pos h4] at h; cases h; decide
        · rw [if_neg h4] at h; cases h
theorem fl_set (κ : KP) (f : Nat → Int32) (v : Int32) : ∀ (fl : List (Nat ⊕ Nat)) (k i : Nat), (flI fl).Nodup → fl[k]? = some (.inr i) → (fl.map (fv κ f)).set k (.int v) = fl.map (fv κ (upd f i v))
  | [], k, i, _, h => by simp at h
  | x :: fl, 0, i, hn, h => by
    simp at h
    subst h
    have hn' : i ∉ flI fl := (List.nodup_cons.mp hn).1
    show (.int v : Value) :: fl.map (fv κ f) = fv κ (upd f i v) (.inr i) :: fl.map (fv κ (upd f i v))
    have e1 : fv κ (upd f i v) (.inr i) = .int v := by
      show Value.int (if i = i then v else f i) = _
      rw [if_pos rfl]
    rw [e1]
    congr 1
    refine List.map_congr_left (fun y hy => ?_)
    rcases y with p | j
    · rfl
    · have hj : j ≠ i := by
        intro e
        subst e
        exact hn' (List.mem_filterMap.mpr ⟨_, hy, rfl⟩)
      show Value.int (f j) = Value.int (if j = i then v else f j)
      rw [if_neg hj]
  | x :: fl, k + 1, i, hn, h => by
    have h' : fl[k]? = some (.inr i) := by simpa using h
    have hi : i ∈ flI fl := List.mem_filterMap.mpr ⟨_, List.mem_of_getElem? h', rfl⟩
    show fv κ f x :: (fl.map (fv κ f)).set k (.int v) = fv κ (upd f i v) x :: fl.map (fv κ (upd f i v))
    rcases x with p | j
    · have hn' : (flI fl).Nodup := hn
      rw [fl_set κ f v fl k i hn' h']
      rfl
    · have hn' : j ∉ flI fl ∧ (flI fl).Nodup := List.nodup_cons.mp hn
      rw [fl_set κ f v fl k i hn'.2 h']
      congr 1
      show Value.int (f j) = Value.int (if j = i then v else f j)
      rw [if_neg (fun e : j = i => hn'.1 (by rw [e]; exact hi))]
/-! the locals -/
def pr (κ : KP) : Nat → List (Option AV) → List (Nat × Value)
  | _, [] => []
  | i, none :: L => pr κ (i + 1) L
  | i, some v :: L => (i, cv κ v) :: pr κ (i + 1) L
theorem mem_pr (κ : KP) (x : Nat × Value) : ∀ (L : List (Option AV)) (i : Nat), x ∈ pr κ i L ↔ ∃ (j : Nat) (v : AV), L[j]? = some (some v) ∧ x = (i + j, cv κ v)
  | [], i => by simp [pr]
  | none :: L, i => by
    rw [show pr κ i (none :: L) = pr κ (i + 1) L from rfl, mem_pr κ x L (i + 1)]
    constructor
    · rintro ⟨j, v, h1, h2⟩
      exact ⟨j + 1, v, by simpa using h1, by rw [h2]; congr 1; omega⟩
    · rintro ⟨j, v, h1, h2⟩
      rcases j with _ | j
      · simp at h1
      · exact ⟨j, v, by simpa using h1, by rw [h2]; congr 1; omega⟩
  | some w :: L, i => by
    rw [show pr κ i (some w :: L) = (i, cv κ w) :: pr κ (i + 1) L from rfl, List.mem_cons, mem_pr κ x L (i + 1)]
    constructor
    · rintro (h | ⟨j, v, h1, h2⟩)
      · exact ⟨0, w, rfl, by rw [h]; rfl⟩
      · exact ⟨j + 1, v, by simpa using h1, by rw [h2]; congr 1; omega⟩
    · rintro ⟨j, v, h1, h2⟩
      rcases j with _ | j
      · simp at h1
        subst h1
        exact Or.inl h2
      · exact Or.inr ⟨j, v, by simpa using h1, by rw [h2]; congr 1; omega⟩
def agr (κ : KP) (ls : Array Slot) (nL : Nat) (L : List (Option AV)) : Prop := lv_has ls nL (pr κ 0 L)
theorem agr_at {κ : KP} {ls : Array Slot} {nL : Nat} {L : List (Option AV)} (h : agr κ ls nL L) {i : Nat} {v : AV} (hL : L[i]? = some (some v)) : ls[i]? = some (.val (cv κ v)) :=
  h.2.2 (i, cv κ v) ((mem_pr κ _ L 0).mpr ⟨i, v, hL, by simp⟩)
theorem agr_of {κ : KP} {ls : Array Slot} {nL : Nat} {lv : List (Nat × Value)} {L : List (Option AV)} (h : lv_has ls nL lv) (hL : ∀ (i : Nat) (v : AV), L[i]? = some (some v) → (i, cv κ v) ∈ lv) : agr κ ls nL L := by
  refine ⟨h.1, h.2.1, fun q hq => ?_⟩
  obtain ⟨j, v, h1, h2⟩ := (mem_pr κ q L 0).mp hq
  rw [Nat.zero_add] at h2
  subst h2
  exact h.2.2 _ (hL j v h1)
def okst (L : List (Option AV)) : Nat → Bool
  | 0 => true
  | j + 1 => match L[j]? with
    | some (some v) => catA v == 1
    | _ => true
theorem okst_spec {L : List (Option AV)} {i j : Nat} {v : AV} (h : okst L i = true) (hj : j + 1 = i) (hv : L[j]? = some (some v)) : catA v = 1 := by
  subst hj
  simp only [okst, hv] at h
  simpa using h
theorem agr_set1 {κ : KP} {ls : Array Slot} {nL i : Nat} {x : AV} {L L' : List (Option AV)} (hok : okst L i = true) (hs : L.set i (some x) = L')
    (h : lv_has ls nL ((i, cv κ x) :: (pr κ 0 L).filter (fun q => !(q.1 == i) && !(q.1 + 1 == i && q.2.category == 2)))) : agr κ ls nL L' := by
  subst hs
  refine agr_of h (fun j v hj => ?_)
  rw [List.getElem?_set] at hj
  by_cases e : i = j
  · subst e
    rw [if_pos rfl] at hj
    by_cases hl : i < L.length
    · rw [if_pos hl] at hj
      cases hj
      exact List.mem_cons_self
    · rw [if_neg hl] at hj
      cases hj
  · rw [if_neg e] at hj
    refine List.mem_cons_of_mem _ (List.mem_filter.mpr ⟨(mem_pr κ _ L 0).mpr ⟨j, v, hj, by simp⟩, ?_⟩)
    have h1 : (j == i) = false := by simpa using fun z => e z.symm
    by_cases e2 : j + 1 = i
    · have h2 : (cv κ v).category = 1 := by rw [cat_cv]; exact okst_spec hok e2 hj
      simp [h1, h2]
    · simp [h1, e2]
theorem agr_set2 {κ : KP} {ls : Array Slot} {nL i : Nat} {x : AV} {L L' : List (Option AV)} (hok : okst L i = true) (hs : (L.set i (some x)).set (i + 1) none = L')
    (h : lv_has ls nL ((i, cv κ x) :: (pr κ 0 L).filter (fun q => !(q.1 == i) && (!(q.1 == i + 1) && !(q.1 + 1 == i && q.2.category == 2))))) : agr κ ls nL L' := by
  subst hs
  refine agr_of h (fun j v hj => ?_)
  rw [List.getElem?_set] at hj
  by_cases e : i + 1 = j
  · rw [if_pos e] at hj
    by_cases hl : i + 1 < (L.set i (some x)).length
    · rw [if_pos hl] at hj
      cases hj
    · rw [if_neg hl] at hj
      cases hj
  · rw [if_neg e, List.getElem?_set] at hj
    by_cases e : i = j
    · subst e
      rw [if_pos rfl] at hj
      by_cases hl : i < L.length
      · rw [if_pos hl] at hj
        cases hj
        exact List.mem_cons_self
      · rw [if_neg hl] at hj
        cases hj
    · rename_i e0
      rw [if_neg e] at hj
      refine List.mem_cons_of_mem _ (List.mem_filter.mpr ⟨(mem_pr κ _ L 0).mpr ⟨j, v, hj, by simp⟩, ?_⟩)
      have h1 : (j == i) = false := by simpa using fun z => e z.symm
      have h3 : (j == i + 1) = false := by simpa using fun z => e0 z.symm
      by_cases e2 : j + 1 = i
      · have h2 : (cv κ v).category = 1 := by rw [cat_cv]; exact okst_spec hok e2 hj
        simp [h1, h2, h3]
      · simp [h1, e2, h3]
/-- fewer locals known -/
def Lsub : List (Option AV) → List (Option AV) → Prop
  | [], _ => True
  | none :: a, [] => Lsub a []
  | none :: a, _ :: b => Lsub a b
  | some _ :: _, [] => False
  | some x :: a, y :: b => y = some x ∧ Lsub a b
theorem Lsub.at : ∀ {a b : List (Option AV)} (_ : Lsub a b) {i : Nat} {v : AV}, a[i]? = some (some v) → b[i]? = some (some v)
  | [], _, _, i, v, h => by simp at h
  | none :: a, [], h0, i, v, h => by
    rcases i with _ | i
    · simp at h
    · have := Lsub.at (a := a) (b := []) h0 (i := i) (v := v) (by simpa using h)
      simp at this
  | none :: a, _ :: b, h0, i, v, h => by
    rcases i with _ | i
    · simp at h
    · simpa using Lsub.at (a := a) (b := b) h0 (i := i) (v := v) (by simpa using h)
  | some _ :: _, [], h0, _, _, _ => h0.elim
  | some x :: a, y :: b, h0, i, v, h => by
    rcases i with _ | i
    · simp at h
      subst h
      simpa using h0.1
    · simpa using Lsub.at (a := a) (b := b) h0.2 (i := i) (v := v) (by simpa using h)
theorem agr_sub {κ : KP} {ls : Array Slot} {nL : Nat} {L L' : List (Option AV)} (h : agr κ ls nL L) (hs : Lsub L' L) : agr κ ls nL L' :=
  agr_of h (fun i v hv => (mem_pr κ _ L 0).mpr ⟨i, v, hs.at hv, by simp⟩)
def la : List AV → List (Option AV)
  | [] => []
  | v :: vs => if catA v = 2 then some v :: none :: la vs else some v :: la vs
theorem pr_nones (κ : KP) : ∀ (k i : Nat), pr κ i (List.replicate k none) = []
  | 0, _ => rfl
  | k + 1, i => pr_nones κ k (i + 1)
theorem pr_args (κ : KP) (k : Nat) : ∀ (as : List AV) (i : Nat), pr κ i (la as ++ List.replicate k none) = lv_args i (as.map (cv κ))
  | [], i => pr_nones κ k i
  | v :: vs, i => by
    by_cases h : catA v = 2
    · have e : la (v :: vs) = some v :: none :: la vs := by rw [la, if_pos h]
      rw [e]
      show (i, cv κ v) :: pr κ (i + 1 + 1) (la vs ++ List.replicate k none) = (i, cv κ v) :: lv_args (if (cv κ v).category = 2 then i + 2 else i + 1) (vs.map (cv κ))
      rw [cat_cv, if_pos h, pr_args κ k vs]
    · have e : la (v :: vs) = some v :: la vs := by rw [la, if_neg h]
      rw [e]
      show (i, cv κ v) :: pr κ (i + 1) (la vs ++ List.replicate k none) = (i, cv κ v) :: lv_args (if (cv κ v).category = 2 then i + 2 else i + 1) (vs.map (cv κ))
      rw [cat_cv, if_neg h, pr_args κ k vs]
theorem la_len (κ : KP) : ∀ as : List AV, (lg_sl (as.map (cv κ))).length = (la as).length
  | [] => rfl
  | v :: vs => by
    have ih := la_len κ vs
    unfold lg_sl at ih ⊢
    rw [List.map_cons, List.flatMap_cons, List.length_append, ih, cat_cv, la]
    by_cases h : catA v = 2
    · rw [if_pos h, if_pos h]; simp; omega
    · rw [if_neg h, if_neg h]; simp; omega
theorem agr_entry (κ : KP) (as : List AV) {n : Nat} {L : List (Option AV)} (hn : (la as).length ≤ n) (hL : la as ++ List.replicate (n - (la as).length) none = L) : agr κ ((lg_sl (as.map (cv κ)) ++ List.replicate (n - (lg_sl (as.map (cv κ))).length) Slot.unset).toArray) n L := by
  have h := lv_entry (as.map (cv κ)) (n := n) (by rw [la_len]; exact hn)
  subst hL
  unfold agr
  rw [pr_args]
  exact h
def bd (o : Rs) (k : Int → Mem → Rs) : Rs := match o with
  | some x => k x.1 x.2
  | none => none
theorem bd_some {o : Rs} {k : Int → Mem → Rs} {res : Int × Mem} (h : bd o k = some res) : ∃ x, o = some x ∧ k x.1 x.2 = some res := by
  unfold bd at h
  cases o with
  | none => cases h
  | some x => exact ⟨x, rfl, h⟩
theorem gd_some {P : Prop} {d : Decidable P} {o : Rs} {res : Int × Mem} (h : (if P then o else none) = some res) : P ∧ o = some res := by
  by_cases hp : P
  · rw [if_pos hp] at h
    exact ⟨hp, h⟩
  · rw [if_neg hp] at h
    cases h
def rmd (d : Nat) : Room := { frames := d, cells := 0, slots := 0, locals := 34 * d }
/-- the one link to a nest mate's private method: World asks OnlyInFog.isCell -/
def NW (U : State) : Prop := va_Nw (.methodLinkNest RX4 64 yX5_isCell RX5) U
def Fx (own : String) (cc : ByteArray) (nL d : Nat) (sc : SC) (κ : KP) (p : Program) (R : Room) (s : State) (m : MethodId) (args : Array Value) (c : Code) (cells slots : Nat) (A : Nat → Prop) : Prop :=
  p.tables.exec = Jvm.exec ∧ c.code = cc ∧ c.maxLocals = nL ∧ s.vm.findClass own = some m.cls ∧ (∀ w ∈ lw_g, w.before args s = true) ∧ d ≤ R.frames ∧ 34 * d ≤ R.locals ∧ cells ≤ R.cells ∧ slots ≤ R.slots ∧ va_K κ.2.2 kcl (tys κ) s ∧ (∀ q, s.heap.size ≤ q → A q) ∧ (∀ L xs, sc = some (L, xs) → va_X (κ.1 158) L xs s s.heap ∧ κ.1 158 < s.heap.size ∧ ¬ A (κ.1 158)) ∧ NW s
def Pic (κ : KP) (s : State) (A : Nat → Prop) (M : Mem) (H : Heap) (locs : List Loc) : Prop := va_P κ.2.2 kcl (cw κ M) H ∧ va_D A (cw κ M) ∧ va_S A s.heap H locs
def Hr (cc : ByteArray) (rk : Nat) (res : Int × Mem) (κ : KP) (p : Program) (l : Launch) (e : Env) (R : Room) (s : State) (m : MethodId) (args : Array Value) (below : List Frame) (meth : Method) (c : Code) (cells slots : Nat) (A : Nat → Prop) (Fin : State → Prop) : Prop :=
  ∀ H locs ls pc, Pic κ s A res.2 H locs → ((rk = 0 ∨ (rk = 1 ∧ (res.1 = 0 ∨ res.1 = 1))) → decode cc pc = .ok (.ireturn, 1) → W p l e R s m args below meth c H locs cells slots Fin (F0 m pc ls [.int (Int32.ofInt res.1)])) ∧ (rk = 2 → decode cc pc = .ok (.lreturn, 1) → W p l e R s m args below meth c H locs cells slots Fin (F0 m pc ls [.long (Int64.ofInt res.1)])) ∧ (rk = 3 → decode cc pc = .ok (.return_, 1) → W p l e R s m args below meth c H locs cells slots Fin (F0 m pc ls []))
/-- THE LIGHT JUDGEMENT: the machine at pc with locals L, stack st, memory M ends with the answer that o tells -/
def Y (own : String) (cc : ByteArray) (nL d rk : Nat) (sc : SC) (pc : Nat) (L : List (Option AV)) (st : List AV) (M : Mem) (o : Rs) : Prop :=
  ∀ (res : Int × Mem), o = some res → ∀ (κ : KP) (p : Program) (l : Launch) (e : Env) (R : Room) (s : State) (m : MethodId) (args : Array Value) (below : List Frame) (meth : Method) (c : Code) (cells slots : Nat) (A : Nat → Prop) (Fin : State → Prop),
    Fx own cc nL d sc κ p R s m args c cells slots A → Hr cc rk res κ p l e R s m args below meth c cells slots A Fin →
    ∀ (H : Heap) (locs : List Loc) (ls : Array Slot), Pic κ s A M H locs → agr κ ls nL L → W p l e R s m args below meth c H locs cells slots Fin (F0 m pc ls (st.map (cv κ)))
