/-! what a coast is, seen from both sides; what its hours are -/
abbrev US : Type := Nat → Nat → Int
def uset (u : US) (k i : Nat) (v : Int) : US := fun a b => if a = k ∧ b = i then v else u a b
theorem uset_same (u : US) (k i : Nat) (v : Int) : uset u k i v k i = v := by
  show (if k = k ∧ i = i then v else _) = v
  rw [if_pos ⟨rfl, rfl⟩]
theorem uset_nk (u : US) {k i a b : Nat} (v : Int) (h : a ≠ k) : uset u k i v a b = u a b := by
  show (if a = k ∧ b = i then v else _) = _
  rw [if_neg (fun z => h z.1)]
theorem uset_ni (u : US) {k i a b : Nat} (v : Int) (h : b ≠ i) : uset u k i v a b = u a b := by
  show (if a = k ∧ b = i then v else _) = _
  rw [if_neg (fun z => h z.2)]
theorem uset_twice (u : US) (k i : Nat) (v v' : Int) : uset (uset u k i v) k i v' = uset u k i v' := by
  funext a b
  show (if a = k ∧ b = i then v' else (if a = k ∧ b = i then v else u a b)) = (if a = k ∧ b = i then v' else u a b)
  by_cases h : a = k ∧ b = i
  · rw [if_pos h, if_pos h]
  · rw [if_neg h, if_neg h, if_neg h]
theorem uset_id (u : US) (k i : Nat) {v : Int} (h : u k i = v) : uset u k i v = u := by
  funext a b
  show (if a = k ∧ b = i then v else u a b) = u a b
  by_cases q : a = k ∧ b = i
  · rw [if_pos q, q.1, q.2, h]
  · rw [if_neg q]
def lnk (k : Nat) : Nat := if k ≤ 3 then 6 else if k ≤ 6 then 8 else if k ≤ 10 then 5 else 0
/-- the reference's row tells nobody by -9 -/
def ow (w : Nat) (x : Int) : Int := if w = 137 then (if x = -9 then -1 else if x = -1 then -5 else x) else x
def vs (M : Mem) (w i : Nat) : Int :=
  if i = 3 ∨ i = 7 ∨ i = 12 ∨ i = 13 ∨ i = 14 then rd M w i
  else if i = 20 then (if w = 22 then rd M 129 3 else if w = 137 then ow 137 (rd M 137 20) else -1)
  else if i = 21 then (if w = 22 then rd M 129 4 else if w = 137 then rd M 137 21 else 0)
  else 0
def vw (M : Mem) (w : Nat) : US := fun k i =>
  if k = 0 then vs M w i
  else if k = 6 then (if i < 8 then ow w (rd M (w + 6) i) else 0)
  else if i < lnk k then rd M (w + k) i else 0
def lo (k i : Nat) : Int := if k = 6 then -1 else if k = 0 then (if i = 20 then -1 else 0) else 0
def hi (H : Int) (k i : Nat) : Int :=
  if k = 0 then (if i = 3 then 6 else if i = 7 then 8 else if i = 12 then 5 else if i = 13 then H else if i = 14 then 9 else if i = 20 then 23 else if i = 21 then 1 else 0)
  else if k = 1 then 6 else if k = 2 then 9 else if k = 3 then 9 else if k = 4 then 9 else if k = 5 then 23 else if k = 6 then 4 else if k = 7 then 7 else if k = 8 then 9 else if k = 9 then 23 else if k = 10 then 23 else 0
def WF (H : Int) (u : US) : Prop := ∀ k i, lo k i ≤ u k i ∧ u k i ≤ hi H k i
theorem WF_set {H : Int} {u : US} (h : WF H u) (k i : Nat) {v : Int} (h1 : lo k i ≤ v) (h2 : v ≤ hi H k i) : WF H (uset u k i v) := by
  intro a b
  show lo a b ≤ (if a = k ∧ b = i then v else u a b) ∧ (if a = k ∧ b = i then v else u a b) ≤ hi H a b
  by_cases q : a = k ∧ b = i
  · rw [if_pos q, q.1, q.2]; exact ⟨h1, h2⟩
  · rw [if_neg q]; exact h a b
theorem WF_hour {H H' : Int} {u : US} (h : WF H u) (e : u 0 13 ≤ H') : WF H' u := by
  intro a b
  have := h a b
  refine ⟨this.1, ?_⟩
  unfold hi at this ⊢
  by_cases q : a = 0
  · rw [if_pos q] at this ⊢
    by_cases p : b = 13
    · subst q p; simpa using e
    · simp [p] at this ⊢; exact this.2
  · rw [if_neg q] at this ⊢; exact this.2
theorem WF_le {H H' : Int} {u : US} (h : WF H u) (e : H ≤ H') : WF H' u := WF_hour h (Int.le_trans (h 0 13).2 e)
theorem wF {H : Int} {u : US} (h : WF H u) : (0 ≤ u 0 3 ∧ u 0 3 ≤ 6) ∧ (0 ≤ u 0 7 ∧ u 0 7 ≤ 8) ∧ (0 ≤ u 0 12 ∧ u 0 12 ≤ 5) ∧ (0 ≤ u 0 13 ∧ u 0 13 ≤ H) ∧ (0 ≤ u 0 14 ∧ u 0 14 ≤ 9) ∧ (-1 ≤ u 0 20 ∧ u 0 20 ≤ 23) ∧ (0 ≤ u 0 21 ∧ u 0 21 ≤ 1) := ⟨h 0 3, h 0 7, h 0 12, h 0 13, h 0 14, h 0 20, h 0 21⟩
theorem wFf {H : Int} {u : US} (h : WF H u) (i : Nat) : (0 ≤ u 1 i ∧ u 1 i ≤ 6) ∧ (0 ≤ u 2 i ∧ u 2 i ≤ 9) ∧ (0 ≤ u 3 i ∧ u 3 i ≤ 9) := ⟨h 1 i, h 2 i, h 3 i⟩
theorem wFt {H : Int} {u : US} (h : WF H u) (i : Nat) : (0 ≤ u 4 i ∧ u 4 i ≤ 9) ∧ (0 ≤ u 5 i ∧ u 5 i ≤ 23) ∧ (-1 ≤ u 6 i ∧ u 6 i ≤ 4) := ⟨h 4 i, h 5 i, h 6 i⟩
theorem wFp {H : Int} {u : US} (h : WF H u) (i : Nat) : (0 ≤ u 7 i ∧ u 7 i ≤ 7) ∧ (0 ≤ u 8 i ∧ u 8 i ≤ 9) ∧ (0 ≤ u 9 i ∧ u 9 i ≤ 23) ∧ (0 ≤ u 10 i ∧ u 10 i ≤ 23) := ⟨h 7 i, h 8 i, h 9 i, h 10 i⟩

theorem vw_s {M : Mem} {w i : Nat} (h : i = 3 ∨ i = 7 ∨ i = 12 ∨ i = 13 ∨ i = 14) : vw M w 0 i = rd M w i := by
  show vs M w i = _
  unfold vs
  rw [if_pos h]
theorem vw_a {M : Mem} {w k i : Nat} (h0 : k ≠ 0) (h6 : k ≠ 6) (h : i < lnk k) : vw M w k i = rd M (w + k) i := by
  unfold vw
  rw [if_neg h0, if_neg h6, if_pos h]
theorem vw_o {M : Mem} {w i : Nat} (h : i < 8) : vw M w 6 i = ow w (rd M (w + 6) i) := by
  show (if i < 8 then ow w (rd M (w + 6) i) else 0) = _
  rw [if_pos h]
theorem ow_n {w : Nat} (h : w ≠ 137) (x : Int) : ow w x = x := by
  unfold ow; rw [if_neg h]
theorem rd_up (M : Mem) (q i a b : Nat) {v : Int} (hv : I32 v) : rd (mup M q i v) a b = if a = q ∧ b = i then v else rd M a b := by
  show (if a = q ∧ b = i then Int32.ofInt v else M a b).toInt = _
  by_cases h : a = q ∧ b = i
  · rw [if_pos h, if_pos h, i_toInt hv]
  · rw [if_neg h, if_neg h]; rfl
theorem rd_upne (M : Mem) (q i a b : Nat) (v : Int) (h : a ≠ q ∨ b ≠ i) : rd (mup M q i v) a b = rd M a b := by
  show (if a = q ∧ b = i then Int32.ofInt v else M a b).toInt = _
  rw [if_neg (fun z => h.elim (fun q => q z.1) (fun q => q z.2))]; rfl
theorem rd_of {M M' : Mem} {q i : Nat} (h : M' q i = M q i) : rd M' q i = rd M q i := congrArg Int32.toInt h
theorem vw_congr {M M' : Mem} {w : Nat} (hs : ∀ i, i = 3 ∨ i = 7 ∨ i = 12 ∨ i = 13 ∨ i = 14 → M' w i = M w i) (ha : ∀ k i, 1 ≤ k → k ≤ 10 → M' (w + k) i = M (w + k) i)
    (hm : w = 22 → M' 129 3 = M 129 3 ∧ M' 129 4 = M 129 4) (hr : w = 137 → M' 137 20 = M 137 20 ∧ M' 137 21 = M 137 21) : vw M' w = vw M w := by
  funext k i
  unfold vw
  by_cases k0 : k = 0
  · rw [if_pos k0, if_pos k0]
    unfold vs
    by_cases c : i = 3 ∨ i = 7 ∨ i = 12 ∨ i = 13 ∨ i = 14
    · rw [if_pos c, if_pos c]; exact rd_of (hs i c)
    · rw [if_neg c, if_neg c]
      by_cases w2 : w = 22
      · subst w2
        have e1 := rd_of (hm rfl).1
        have e2 := rd_of (hm rfl).2
        simp [e1, e2]
      · by_cases w3 : w = 137
        · subst w3
          have e1 := rd_of (hr rfl).1
          have e2 := rd_of (hr rfl).2
          simp [e1, e2]
        · simp only [if_neg w2, if_neg w3]
  · rw [if_neg k0, if_neg k0]
    by_cases k6 : k = 6
    · rw [if_pos k6, if_pos k6, rd_of (ha 6 i (by omega) (by omega))]
    · rw [if_neg k6, if_neg k6]
      by_cases c : i < lnk k
      · rw [if_pos c, if_pos c]
        refine rd_of (ha k i (by omega) ?_)
        unfold lnk at c
        by_cases k3 : k ≤ 3
        · omega
        · rw [if_neg k3] at c
          by_cases k6 : k ≤ 6
          · omega
          · rw [if_neg k6] at c
            by_cases k10 : k ≤ 10
            · omega
            · rw [if_neg k10] at c; omega
      · rw [if_neg c, if_neg c]
/-- a write to a row's cell -/
theorem vw_set {M : Mem} {w k i : Nat} {v : Int} (hv : I32 v) (h1 : 1 ≤ k) (h2 : k ≤ 10) (hw : w ≠ 119 ∧ (w = 22 ∨ w = 137 ∨ w < 118)) (hi : i < lnk k) : vw (mup M (w + k) i v) w = uset (vw M w) k i (if k = 6 then ow w v else v) := by
  funext a b
  show _ = (if a = k ∧ b = i then _ else _)
  by_cases h : a = k ∧ b = i
  · rw [if_pos h, h.1, h.2]
    by_cases k6 : k = 6
    · subst k6
      rw [if_pos rfl, vw_o hi, rd_up _ _ _ _ _ hv, if_pos ⟨rfl, rfl⟩]
    · rw [if_neg k6, vw_a (by omega) k6 hi, rd_up _ _ _ _ _ hv, if_pos ⟨rfl, rfl⟩]
  · rw [if_neg h]
    unfold vw
    by_cases a0 : a = 0
    · rw [if_pos a0, if_pos a0]
      unfold vs
      rw [rd_upne _ _ _ _ _ _ (by omega)]
      by_cases w2 : w = 22
      · subst w2
        rw [rd_upne _ _ _ 129 _ _ (by omega), rd_upne _ _ _ 129 _ _ (by omega)]
        simp
      · by_cases w3 : w = 137
        · subst w3
          rw [rd_upne _ _ _ 137 20 _ (by omega), rd_upne _ _ _ 137 21 _ (by omega)]
          simp
        · simp only [if_neg w2, if_neg w3]
    · rw [if_neg a0, if_neg a0]
      by_cases a6 : a = 6
      · rw [if_pos a6, if_pos a6, rd_upne _ _ _ _ _ _ (by omega)]
      · rw [if_neg a6, if_neg a6, rd_upne _ _ _ _ _ _ (by omega)]
/-- a write to a number -/
theorem vw_sets {M : Mem} {w i : Nat} {v : Int} (hv : I32 v) (hw : w = 22 ∨ w = 137 ∨ w < 118) (hi : i = 3 ∨ i = 7 ∨ i = 12 ∨ i = 13 ∨ i = 14) : vw (mup M w i v) w = uset (vw M w) 0 i v := by
  funext a b
  show _ = (if a = 0 ∧ b = i then _ else _)
  by_cases h : a = 0 ∧ b = i
  · rw [if_pos h, h.1, h.2, vw_s hi, rd_up _ _ _ _ _ hv, if_pos ⟨rfl, rfl⟩]
  · rw [if_neg h]
    unfold vw
    by_cases a0 : a = 0
    · rw [if_pos a0, if_pos a0]
      unfold vs
      rw [rd_upne _ _ _ _ _ _ (by omega)]
      by_cases w2 : w = 22
      · subst w2
        rw [rd_upne _ _ _ 129 _ _ (by omega), rd_upne _ _ _ 129 _ _ (by omega)]
        simp
      · by_cases w3 : w = 137
        · subst w3
          rw [rd_upne _ _ _ 137 20 _ (by omega), rd_upne _ _ _ 137 21 _ (by omega)]
          simp
        · simp only [if_neg w2, if_neg w3]
    · rw [if_neg a0, if_neg a0]
      by_cases a6 : a = 6
      · rw [if_pos a6, if_pos a6, rd_upne _ _ _ _ _ _ (by omega)]
      · rw [if_neg a6, if_neg a6, rd_upne _ _ _ _ _ _ (by omega)]

/-! steps -/
def Ok (m : Rs) (P : Int → Mem → Prop) : Prop := ∃ r M', m = some (r, M') ∧ P r M'
theorem Ok_ret {r : Int} {M : Mem} {P : Int → Mem → Prop} (h : P r M) : Ok (some (r, M)) P := ⟨r, M, rfl, h⟩
theorem Ok_eq {m : Rs} {v : Int} {M : Mem} (h : Ok m (fun r M' => r = v ∧ M' = M)) : m = some (v, M) := by
  obtain ⟨r, M', e, e1, e2⟩ := h
  rw [e, e1, e2]
theorem Ok_of {m : Rs} {v : Int} {M : Mem} {P : Int → Mem → Prop} (e : m = some (v, M)) (h : P v M) : Ok m P := ⟨v, M, e, h⟩
theorem Ok_mono {m : Rs} {P Q : Int → Mem → Prop} (h : Ok m P) (k : ∀ r M, P r M → Q r M) : Ok m Q := by
  obtain ⟨r, M', e, e1⟩ := h
  exact ⟨r, M', e, k _ _ e1⟩
theorem Ok_bd {m : Rs} {k : Int → Mem → Rs} {P Q : Int → Mem → Prop} (h : Ok m Q) (g : ∀ r M, Q r M → Ok (k r M) P) : Ok (bd m k) P := by
  obtain ⟨r, M', e, e1⟩ := h
  rw [e]
  exact g r M' e1
theorem Ok_be {m : Rs} {k : Int → Mem → Rs} {P : Int → Mem → Prop} {r : Int} {M : Mem} (h : m = some (r, M)) (g : Ok (k r M) P) : Ok (bd m k) P := by
  rw [h]
  exact g
theorem Ok_g {c : Prop} {d : Decidable c} {m : Rs} {P : Int → Mem → Prop} (h : c) (g : Ok m P) : Ok (if c then m else none) P := by
  rw [if_pos h]; exact g
theorem Ok_t {c : Prop} {d : Decidable c} {m m' : Rs} {P : Int → Mem → Prop} (h : c) (g : Ok m P) : Ok (if c then m else m') P := by
  rw [if_pos h]; exact g
theorem Ok_f {c : Prop} {d : Decidable c} {m m' : Rs} {P : Int → Mem → Prop} (h : ¬ c) (g : Ok m' P) : Ok (if c then m else m') P := by
  rw [if_neg h]; exact g
theorem Ok_if {c : Prop} {d : Decidable c} {m m' : Rs} {P : Int → Mem → Prop} (g : c → Ok m P) (g' : ¬ c → Ok m' P) : Ok (if c then m else m') P := by
  by_cases h : c
  · rw [if_pos h]; exact g h
  · rw [if_neg h]; exact g' h
theorem Ok_wr {M : Mem} {q i : Nat} {v : Int} {k : Mem → Rs} {P : Int → Mem → Prop} (g : Ok (k (mup M q i v)) P) : Ok (wr M q i v k) P := g
theorem Ok_cpw {M : Mem} {q0 sp q1 dp n : Nat} {k : Mem → Rs} {P : Int → Mem → Prop} (g : Ok (k (mcp M q0 sp q1 dp n)) P) : Ok (cpw M q0 sp q1 dp n k) P := g
theorem Ok_lt {v : Int} {k : Int → Rs} {P : Int → Mem → Prop} (g : Ok (k v) P) : Ok (lt v k) P := g
/-- loops -/
def frm {α : Type} (st : Nat → α → α) : Nat → Nat → α → α
  | 0, _, a => a
  | k + 1, i, a => frm st k (i + 1) (st i a)
theorem frm_i {α : Type} (st : Nat → α → α) (Q : Nat → α → Prop) (h : ∀ i a, Q i a → Q (i + 1) (st i a)) : ∀ k i a, Q i a → Q (i + k) (frm st k i a)
  | 0, i, a, q => q
  | k + 1, i, a, q => by
    have := frm_i st Q h k (i + 1) (st i a) (h i a q)
    rw [show i + (k + 1) = i + 1 + k by omega]
    exact this
theorem frm_c {α : Type} (st st' : Nat → α → α) (Q : Nat → α → Prop) (N : Nat) (h : ∀ i a, i < N → Q i a → st i a = st' i a ∧ Q (i + 1) (st i a)) : ∀ k i a, i + k ≤ N → Q i a → frm st k i a = frm st' k i a
  | 0, i, a, _, q => rfl
  | k + 1, i, a, hn, q => by
    have h1 := h i a (by omega) q
    show frm st k (i + 1) (st i a) = frm st' k (i + 1) (st' i a)
    rw [frm_c st st' Q N h k (i + 1) (st i a) (by omega) h1.2, h1.1]
theorem frm_snoc {α : Type} (st : Nat → α → α) : ∀ k i a, frm st (k + 1) i a = st (i + k) (frm st k i a)
  | 0, i, a => rfl
  | k + 1, i, a => by
    have := frm_snoc st k (i + 1) (st i a)
    rw [show i + (k + 1) = i + 1 + k by omega]
    exact this
theorem td {a b : Int} (h : 0 ≤ a) : a.tdiv b = a / b := Int.tdiv_eq_ediv_of_nonneg h
theorem tm {a b : Int} (h : 0 ≤ a) : a.tmod b = a % b := Int.tmod_eq_emod_of_nonneg h

/-! the coast's own words -/
def mx (a b : Int) : Int := if b < a then a else b
def ab (a : Int) : Int := if 0 ≤ a then a else -a
def trC (s c : Int) : Int := if s = 5 then c / 6 * 6 + 5 - c % 6 else c
def trH (s b h : Int) : Int := if s = 6 then (if b < h then h - b else 0) else h
def acS (u : US) (F : Nat) (c : Int) : Nat → Int
  | 0 => c
  | j + 1 => trC (u 1 (F - 1 - j)) (acS u F c j)
def ahS (u : US) (F : Nat) (h : Int) : Nat → Int
  | 0 => h
  | j + 1 => trH (u 1 (F - 1 - j)) (u 3 (F - 1 - j)) (ahS u F h j)
def byS (s a b c h v : Int) : Int :=
  if s = 0 then (if c % 6 ≤ h % (b + 2) then mx v a else v)
  else if s = 1 then (if c / 6 = b % 4 then mx v a else v)
  else if s = 2 then (if h % (b + 1) = 0 then mx v a else v)
  else if s = 3 then mx v (a - ab (c % 6 - h % 6))
  else if s = 4 then mx 0 (v - a)
  else v
def airS (u : US) (c h : Int) : Int :=
  frm (fun f v => byS (u 1 f) (u 2 f) (u 3 f) (acS u (u 0 3).toNat c ((u 0 3).toNat - 1 - f)) (ahS u (u 0 3).toNat h ((u 0 3).toNat - 1 - f)) v) (u 0 3).toNat 0 0
def steamS (k f : Int) : Int := if k = 3 then 5 else if k = 4 then f / 2 + 5 else if k = 6 then 3 else 0
def paceS (k f : Int) : Int := if k = 1 then 2 else if k = 2 then 2 else if k = 3 then 0 else if k = 4 then 2 else if k = 5 then f / 3 + 1 else if k = 6 then f / 3 else if k = 7 then 3 else 1
def grabsS (k f : Int) : Int := if k = 1 then f / 2 + 1 else if k = 2 then f / 2 + 2 else if k = 3 then 1 else if k = 4 then 3 else if k = 5 then f else if k = 6 then 0 else if k = 7 then f / 2 + 2 else 1
def airOS (u : US) (c h : Int) : Int := if u 0 21 = 0 then airS u c h else 0
def fogS (u : US) (c : Int) : Int :=
  frm (fun p v => if u 10 p = c then mx v (steamS (u 7 p) (u 8 p)) else v) (u 0 12).toNat 0 (if u 0 20 = c then 9 else airOS u c (u 0 13))
def cellsS (u : US) : Int := frm (fun c s => if u 0 14 ≤ fogS u c then bOr s (bShl 1 c) else s) 24 0 0
def farS (a b : Int) : Int := ab (a / 6 - b / 6) + ab (a % 6 - b % 6)
def nearS (u : US) (p : Nat) : Int :=
  frm (fun t best => if u 6 t < 0 ∧ (best < 0 ∨ farS (u 5 t) (u 10 p) < farS (u 5 best.toNat) (u 10 p)) then (t : Int) else best) (u 0 7).toNat 0 (-1)
def richS (u : US) (p : Nat) : Int :=
  frm (fun t best => if u 6 t ≠ (p : Int) ∧ (best < 0 ∨ u 4 best.toNat < u 4 t) then (t : Int) else best) (u 0 7).toNat 0 (-1)
def airyS (u : US) (h : Int) : Int := frm (fun c best => if airOS u best h < airOS u (c + 1 : Nat) h then ((c + 1 : Nat) : Int) else best) 23 0 0
def childS (u : US) (p : Nat) : Int := if nearS u p < 0 then u 9 p else u 5 (nearS u p).toNat
def thiefS (u : US) (p : Nat) : Int := if richS u p < 0 then childS u p else u 5 (richS u p).toNat
def goalS (u : US) (p : Nat) (h : Int) : Int :=
  if u 7 p = 1 then childS u p else if u 7 p = 2 then thiefS u p else if u 7 p = 5 then airyS u h else if u 7 p = 6 then airyS u h
  else if u 7 p = 7 then (if h % 2 = 0 then thiefS u p else u 9 p) else u 9 p
def stepS (c to : Int) : Int := if c / 6 = to / 6 then (if c = to then c else if c < to then c + 1 else c - 1) else (if c / 6 < to / 6 then c + 6 else c - 6)
def walkS (to : Int) : Nat → Int → Int
  | 0, c => c
  | k + 1, c => walkS to k (stepS c to)
abbrev mayS (u : US) (p t : Nat) : Prop := u 5 t = u 10 p ∧ u 6 t ≠ (p : Int) ∧ (u 6 t < 0 ∨ (u 7 p = 2 ∧ u 4 t < u 8 p) ∨ (u 7 p = 7 ∧ u 4 t ≤ u 8 p))
def grabS (p : Nat) : Nat → Nat → Int → US → US
  | 0, _, _, u => u
  | k + 1, t, left, u => if left ≤ 0 then u else if mayS u p t then grabS p k (t + 1) (left - 1) (uset u 6 t p) else grabS p k (t + 1) left u
def dropS (u : US) : US := frm (fun t u => if u 0 14 ≤ fogS u (u 5 t) then u else uset u 6 t (-1)) (u 0 7).toNat 0 u
def personS (p : Nat) (u : US) : US :=
  let u1 := uset u 10 p (walkS (goalS u p (u 0 13)) (paceS (u 7 p) (u 8 p)).toNat (u 10 p))
  if u1 0 14 ≤ fogS u1 (u1 10 p) then grabS p (u1 0 7).toNat 0 (grabsS (u1 7 p) (u1 8 p)) u1 else u1
def hourS (u : US) : US := frm (fun p u => personS p u) (u 0 12).toNat 0 (dropS (uset u 0 13 (u 0 13 + 1)))
def hoursS (n : Nat) (u : US) : US := frm (fun _ u => hourS u) n 0 u

/-! their bounds -/
theorem em_rng {a b : Int} (h : 0 < b) : 0 ≤ a % b ∧ a % b < b := ⟨Int.emod_nonneg a (by omega), Int.emod_lt_of_pos a h⟩
theorem acS_b (u : US) (F : Nat) {c : Int} (h : 0 ≤ c ∧ c ≤ 23) : ∀ j, 0 ≤ acS u F c j ∧ acS u F c j ≤ 23
  | 0 => h
  | j + 1 => by
    have := acS_b u F h j
    show 0 ≤ trC _ _ ∧ trC _ _ ≤ 23
    unfold trC
    omega
theorem ahS_b {H : Int} {u : US} (wf : WF H u) (F : Nat) {h : Int} (h0 : 0 ≤ h) : ∀ j, 0 ≤ ahS u F h j ∧ ahS u F h j ≤ h
  | 0 => ⟨h0, Int.le_refl _⟩
  | j + 1 => by
    have := ahS_b wf F h0 j
    have b := wFf wf (F - 1 - j)
    show 0 ≤ trH _ _ _ ∧ trH _ _ _ ≤ h
    unfold trH
    omega
theorem byS_b {s a b c h v : Int} (ha : 0 ≤ a ∧ a ≤ 9) (hv : 0 ≤ v ∧ v ≤ 9) : 0 ≤ byS s a b c h v ∧ byS s a b c h v ≤ 9 := by
  unfold byS mx ab
  omega
theorem airS_b {H : Int} {u : US} (wf : WF H u) (c h : Int) : 0 ≤ airS u c h ∧ airS u c h ≤ 9 := by
  unfold airS
  exact frm_i _ (fun _ v => 0 ≤ v ∧ v ≤ 9) (fun i a q => byS_b (wFf wf i).2.1 q) _ 0 0 (by omega)
theorem acS_c {u u' : US} {F : Nat} (c : Int) (e1 : ∀ i, i < F → u 1 i = u' 1 i) : ∀ j, j ≤ F → acS u F c j = acS u' F c j
  | 0, _ => rfl
  | j + 1, h => by
    show trC _ _ = trC _ _
    rw [acS_c c e1 j (by omega), e1 _ (by omega)]
theorem ahS_c {u u' : US} {F : Nat} (h : Int) (e1 : ∀ i, i < F → u 1 i = u' 1 i) (e3 : ∀ i, i < F → u 3 i = u' 3 i) : ∀ j, j ≤ F → ahS u F h j = ahS u' F h j
  | 0, _ => rfl
  | j + 1, q => by
    show trH _ _ _ = trH _ _ _
    rw [ahS_c h e1 e3 j (by omega), e1 _ (by omega), e3 _ (by omega)]
theorem airS_c {u u' : US} (c h : Int) (e : u 0 3 = u' 0 3) (e1 : ∀ i : Nat, (i : Int) < u 0 3 → u 1 i = u' 1 i) (e2 : ∀ i : Nat, (i : Int) < u 0 3 → u 2 i = u' 2 i) (e3 : ∀ i : Nat, (i : Int) < u 0 3 → u 3 i = u' 3 i) : airS u c h = airS u' c h := by
  unfold airS
  rw [← e]
  refine frm_c _ _ (fun _ _ => True) (u 0 3).toNat ?_ _ 0 0 (by omega) trivial
  intro i a hi _
  refine ⟨?_, trivial⟩
  have g1 : ∀ i, i < (u 0 3).toNat → u 1 i = u' 1 i := fun i q => e1 i (by omega)
  have g3 : ∀ i, i < (u 0 3).toNat → u 3 i = u' 3 i := fun i q => e3 i (by omega)
  show byS _ _ _ _ _ _ = byS _ _ _ _ _ _
  rw [acS_c c g1 _ (by omega), ahS_c h g1 g3 _ (by omega), e1 i (by omega), e2 i (by omega), e3 i (by omega)]
theorem airOS_b {H : Int} {u : US} (wf : WF H u) (c h : Int) : 0 ≤ airOS u c h ∧ airOS u c h ≤ 9 := by
  unfold airOS
  have := airS_b wf c h
  omega
theorem steamS_b {k f : Int} (h : 0 ≤ f ∧ f ≤ 9) : 0 ≤ steamS k f ∧ steamS k f ≤ 9 := by
  unfold steamS
  omega
theorem paceS_b {k f : Int} (h : 0 ≤ f ∧ f ≤ 9) : 0 ≤ paceS k f ∧ paceS k f ≤ 4 := by
  unfold paceS
  omega
theorem grabsS_b {k f : Int} (h : 0 ≤ f ∧ f ≤ 9) : 0 ≤ grabsS k f ∧ grabsS k f ≤ 9 := by
  unfold grabsS
  omega
theorem mx_b {a b : Int} (h1 : 0 ≤ a ∧ a ≤ 9) (h2 : 0 ≤ b ∧ b ≤ 9) : 0 ≤ mx a b ∧ mx a b ≤ 9 := by
  unfold mx
  omega
theorem fogst_b {H : Int} {u : US} (wf : WF H u) {c : Int} (k i : Nat) {v : Int} (hv : 0 ≤ v ∧ v ≤ 9) : 0 ≤ frm (fun p v => if u 10 p = c then mx v (steamS (u 7 p) (u 8 p)) else v) k i v ∧ frm (fun p v => if u 10 p = c then mx v (steamS (u 7 p) (u 8 p)) else v) k i v ≤ 9 := by
  refine frm_i _ (fun _ v => 0 ≤ v ∧ v ≤ 9) ?_ k i v hv
  intro i a q
  by_cases h : u 10 i = c
  · simp only [if_pos h]; exact mx_b q (steamS_b (wFp wf i).2.1)
  · simp only [if_neg h]; exact q
theorem fogS_b {H : Int} {u : US} (wf : WF H u) (c : Int) : 0 ≤ fogS u c ∧ fogS u c ≤ 9 := by
  unfold fogS
  refine fogst_b wf _ 0 ?_
  have := airOS_b wf c (u 0 13)
  omega
theorem nearS_b (u : US) (p : Nat) : -1 ≤ nearS u p ∧ nearS u p < (u 0 7).toNat ∨ nearS u p = -1 := by
  have := frm_i (fun t best => if u 6 t < 0 ∧ (best < 0 ∨ farS (u 5 t) (u 10 p) < farS (u 5 best.toNat) (u 10 p)) then (t : Int) else best) (fun i b => -1 ≤ b ∧ (b < i ∨ b = -1)) (by
    intro i a q
    split <;> omega) (u 0 7).toNat 0 (-1) (by omega)
  unfold nearS
  omega
theorem richS_b (u : US) (p : Nat) : -1 ≤ richS u p ∧ richS u p < (u 0 7).toNat ∨ richS u p = -1 := by
  have := frm_i (fun t best => if u 6 t ≠ (p : Int) ∧ (best < 0 ∨ u 4 best.toNat < u 4 t) then (t : Int) else best) (fun i b => -1 ≤ b ∧ (b < i ∨ b = -1)) (by
    intro i a q
    split <;> omega) (u 0 7).toNat 0 (-1) (by omega)
  unfold richS
  omega
theorem airyS_b (u : US) (h : Int) : 0 ≤ airyS u h ∧ airyS u h ≤ 23 := by
  have := frm_i (fun c best => if airOS u best h < airOS u (c + 1 : Nat) h then ((c + 1 : Nat) : Int) else best) (fun i b => 0 ≤ b ∧ b ≤ i) (by
    intro i a q
    split <;> omega) 23 0 0 (by omega)
  unfold airyS
  omega
theorem childS_b {H : Int} {u : US} (wf : WF H u) (p : Nat) : 0 ≤ childS u p ∧ childS u p ≤ 23 := by
  unfold childS
  have := (wFp wf p).2.2.1
  have := (wFt wf (nearS u p).toNat).2.1
  omega
theorem thiefS_b {H : Int} {u : US} (wf : WF H u) (p : Nat) : 0 ≤ thiefS u p ∧ thiefS u p ≤ 23 := by
  unfold thiefS
  have := childS_b wf p
  have := (wFt wf (richS u p).toNat).2.1
  omega
theorem goalS_b {H : Int} {u : US} (wf : WF H u) (p : Nat) (h : Int) : 0 ≤ goalS u p h ∧ goalS u p h ≤ 23 := by
  unfold goalS
  have := childS_b wf p
  have := thiefS_b wf p
  have := airyS_b u h
  have := (wFp wf p).2.2.1
  omega
theorem stepS_b {c to : Int} (hc : 0 ≤ c ∧ c ≤ 23) (ht : 0 ≤ to ∧ to ≤ 23) : 0 ≤ stepS c to ∧ stepS c to ≤ 23 := by
  unfold stepS
  omega
theorem walkS_b {to : Int} (ht : 0 ≤ to ∧ to ≤ 23) : ∀ k c, 0 ≤ c ∧ c ≤ 23 → 0 ≤ walkS to k c ∧ walkS to k c ≤ 23
  | 0, _, h => h
  | k + 1, c, h => walkS_b ht k _ (stepS_b h ht)
theorem walkS_fix (c : Int) : ∀ k, walkS c k c = c
  | 0 => rfl
  | k + 1 => by
    show walkS c k (stepS c c) = c
    rw [show stepS c c = c by unfold stepS; rw [if_pos rfl, if_pos rfl]]
    exact walkS_fix c k
theorem grabS_wf {H : Int} {p : Nat} (hp : p ≤ 4) : ∀ k t l u, WF H u → WF H (grabS p k t l u)
  | 0, _, _, _, wf => wf
  | k + 1, t, l, u, wf => by
    show WF H (if _ then _ else if _ then _ else _)
    by_cases h : l ≤ 0
    · rw [if_pos h]; exact wf
    · rw [if_neg h]
      by_cases h2 : mayS u p t
      · rw [if_pos h2]; exact grabS_wf hp k _ _ _ (WF_set wf 6 t (by show (-1 : Int) ≤ p; omega) (by show (p : Int) ≤ 4; omega))
      · rw [if_neg h2]; exact grabS_wf hp k _ _ _ wf
theorem grabS_o {p : Nat} : ∀ k t l u a b, a ≠ 6 → grabS p k t l u a b = u a b
  | 0, _, _, _, _, _, _ => rfl
  | k + 1, t, l, u, a, b, h => by
    show (if _ then _ else if _ then _ else _ : US) a b = _
    by_cases h1 : l ≤ 0
    · rw [if_pos h1]
    · rw [if_neg h1]
      by_cases h2 : mayS u p t
      · rw [if_pos h2, grabS_o k _ _ _ a b h, uset_nk _ _ h]
      · rw [if_neg h2, grabS_o k _ _ _ a b h]
theorem dropst_wf {H : Int} : ∀ k i u, WF H u → WF H (frm (fun t u => if u 0 14 ≤ fogS u (u 5 t) then u else uset u 6 t (-1)) k i u) := by
  intro k i u wf
  refine frm_i _ (fun _ u => WF H u) ?_ k i u wf
  intro i a q
  show WF H (if _ then _ else _)
  by_cases h : a 0 14 ≤ fogS a (a 5 i)
  · rw [if_pos h]; exact q
  · rw [if_neg h]; exact WF_set q 6 i (Int.le_refl (-1)) (show (-1 : Int) ≤ 4 by decide)
theorem dropst_o : ∀ k i (u : US) a b, a ≠ 6 → frm (fun t u => if u 0 14 ≤ fogS u (u 5 t) then u else uset u 6 t (-1)) k i u a b = u a b := by
  intro k i u a b h
  refine frm_i _ (fun _ (v : US) => v a b = u a b) ?_ k i u rfl
  intro i v q
  show (if _ then _ else _ : US) a b = _
  by_cases h1 : v 0 14 ≤ fogS v (v 5 i)
  · rw [if_pos h1]; exact q
  · rw [if_neg h1, uset_nk _ _ h]; exact q
theorem dropS_wf {H : Int} {u : US} (wf : WF H u) : WF H (dropS u) := dropst_wf _ _ _ wf
theorem dropS_o (u : US) {a b : Nat} (h : a ≠ 6) : dropS u a b = u a b := dropst_o _ _ u a b h
theorem personS_wf {H : Int} {u : US} (wf : WF H u) {p : Nat} (hp : p ≤ 4) : WF H (personS p u) := by
  unfold personS
  have w := walkS_b (goalS_b wf p (u 0 13)) (paceS (u 7 p) (u 8 p)).toNat (u 10 p) (wFp wf p).2.2.2
  have wf1 : WF H (uset u 10 p (walkS (goalS u p (u 0 13)) (paceS (u 7 p) (u 8 p)).toNat (u 10 p))) := WF_set wf 10 p w.1 w.2
  show WF H (if _ then _ else _)
  split
  · exact grabS_wf hp _ _ _ _ wf1
  · exact wf1
theorem personS_o (u : US) (p : Nat) {a b : Nat} (h : a ≠ 6) (h' : a ≠ 10) : personS p u a b = u a b := by
  unfold personS
  show (if _ then _ else _ : US) a b = _
  split
  · rw [grabS_o _ _ _ _ a b h, uset_nk _ _ h']
  · rw [uset_nk _ _ h']
theorem personst_wf {H : Int} : ∀ k i u, i + k ≤ 5 → WF H u → WF H (frm (fun p u => personS p u) k i u)
  | 0, _, _, _, wf => wf
  | k + 1, i, u, h, wf => personst_wf k (i + 1) _ (by omega) (personS_wf wf (by omega))
theorem personst_o : ∀ k i (u : US) {a b : Nat}, a ≠ 6 → a ≠ 10 → frm (fun p u => personS p u) k i u a b = u a b
  | 0, _, _, _, _, _, _ => rfl
  | k + 1, i, u, a, b, h, h' => by
    show (frm (fun p u => personS p u) k (i + 1) (personS i u) : US) a b = _
    rw [personst_o k (i + 1) _ h h', personS_o _ _ h h']
theorem hourS_wf {H : Int} {u : US} (wf : WF H u) : WF (H + 1) (hourS u) := by
  unfold hourS
  have b := wF wf
  refine personst_wf _ 0 _ ?_ (dropS_wf (WF_set (WF_le wf (by omega)) 0 13 (by show (0 : Int) ≤ _; omega) (by show _ ≤ H + 1; omega)))
  omega
theorem hourS_o (u : US) {a b : Nat} (h : a ≠ 6) (h' : a ≠ 10) (hh : ¬ (a = 0 ∧ b = 13)) : hourS u a b = u a b := by
  unfold hourS
  rw [personst_o _ _ _ h h', dropS_o _ h]
  by_cases q : a = 0
  · exact uset_ni _ _ (fun z => hh ⟨q, z⟩)
  · exact uset_nk _ _ q
theorem hourS_h (u : US) : hourS u 0 13 = u 0 13 + 1 := by
  unfold hourS
  rw [personst_o _ _ _ (by decide) (by decide), dropS_o _ (by decide), uset_same]
theorem hoursS_wf {H : Int} : ∀ (n i : Nat) (u : US), WF H u → WF (H + n) (frm (fun _ u => hourS u) n i u) := by
  intro n
  induction n generalizing H with
  | zero => intro i u wf; rw [show H + ((0 : Nat) : Int) = H by omega]; exact wf
  | succ n ih =>
    intro i u wf
    have := ih (i + 1) _ (hourS_wf wf)
    rw [show H + ((n + 1 : Nat) : Int) = H + 1 + n by omega]
    exact this
theorem hoursS_o : ∀ (n i : Nat) (u : US) {a b : Nat}, a ≠ 6 → a ≠ 10 → ¬ (a = 0 ∧ b = 13) → frm (fun _ u => hourS u) n i u a b = u a b
  | 0, _, _, _, _, _, _, _ => rfl
  | n + 1, i, u, a, b, h, h', hh => by
    show (frm (fun _ u => hourS u) n (i + 1) (hourS u) : US) a b = _
    rw [hoursS_o n (i + 1) _ h h' hh, hourS_o _ h h' hh]
theorem hoursS_h : ∀ (n i : Nat) (u : US), frm (fun _ u => hourS u) n i u 0 13 = u 0 13 + n
  | 0, _, u => by show u 0 13 = u 0 13 + 0; omega
  | n + 1, i, u => by
    show (frm (fun _ u => hourS u) n (i + 1) (hourS u) : US) 0 13 = _
    rw [hoursS_h n (i + 1) _, hourS_h]; omega
