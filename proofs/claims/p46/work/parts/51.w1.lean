theorem e_hasT {n : Nat} {M : Mem} {w : Nat} {a : Int} (hw : isW w) (ha : I32 a) : m_X4_hasThing n M w a = some (if 0 ≤ a ∧ a < rd M w 7 then 1 else 0, M) := by
  refine Ok_eq ?_
  unfold m_X4_hasThing
  repeat' (first
      | with_reducible refine Ok_g (by first | assumption | omega) ?_
      | with_reducible refine Ok_lt ?_
      | with_reducible refine Ok_t (by first | assumption | omega) ?_
      | with_reducible refine Ok_f (by first | assumption | omega) ?_
      | with_reducible refine Ok_ret ?_
      | with_reducible refine Ok_if (fun _ => ?_) (fun _ => ?_))
  all_goals exact ⟨by omega, rfl⟩
theorem e_hasP {n : Nat} {M : Mem} {w : Nat} {a : Int} (hw : isW w) (ha : I32 a) : m_X4_hasPerson n M w a = some (if 0 ≤ a ∧ a < rd M w 12 then 1 else 0, M) := by
  refine Ok_eq ?_
  unfold m_X4_hasPerson
  repeat' (first
      | with_reducible refine Ok_g (by first | assumption | omega) ?_
      | with_reducible refine Ok_lt ?_
      | with_reducible refine Ok_t (by first | assumption | omega) ?_
      | with_reducible refine Ok_f (by first | assumption | omega) ?_
      | with_reducible refine Ok_ret ?_
      | with_reducible refine Ok_if (fun _ => ?_) (fun _ => ?_))
  all_goals exact ⟨by omega, rfl⟩
theorem e_isCell {n : Nat} {M : Mem} {a : Int} (ha : I32 a) : m_X5_isCell n M a = some (if 0 ≤ a ∧ a < 24 then 1 else 0, M) := by
  refine Ok_eq ?_
  unfold m_X5_isCell
  repeat' (first
      | with_reducible refine Ok_g (by first | assumption | omega) ?_
      | with_reducible refine Ok_lt ?_
      | with_reducible refine Ok_t (by first | assumption | omega) ?_
      | with_reducible refine Ok_f (by first | assumption | omega) ?_
      | with_reducible refine Ok_ret ?_
      | with_reducible refine Ok_if (fun _ => ?_) (fun _ => ?_))
  all_goals exact ⟨by omega, rfl⟩
theorem e_oor {n : Nat} {M : Mem} {a l h : Int} (ha : I32 a) (hl : I32 l) (hh : I32 h) : m_X5_outOfRange n M a l h = some (if a < l then -4 else if h < a then -6 else 0, M) := by
  refine Ok_eq ?_
  unfold m_X5_outOfRange
  repeat' (first
      | with_reducible refine Ok_g (by first | assumption | omega) ?_
      | with_reducible refine Ok_lt ?_
      | with_reducible refine Ok_t (by first | assumption | omega) ?_
      | with_reducible refine Ok_f (by first | assumption | omega) ?_
      | with_reducible refine Ok_ret ?_
      | with_reducible refine Ok_if (fun _ => ?_) (fun _ => ?_))
  all_goals exact ⟨by omega, rfl⟩
theorem e_orNone {n : Nat} {M : Mem} {a : Int} (ha : I32 a) : m_X5_orNone n M a = some (if a = -1 then -9 else a, M) := by
  refine Ok_eq ?_
  unfold m_X5_orNone
  repeat' (first
      | with_reducible refine Ok_g (by first | assumption | omega) ?_
      | with_reducible refine Ok_lt ?_
      | with_reducible refine Ok_t (by first | assumption | omega) ?_
      | with_reducible refine Ok_f (by first | assumption | omega) ?_
      | with_reducible refine Ok_ret ?_
      | with_reducible refine Ok_if (fun _ => ?_) (fun _ => ?_))
  all_goals exact ⟨by omega, rfl⟩
/-- one refusal more -/
def bump (q : Nat) (M : Mem) (k : Nat) : Mem := mup M q k (rd M q k + 1)
theorem bump_ne {q a : Nat} {M : Mem} {k i : Nat} (h : a ≠ q) : bump q M k a i = M a i := by
  unfold bump
  rw [mup_ne _ h]
theorem e_refuse {n : Nat} {M : Mem} {a : Int} (k : Nat) (h : a = -(k : Int)) (h1 : 1 ≤ k) (h2 : k ≤ 6) : m_X5_refuse n M a = some (-(k : Int), bump 134 M k) := by
  refine Ok_eq ?_
  subst h
  unfold m_X5_refuse
  rw [Int.neg_neg, Int.toNat_natCast]
  repeat (first
      | with_reducible refine Ok_g (by first | assumption | omega) ?_
      | with_reducible refine Ok_lt ?_
      | with_reducible refine Ok_wr ?_
      | with_reducible refine Ok_t (by first | assumption | omega) ?_
      | with_reducible refine Ok_f (by first | assumption | omega) ?_)
  exact Ok_ret ⟨rfl, rfl⟩
/-! sums over things, sets -/
def worthsS (u : US) (p : Int) : Int := frm (fun t v => if u 6 t = p then v + u 4 t else v) (u 0 7).toNat 0 0
def manyS (u : US) : Int := frm (fun t v => if u 6 t < 0 then v else v + 1) (u 0 7).toNat 0 0
def richesS (u : US) : Int := frm (fun t v => if u 6 t < 0 then v else v + u 4 t) (u 0 7).toNat 0 0
def noS (u : US) : Int := frm (fun t s => if u 6 t < 0 then bOr s (bShl 1 t) else s) (u 0 7).toNat 0 0
def atS (u : US) (k N : Nat) (c : Int) : Int := frm (fun i s => if u k i = c then bOr s (bShl 1 i) else s) N 0 0
theorem worthst_b {H : Int} {u : US} (wf : WF H u) (p : Int) (k : Nat) : 0 ≤ frm (fun t v => if u 6 t = p then v + u 4 t else v) k 0 0 ∧ frm (fun t v => if u 6 t = p then v + u 4 t else v) k 0 0 ≤ 9 * k := by
  have := frm_i (fun t v => if u 6 t = p then v + u 4 t else v) (fun i v => 0 ≤ v ∧ v ≤ 9 * i) (by
    intro i a q
    have := (wFt wf i).1
    split <;> omega) k 0 0 (by omega)
  simpa using this
theorem worthsS_b {H : Int} {u : US} (wf : WF H u) (p : Int) : 0 ≤ worthsS u p ∧ worthsS u p ≤ 72 := by
  have := worthst_b wf p (u 0 7).toNat
  have b := (wF wf).2.1
  unfold worthsS
  omega
theorem manyS_b {H : Int} {u : US} (wf : WF H u) : 0 ≤ manyS u ∧ manyS u ≤ 8 := by
  have := frm_i (fun t (v : Int) => if u 6 t < 0 then v else v + 1) (fun i v => 0 ≤ v ∧ v ≤ i) (by
    intro i a q
    split <;> omega) (u 0 7).toNat 0 0 (by omega)
  have b := (wF wf).2.1
  unfold manyS
  omega
theorem richesS_b {H : Int} {u : US} (wf : WF H u) : 0 ≤ richesS u ∧ richesS u ≤ 72 := by
  have := frm_i (fun t v => if u 6 t < 0 then v else v + u 4 t) (fun i v => 0 ≤ v ∧ v ≤ 9 * i) (by
    intro i a q
    have := (wFt wf i).1
    split <;> omega) (u 0 7).toNat 0 0 (by omega)
  have b := (wF wf).2.1
  unfold richesS
  omega
theorem noS_bs {H : Int} {u : US} (wf : WF H u) : noS u = ((bs (fun t => decide (u 6 t < 0)) (u 0 7).toNat 0 : Nat) : Int) := by
  have b := (wF wf).2.1
  unfold noS
  exact frm_set (by omega)
theorem many_cn (u : US) : ∀ k i (v : Int), frm (fun t v => if u 6 t < 0 then v else v + 1) k i v + ((cn (fun t => decide (u 6 t < 0)) k i : Nat) : Int) = v + k
  | 0, _, v => by
    show v + 0 = v + 0
    rfl
  | k + 1, i, v => by
    simp only [frm, cn]
    by_cases h : u 6 i < 0
    · have := many_cn u k (i + 1) v
      simp only [if_pos h, decide_eq_true_eq]
      omega
    · have := many_cn u k (i + 1) (v + 1)
      simp only [if_neg h, decide_eq_true_eq]
      omega
theorem e_worthsOf_4 {n : Nat} {M : Mem} {w : Nat} {H : Int} {p : Int} {T : Nat} (hw : w ≠ 137) (wf : WF H (vw M w)) (hp : I32 p) (hT : rd M w 7 = T) : ∀ k t (i : Nat) (v : Int), i + k = T → k < t →
    m_X4_worthsOf_4 n t M w p v (i : Int) = some (frm (fun t v => if vw M w 6 t = p then v + vw M w 4 t else v) k i v, M) := by
  have b := sW wf
  intro k
  induction k with
  | zero =>
    intro t i v hi ht
    cases t with
    | zero => omega
    | succ t =>
      refine Ok_eq ?_
      rw [m_X4_worthsOf_4]
      repeat (first
          | with_reducible refine Ok_g (by first | assumption | omega) ?_
          | with_reducible refine Ok_lt ?_
          | with_reducible refine Ok_t (by first | assumption | omega) ?_
          | with_reducible refine Ok_f (by first | assumption | omega) ?_)
      exact Ok_ret ⟨rfl, rfl⟩
  | succ k ih =>
    intro t i v hi ht
    cases t with
    | zero => omega
    | succ t =>
      have p1 := tW hw wf (i := i) (by omega)
      refine Ok_eq ?_
      rw [m_X4_worthsOf_4, frm]
      simp only [Int.toNat_natCast]
      rw [p1.1.2.2, p1.1.1]
      repeat (first
          | with_reducible refine Ok_g (by first | assumption | omega) ?_
          | with_reducible refine Ok_lt ?_
          | with_reducible refine Ok_t (by first | assumption | omega) ?_
          | with_reducible refine Ok_f (by first | assumption | omega) ?_)
      by_cases g : rd M (w + 6) i = p
      · rw [if_pos g, if_pos g]
        repeat (first
            | with_reducible refine Ok_g (by first | assumption | omega) ?_
            | with_reducible refine Ok_lt ?_
            | with_reducible refine Ok_t (by first | assumption | omega) ?_
            | with_reducible refine Ok_f (by first | assumption | omega) ?_)
        exact Ok_of (ih t (i + 1) _ (by omega) (by omega)) ⟨rfl, rfl⟩
      · rw [if_neg g, if_neg g]
        exact Ok_of (ih t (i + 1) _ (by omega) (by omega)) ⟨rfl, rfl⟩
theorem e_worthsOf {n : Nat} {M : Mem} {w : Nat} {H p : Int} (hn : 2000 ≤ n) (hw : isW w) (wf : WF H (vw M w)) (hp : I32 p) : m_X4_worthsOf n M w p = some (worthsS (vw M w) p, M) := by
  have b := sW wf
  refine Ok_eq ?_
  unfold m_X4_worthsOf worthsS
  refine Ok_g hw ?_
  rw [b.1.2.1]
  exact Ok_of (e_worthsOf_4 (T := (rd M w 7).toNat) (by omega) wf hp (by omega) _ n 0 0 (by omega) (by omega)) ⟨rfl, rfl⟩
theorem e_nobodys_4 {n : Nat} {M : Mem} {w : Nat} {H : Int} {T : Nat} (hw : w ≠ 137) (wf : WF H (vw M w)) (hT : rd M w 7 = T) : ∀ k t (i : Nat) (v : Int), i + k = T → k < t →
    m_X4_nobodysThings_4 n t M w v (i : Int) = some (frm (fun t s => if vw M w 6 t < 0 then bOr s (bShl 1 t) else s) k i v, M) := by
  have b := sW wf
  intro k
  induction k with
  | zero =>
    intro t i v hi ht
    cases t with
    | zero => omega
    | succ t =>
      refine Ok_eq ?_
      rw [m_X4_nobodysThings_4]
      repeat (first
          | with_reducible refine Ok_g (by first | assumption | omega) ?_
          | with_reducible refine Ok_lt ?_
          | with_reducible refine Ok_t (by first | assumption | omega) ?_
          | with_reducible refine Ok_f (by first | assumption | omega) ?_)
      exact Ok_ret ⟨rfl, rfl⟩
  | succ k ih =>
    intro t i v hi ht
    cases t with
    | zero => omega
    | succ t =>
      have p1 := tW hw wf (i := i) (by omega)
      refine Ok_eq ?_
      rw [m_X4_nobodysThings_4, frm]
      simp only [Int.toNat_natCast]
      rw [p1.1.2.2]
      repeat (first
          | with_reducible refine Ok_g (by first | assumption | omega) ?_
          | with_reducible refine Ok_lt ?_
          | with_reducible refine Ok_t (by first | assumption | omega) ?_
          | with_reducible refine Ok_f (by first | assumption | omega) ?_)
      refine Ok_if (fun g => ?_) (fun g => ?_)
      · rw [if_pos (by omega)]
        exact Ok_of (ih t (i + 1) _ (by omega) (by omega)) ⟨rfl, rfl⟩
      · rw [if_neg (by omega)]
        exact Ok_of (ih t (i + 1) _ (by omega) (by omega)) ⟨rfl, rfl⟩
theorem e_nobodys {n : Nat} {M : Mem} {w : Nat} {H : Int} (hn : 2000 ≤ n) (hw : isW w) (wf : WF H (vw M w)) : m_X4_nobodysThings n M w = some (noS (vw M w), M) := by
  have b := sW wf
  refine Ok_eq ?_
  unfold m_X4_nobodysThings noS
  refine Ok_g hw ?_
  rw [b.1.2.1]
  exact Ok_of (e_nobodys_4 (T := (rd M w 7).toNat) (by omega) wf (by omega) _ n 0 0 (by omega) (by omega)) ⟨rfl, rfl⟩
theorem e_owned {n : Nat} {M : Mem} {w : Nat} {H : Int} (hn : 2000 ≤ n) (hw : isW w) (wf : WF H (vw M w)) : m_X4_ownedThings n M w = some (manyS (vw M w), M) := by
  have b := sW wf
  have lt1 := bs_lt (fun t => decide (vw M w 6 t < 0)) (vw M w 0 7).toNat 0
  have l8 : 2 ^ (vw M w 0 7).toNat ≤ 2 ^ 8 := Nat.pow_le_pow_right (by decide) (by omega)
  refine Ok_eq ?_
  unfold m_X4_ownedThings
  refine Ok_g hw ?_
  refine Ok_be (e_nobodys hn hw wf) ?_
  rw [noS_bs wf]
  refine Ok_be (e_bitCount (by omega)) ?_
  refine Ok_ret ⟨?_, rfl⟩
  rw [pcN_31 (j := (vw M w 0 7).toNat) (by omega) lt1, pc_bs]
  have := many_cn (vw M w) (vw M w 0 7).toNat 0 0
  unfold manyS
  omega
theorem e_peopleOn_4 {n : Nat} {M : Mem} {w : Nat} {H c : Int} {P : Nat} (wf : WF H (vw M w)) (hc : I32 c) (hP : rd M w 12 = P) : ∀ k t (i : Nat) (v : Int), i + k = P → k < t →
    m_X4_peopleOn_4 n t M w c v (i : Int) = some (frm (fun i s => if vw M w 10 i = c then bOr s (bShl 1 i) else s) k i v, M) := by
  have b := sW wf
  intro k
  induction k with
  | zero =>
    intro t i v hi ht
    cases t with
    | zero => omega
    | succ t =>
      refine Ok_eq ?_
      rw [m_X4_peopleOn_4]
      repeat (first
          | with_reducible refine Ok_g (by first | assumption | omega) ?_
          | with_reducible refine Ok_lt ?_
          | with_reducible refine Ok_t (by first | assumption | omega) ?_
          | with_reducible refine Ok_f (by first | assumption | omega) ?_)
      exact Ok_ret ⟨rfl, rfl⟩
  | succ k ih =>
    intro t i v hi ht
    cases t with
    | zero => omega
    | succ t =>
      have p1 := pW wf (i := i) (by omega)
      refine Ok_eq ?_
      rw [m_X4_peopleOn_4, frm]
      simp only [Int.toNat_natCast]
      rw [p1.1.2.2.2]
      repeat (first
          | with_reducible refine Ok_g (by first | assumption | omega) ?_
          | with_reducible refine Ok_lt ?_
          | with_reducible refine Ok_t (by first | assumption | omega) ?_
          | with_reducible refine Ok_f (by first | assumption | omega) ?_)
      refine Ok_if (fun g => ?_) (fun g => ?_)
      · rw [if_pos g]
        exact Ok_of (ih t (i + 1) _ (by omega) (by omega)) ⟨rfl, rfl⟩
      · rw [if_neg g]
        exact Ok_of (ih t (i + 1) _ (by omega) (by omega)) ⟨rfl, rfl⟩
theorem e_peopleOn {n : Nat} {M : Mem} {w : Nat} {H c : Int} (hn : 2000 ≤ n) (hw : isW w) (wf : WF H (vw M w)) (hc : I32 c) : m_X4_peopleOn n M w c = some (atS (vw M w) 10 (vw M w 0 12).toNat c, M) := by
  have b := sW wf
  refine Ok_eq ?_
  unfold m_X4_peopleOn atS
  refine Ok_g hw ?_
  rw [b.1.2.2.1]
  exact Ok_of (e_peopleOn_4 (P := (rd M w 12).toNat) wf hc (by omega) _ n 0 0 (by omega) (by omega)) ⟨rfl, rfl⟩
theorem e_thingsOn_4 {n : Nat} {M : Mem} {w : Nat} {H c : Int} {P : Nat} (hw : w ≠ 137) (wf : WF H (vw M w)) (hc : I32 c) (hP : rd M w 7 = P) : ∀ k t (i : Nat) (v : Int), i + k = P → k < t →
    m_X4_thingsOn_4 n t M w c v (i : Int) = some (frm (fun i s => if vw M w 5 i = c then bOr s (bShl 1 i) else s) k i v, M) := by
  have b := sW wf
  intro k
  induction k with
  | zero =>
    intro t i v hi ht
    cases t with
    | zero => omega
    | succ t =>
      refine Ok_eq ?_
      rw [m_X4_thingsOn_4]
      repeat (first
          | with_reducible refine Ok_g (by first | assumption | omega) ?_
          | with_reducible refine Ok_lt ?_
          | with_reducible refine Ok_t (by first | assumption | omega) ?_
          | with_reducible refine Ok_f (by first | assumption | omega) ?_)
      exact Ok_ret ⟨rfl, rfl⟩
  | succ k ih =>
    intro t i v hi ht
    cases t with
    | zero => omega
    | succ t =>
      have p1 := tW hw wf (i := i) (by omega)
      refine Ok_eq ?_
      rw [m_X4_thingsOn_4, frm]
      simp only [Int.toNat_natCast]
      rw [p1.1.2.1]
      repeat (first
          | with_reducible refine Ok_g (by first | assumption | omega) ?_
          | with_reducible refine Ok_lt ?_
          | with_reducible refine Ok_t (by first | assumption | omega) ?_
          | with_reducible refine Ok_f (by first | assumption | omega) ?_)
      refine Ok_if (fun g => ?_) (fun g => ?_)
      · rw [if_pos g]
        exact Ok_of (ih t (i + 1) _ (by omega) (by omega)) ⟨rfl, rfl⟩
      · rw [if_neg g]
        exact Ok_of (ih t (i + 1) _ (by omega) (by omega)) ⟨rfl, rfl⟩
theorem e_thingsOn {n : Nat} {M : Mem} {w : Nat} {H c : Int} (hn : 2000 ≤ n) (hw : isW w) (wf : WF H (vw M w)) (hc : I32 c) : m_X4_thingsOn n M w c = some (atS (vw M w) 5 (vw M w 0 7).toNat c, M) := by
  have b := sW wf
  refine Ok_eq ?_
  unfold m_X4_thingsOn atS
  refine Ok_g hw ?_
  rw [b.1.2.1]
  exact Ok_of (e_thingsOn_4 (P := (rd M w 7).toNat) (by omega) wf hc (by omega) _ n 0 0 (by omega) (by omega)) ⟨rfl, rfl⟩
