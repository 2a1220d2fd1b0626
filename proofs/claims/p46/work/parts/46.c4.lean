/-! where one goes, what he grabs, an hour on the first side -/
theorem e_airiest_4 {n : Nat} {M : Mem} {H : Int} (wf : WF H (vw M 22)) (lk : Lk M) : ∀ k t (i : Nat) (best : Int), i + k = 23 → k < t → 0 ≤ best ∧ best ≤ 23 →
    m_X0_airiest_4 n t M best ((i + 1 : Nat) : Int) = some (frm (fun c best => if airOS (vw M 22) best (vw M 22 0 13) < airOS (vw M 22) (c + 1 : Nat) (vw M 22 0 13) then ((c + 1 : Nat) : Int) else best) k i best, M) := by
  intro k
  induction k with
  | zero =>
    intro t i v hi ht hv
    cases t with
    | zero => omega
    | succ t =>
      refine Ok_eq ?_
      rw [m_X0_airiest_4]
      repeat (first
          | with_reducible refine Ok_g (by first | assumption | omega) ?_
          | with_reducible refine Ok_lt ?_
          | with_reducible refine Ok_t (by first | assumption | omega) ?_
          | with_reducible refine Ok_f (by first | assumption | omega) ?_)
      exact Ok_ret ⟨rfl, rfl⟩
  | succ k ih =>
    intro t i v hi ht hv
    cases t with
    | zero => omega
    | succ t =>
      have a1 := airOS_b wf v (vw M 22 0 13)
      have a2 := airOS_b wf ((i + 1 : Nat) : Int) (vw M 22 0 13)
      refine Ok_eq ?_
      rw [m_X0_airiest_4, frm]
      repeat (first
          | with_reducible refine Ok_g (by first | assumption | omega) ?_
          | with_reducible refine Ok_lt ?_
          | with_reducible refine Ok_t (by first | assumption | omega) ?_
          | with_reducible refine Ok_f (by first | assumption | omega) ?_)
      refine Ok_be (e_airOn lk (by omega)) ?_
      refine Ok_be (e_airOn lk (by omega)) ?_
      repeat (first
          | with_reducible refine Ok_g (by first | assumption | omega) ?_
          | with_reducible refine Ok_lt ?_
          | with_reducible refine Ok_t (by first | assumption | omega) ?_
          | with_reducible refine Ok_f (by first | assumption | omega) ?_)
      refine Ok_if (fun g => ?_) (fun g => ?_)
      · rw [if_neg (by omega)]
        exact Ok_of (ih t (i + 1) _ (by omega) (by omega) hv) ⟨rfl, rfl⟩
      · rw [if_pos (by omega)]
        exact Ok_of (ih t (i + 1) _ (by omega) (by omega) (by omega)) ⟨rfl, rfl⟩
theorem e_airiest {n : Nat} {M : Mem} {H : Int} (hn : 2000 ≤ n) (wf : WF H (vw M 22)) (lk : Lk M) : m_X0_airiest n M = some (airyS (vw M 22) (vw M 22 0 13), M) := e_airiest_4 wf lk 23 n 0 0 (by omega) (by omega) (by omega)
theorem farS_comm (a b : Int) : farS a b = farS b a := by
  unfold farS ab
  omega
theorem farS_b {a b : Int} (ha : 0 ≤ a ∧ a ≤ 23) (hb : 0 ≤ b ∧ b ≤ 23) : 0 ≤ farS a b ∧ farS a b ≤ 8 := by
  unfold farS ab
  omega
theorem e_distance {n : Nat} {M : Mem} {a b : Int} (ha : 0 ≤ a ∧ a ≤ 23) (hb : 0 ≤ b ∧ b ≤ 23) : m_X0_distance n M a b = some (farS b a, M) := by
  refine Ok_eq ?_
  unfold m_X0_distance
  rw [td ha.1, td hb.1, tm ha.1, tm hb.1]
  repeat (first
      | with_reducible refine Ok_g (by first | assumption | omega) ?_
      | with_reducible refine Ok_lt ?_
      | with_reducible refine Ok_t (by first | assumption | omega) ?_
      | with_reducible refine Ok_f (by first | assumption | omega) ?_)
  exact Ok_ret ⟨by unfold farS ab abZ; omega, rfl⟩
theorem e_nearest_7 {n : Nat} {M : Mem} {H : Int} {p T : Nat} (wf : WF H (vw M 22)) (hT : rd M 22 7 = T) (hp : p < 5) : ∀ k t (i : Nat) (best least : Int), i + k = T → k < t → -1 ≤ best ∧ best < i → (0 ≤ best → least = farS (vw M 22 5 best.toNat) (vw M 22 10 p)) → I32 least →
    m_X0_nearest_7 n t M (p : Int) best least (i : Int) = some (frm (fun t best => if vw M 22 6 t < 0 ∧ (best < 0 ∨ farS (vw M 22 5 t) (vw M 22 10 p) < farS (vw M 22 5 best.toNat) (vw M 22 10 p)) then (t : Int) else best) k i best, M) := by
  have b := sW wf
  have q := pW wf hp
  simp only [Nat.reduceAdd] at q
  intro k
  induction k with
  | zero =>
    intro t i v l hi ht hv hl hl2
    cases t with
    | zero => omega
    | succ t =>
      refine Ok_eq ?_
      rw [m_X0_nearest_7]
      repeat (first
          | with_reducible refine Ok_g (by first | assumption | omega) ?_
          | with_reducible refine Ok_lt ?_
          | with_reducible refine Ok_t (by first | assumption | omega) ?_
          | with_reducible refine Ok_f (by first | assumption | omega) ?_)
      exact Ok_ret ⟨rfl, rfl⟩
  | succ k ih =>
    intro t i v l hi ht hv hl hl2
    cases t with
    | zero => omega
    | succ t =>
      have p1 := tW (by decide) wf (i := i) (by omega)
      simp only [Nat.reduceAdd] at p1
      have fb := farS_b p1.2.2.1 q.2.2.2.2
      refine Ok_eq ?_
      rw [m_X0_nearest_7, frm]
      simp only [Int.toNat_natCast]
      unfold m_X0_nearest_68
      rw [p1.1.2.2, p1.1.2.1, q.1.2.2.2]
      repeat (first
          | with_reducible refine Ok_g (by first | assumption | omega) ?_
          | with_reducible refine Ok_lt ?_
          | with_reducible refine Ok_t (by first | assumption | omega) ?_
          | with_reducible refine Ok_f (by first | assumption | omega) ?_)
      refine Ok_if (fun g => ?_) (fun g => ?_)
      · repeat (first
            | with_reducible refine Ok_g (by first | assumption | omega) ?_
            | with_reducible refine Ok_lt ?_
            | with_reducible refine Ok_t (by first | assumption | omega) ?_
            | with_reducible refine Ok_f (by first | assumption | omega) ?_)
        refine Ok_be (e_distance q.2.2.2.2 p1.2.2.1) ?_
        repeat (first
            | with_reducible refine Ok_g (by first | assumption | omega) ?_
            | with_reducible refine Ok_lt ?_
            | with_reducible refine Ok_t (by first | assumption | omega) ?_
            | with_reducible refine Ok_f (by first | assumption | omega) ?_)
        have nx : ∀ (bb : Bool), bb = true → m_X0_nearest_7 n t M (p : Int) (i : Int) (farS (rd M 27 i) (rd M 32 p)) ((i : Int) + 1) = some (frm (fun t best => if vw M 22 6 t < 0 ∧ (best < 0 ∨ farS (vw M 22 5 t) (vw M 22 10 p) < farS (vw M 22 5 best.toNat) (vw M 22 10 p)) then (t : Int) else best) k (i + 1) (i : Int), M) := fun _ _ => ih t (i + 1) _ _ (by omega) (by omega) (by omega) (fun _ => by rw [Int.toNat_natCast, p1.1.2.1, q.1.2.2.2]) (by omega)
        rw [q.1.2.2.2] at nx
        refine Ok_if (fun g2 => ?_) (fun g2 => ?_)
        · rw [if_pos ⟨by omega, .inl (by omega)⟩]
          exact Ok_of (nx true rfl) ⟨rfl, rfl⟩
        · have hl' := hl (by omega)
          rw [q.1.2.2.2] at hl'
          repeat (first
              | with_reducible refine Ok_g (by first | assumption | omega) ?_
              | with_reducible refine Ok_lt ?_
              | with_reducible refine Ok_t (by first | assumption | omega) ?_
              | with_reducible refine Ok_f (by first | assumption | omega) ?_)
          refine Ok_if (fun g3 => ?_) (fun g3 => ?_)
          · rw [if_neg (by rw [← hl']; omega)]
            have := ih t (i + 1) v l (by omega) (by omega) (by omega) hl hl2
            rw [q.1.2.2.2] at this
            exact Ok_of this ⟨rfl, rfl⟩
          · rw [if_pos ⟨by omega, .inr (by rw [← hl']; omega)⟩]
            exact Ok_of (nx true rfl) ⟨rfl, rfl⟩
      · rw [if_neg (by omega)]
        have := ih t (i + 1) v l (by omega) (by omega) (by omega) hl hl2
        rw [q.1.2.2.2] at this
        exact Ok_of this ⟨rfl, rfl⟩
theorem e_nearest {n : Nat} {M : Mem} {H : Int} {p : Nat} (hn : 2000 ≤ n) (wf : WF H (vw M 22)) (hp : p < 5) : m_X0_nearest n M (p : Int) = some (nearS (vw M 22) p, M) := by
  have b := sW wf
  unfold m_X0_nearest nearS
  rw [b.1.2.1]
  exact e_nearest_7 (T := (rd M 22 7).toNat) wf (by omega) hp _ n 0 (-1) 0 (by omega) (by omega) (by omega) (fun z => absurd z (by decide)) (by decide)
theorem e_worthiest_4 {n : Nat} {M : Mem} {H : Int} {p T : Nat} (wf : WF H (vw M 22)) (hT : rd M 22 7 = T) (hp : p < 5) : ∀ k t (i : Nat) (best : Int), i + k = T → k < t → -1 ≤ best ∧ best < i →
    m_X0_worthiest_4 n t M (p : Int) best (i : Int) = some (frm (fun t best => if vw M 22 6 t ≠ (p : Int) ∧ (best < 0 ∨ vw M 22 4 best.toNat < vw M 22 4 t) then (t : Int) else best) k i best, M) := by
  have b := sW wf
  intro k
  induction k with
  | zero =>
    intro t i v hi ht hv
    cases t with
    | zero => omega
    | succ t =>
      refine Ok_eq ?_
      rw [m_X0_worthiest_4]
      repeat (first
          | with_reducible refine Ok_g (by first | assumption | omega) ?_
          | with_reducible refine Ok_lt ?_
          | with_reducible refine Ok_t (by first | assumption | omega) ?_
          | with_reducible refine Ok_f (by first | assumption | omega) ?_)
      exact Ok_ret ⟨rfl, rfl⟩
  | succ k ih =>
    intro t i v hi ht hv
    cases t with
    | zero => omega
    | succ t =>
      have p1 := tW (by decide) wf (i := i) (by omega)
      simp only [Nat.reduceAdd] at p1
      refine Ok_eq ?_
      rw [m_X0_worthiest_4, frm]
      simp only [Int.toNat_natCast]
      unfold m_X0_worthiest_33 m_X0_worthiest_66
      rw [p1.1.2.2, p1.1.1]
      repeat (first
          | with_reducible refine Ok_g (by first | assumption | omega) ?_
          | with_reducible refine Ok_lt ?_
          | with_reducible refine Ok_t (by first | assumption | omega) ?_
          | with_reducible refine Ok_f (by first | assumption | omega) ?_)
      refine Ok_if (fun g => ?_) (fun g => ?_)
      · repeat (first
            | with_reducible refine Ok_g (by first | assumption | omega) ?_
            | with_reducible refine Ok_lt ?_
            | with_reducible refine Ok_t (by first | assumption | omega) ?_
            | with_reducible refine Ok_f (by first | assumption | omega) ?_)
        rw [if_neg (by omega)]
        exact Ok_of (ih t (i + 1) v (by omega) (by omega) (by omega)) ⟨rfl, rfl⟩
      · repeat (first
            | with_reducible refine Ok_g (by first | assumption | omega) ?_
            | with_reducible refine Ok_lt ?_
            | with_reducible refine Ok_t (by first | assumption | omega) ?_
            | with_reducible refine Ok_f (by first | assumption | omega) ?_)
        refine Ok_if (fun g2 => ?_) (fun g2 => ?_)
        · rw [if_pos ⟨by omega, .inl (by omega)⟩]
          exact Ok_of (ih t (i + 1) _ (by omega) (by omega) (by omega)) ⟨rfl, rfl⟩
        · have p2 := tW (by decide) wf (i := v.toNat) (by omega)
          simp only [Nat.reduceAdd] at p2
          repeat (first
              | with_reducible refine Ok_g (by first | assumption | omega) ?_
              | with_reducible refine Ok_lt ?_
              | with_reducible refine Ok_t (by first | assumption | omega) ?_
              | with_reducible refine Ok_f (by first | assumption | omega) ?_)
          rw [p2.1.1]
          simp only [Int.toNat_natCast]
          refine Ok_if (fun g3 => ?_) (fun g3 => ?_)
          · rw [if_neg (by omega)]
            exact Ok_of (ih t (i + 1) _ (by omega) (by omega) (by omega)) ⟨rfl, rfl⟩
          · rw [if_pos ⟨by omega, .inr (by omega)⟩]
            exact Ok_of (ih t (i + 1) _ (by omega) (by omega) (by omega)) ⟨rfl, rfl⟩
theorem e_worthiest {n : Nat} {M : Mem} {H : Int} {p : Nat} (hn : 2000 ≤ n) (wf : WF H (vw M 22)) (hp : p < 5) : m_X0_worthiest n M (p : Int) = some (richS (vw M 22) p, M) := by
  have b := sW wf
  unfold m_X0_worthiest richS
  rw [b.1.2.1]
  exact e_worthiest_4 (T := (rd M 22 7).toNat) wf (by omega) hp _ n 0 (-1) (by omega) (by omega) (by omega)
theorem e_goal {n : Nat} {M : Mem} {H : Int} {p : Nat} (hn : 2000 ≤ n) (wf : WF H (vw M 22)) (lk : Lk M) (hp : p < 5) : m_X0_goal n M (p : Int) = some (goalS (vw M 22) p (vw M 22 0 13), M) := by
  have b := sW wf
  have q := pW wf hp
  simp only [Nat.reduceAdd] at q
  have r1 := nearS_b (vw M 22) p
  have r2 := richS_b (vw M 22) p
  have m2 := em_rng (a := vw M 22 0 13) (b := 2) (by omega)
  rw [b.1.2.2.2.1] at m2
  have t91 : ∀ x : Int, -1 ≤ x → x ≤ 7 → m_X0_goal_91 n M (p : Int) x = some (if x < 0 then vw M 22 9 p else vw M 22 5 x.toNat, M) := by
    intro x h1 h2
    refine Ok_eq ?_
    unfold m_X0_goal_91
    rw [q.1.2.2.1]
    simp only [Int.toNat_natCast]
    repeat (first
        | with_reducible refine Ok_g (by first | assumption | omega) ?_
        | with_reducible refine Ok_lt ?_
        | with_reducible refine Ok_t (by first | assumption | omega) ?_
        | with_reducible refine Ok_f (by first | assumption | omega) ?_)
    refine Ok_if (fun g => ?_) (fun g => ?_)
    · repeat (first
          | with_reducible refine Ok_g (by first | assumption | omega) ?_
          | with_reducible refine Ok_lt ?_
          | with_reducible refine Ok_t (by first | assumption | omega) ?_
          | with_reducible refine Ok_f (by first | assumption | omega) ?_)
      exact Ok_ret ⟨by rw [if_pos (by omega)], rfl⟩
    · repeat (first
          | with_reducible refine Ok_g (by first | assumption | omega) ?_
          | with_reducible refine Ok_lt ?_
          | with_reducible refine Ok_t (by first | assumption | omega) ?_
          | with_reducible refine Ok_f (by first | assumption | omega) ?_)
      exact Ok_ret ⟨by rw [if_neg (by omega), vw_5 M 22 (by omega)], rfl⟩
  have ch : m_X0_goal_84 n M (p : Int) = some (childS (vw M 22) p, M) := by
    unfold m_X0_goal_84
    rw [e_nearest hn wf hp]
    exact t91 _ (by omega) (by omega)
  have th : m_X0_goal_49 n M (p : Int) (rd M 29 p) = some (thiefS (vw M 22) p, M) := by
    refine Ok_eq ?_
    unfold m_X0_goal_49 m_X0_goal_54
    repeat (first
        | with_reducible refine Ok_g (by first | assumption | omega) ?_
        | with_reducible refine Ok_lt ?_
        | with_reducible refine Ok_t (by first | assumption | omega) ?_
        | with_reducible refine Ok_f (by first | assumption | omega) ?_)
    refine Ok_be (e_worthiest hn wf hp) ?_
    unfold m_X0_goal_69 thiefS
    repeat (first
        | with_reducible refine Ok_g (by first | assumption | omega) ?_
        | with_reducible refine Ok_lt ?_
        | with_reducible refine Ok_t (by first | assumption | omega) ?_
        | with_reducible refine Ok_f (by first | assumption | omega) ?_)
    refine Ok_if (fun g => ?_) (fun g => ?_)
    · repeat (first
          | with_reducible refine Ok_g (by first | assumption | omega) ?_
          | with_reducible refine Ok_lt ?_
          | with_reducible refine Ok_t (by first | assumption | omega) ?_
          | with_reducible refine Ok_f (by first | assumption | omega) ?_)
      exact Ok_of ch ⟨by rw [if_pos (by omega)], rfl⟩
    · refine Ok_of (t91 _ (by omega) (by omega)) ⟨?_, rfl⟩
      rw [if_neg (by omega), if_neg (by omega)]
  have ot : m_X0_goal_53 n M (p : Int) (rd M 29 p) = some (if rd M 29 p = 1 then childS (vw M 22) p else vw M 22 9 p, M) := by
    refine Ok_eq ?_
    unfold m_X0_goal_53 m_X0_goal_54
    repeat (first
        | with_reducible refine Ok_g (by first | assumption | omega) ?_
        | with_reducible refine Ok_lt ?_
        | with_reducible refine Ok_t (by first | assumption | omega) ?_
        | with_reducible refine Ok_f (by first | assumption | omega) ?_)
    unfold m_X0_goal_69
    repeat (first
        | with_reducible refine Ok_g (by first | assumption | omega) ?_
        | with_reducible refine Ok_lt ?_
        | with_reducible refine Ok_t (by first | assumption | omega) ?_
        | with_reducible refine Ok_f (by first | assumption | omega) ?_)
    refine Ok_if (fun g => ?_) (fun g => ?_)
    · exact Ok_of ch ⟨by rw [if_pos g], rfl⟩
    · refine Ok_of (t91 _ (by omega) (by omega)) ⟨?_, rfl⟩
      rw [if_pos (by omega), if_neg g]
  have ai : m_X0_goal_21 n M = some (airyS (vw M 22) (vw M 22 0 13), M) := by
    unfold m_X0_goal_21
    rw [e_airiest hn wf lk]
    rfl
  refine Ok_eq ?_
  unfold m_X0_goal goalS
  simp only [Int.toNat_natCast]
  rw [q.1.1, b.1.2.2.2.1]
  rw [b.1.2.2.2.1] at ai
  rw [tm (by omega)]
  repeat (first
      | with_reducible refine Ok_g (by first | assumption | omega) ?_
      | with_reducible refine Ok_lt ?_
      | with_reducible refine Ok_t (by first | assumption | omega) ?_
      | with_reducible refine Ok_f (by first | assumption | omega) ?_)
  refine Ok_if (fun g => ?_) (fun g => ?_)
  · exact Ok_of ai ⟨by rw [if_neg (by omega), if_neg (by omega), if_pos g], rfl⟩
  refine Ok_if (fun g1 => ?_) (fun g1 => ?_)
  · exact Ok_of ai ⟨by rw [if_neg (by omega), if_neg (by omega), if_neg g, if_pos g1], rfl⟩
  refine Ok_if (fun g2 => ?_) (fun g2 => ?_)
  · exact Ok_of th ⟨by rw [if_neg (by omega), if_pos g2], rfl⟩
  refine Ok_if (fun g3 => ?_) (fun g3 => ?_)
  · repeat (first
        | with_reducible refine Ok_g (by first | assumption | omega) ?_
        | with_reducible refine Ok_lt ?_
        | with_reducible refine Ok_t (by first | assumption | omega) ?_
        | with_reducible refine Ok_f (by first | assumption | omega) ?_)
    refine Ok_if (fun g4 => ?_) (fun g4 => ?_)
    · exact Ok_of th ⟨by rw [if_neg (by omega), if_neg g2, if_neg g, if_neg g1, if_pos g3, if_pos g4], rfl⟩
    · exact Ok_of ot ⟨by rw [if_neg (by omega), if_neg g2, if_neg g, if_neg g1, if_pos g3, if_neg g4, if_neg (by omega)], rfl⟩
  · refine Ok_of ot ⟨?_, rfl⟩
    rw [if_neg g2, if_neg g, if_neg g1, if_neg g3]
theorem e_walk_36 {n : Nat} {M : Mem} {p : Nat} {g pace : Int} (hp : p < 5) (hg : 0 ≤ g ∧ g ≤ 23) (hpc : 0 ≤ pace ∧ pace ≤ 4) : ∀ (k t i : Nat) (c : Int), (i : Int) + (k : Nat) = pace → k < t → 0 ≤ c ∧ c ≤ 23 →
    m_X0_walk_36 n t M (p : Int) g pace c (i : Int) = some (0, mup M 32 p (walkS g k c)) := by
  have wr7 : ∀ c, m_X0_walk_107 n M (p : Int) c = some (0, mup M 32 p c) := by
    intro c
    refine Ok_eq ?_
    unfold m_X0_walk_107
    repeat (first
        | with_reducible refine Ok_g (by first | assumption | omega) ?_
        | with_reducible refine Ok_lt ?_
        | with_reducible refine Ok_wr ?_
        | with_reducible refine Ok_t (by first | assumption | omega) ?_
        | with_reducible refine Ok_f (by first | assumption | omega) ?_)
    exact Ok_ret ⟨rfl, by rw [Int.toNat_natCast]⟩
  intro k
  induction k with
  | zero =>
    intro t i c hi ht hc
    cases t with
    | zero => omega
    | succ t =>
      refine Ok_eq ?_
      rw [m_X0_walk_36]
      repeat (first
          | with_reducible refine Ok_g (by first | assumption | omega) ?_
          | with_reducible refine Ok_lt ?_
          | with_reducible refine Ok_t (by first | assumption | omega) ?_
          | with_reducible refine Ok_f (by first | assumption | omega) ?_)
      exact Ok_of (wr7 c) ⟨rfl, rfl⟩
  | succ k ih =>
    intro t i c hi ht hc
    cases t with
    | zero => omega
    | succ t =>
      have sb := stepS_b hc hg
      refine Ok_eq ?_
      rw [m_X0_walk_36]
      unfold m_X0_walk_98 m_X0_walk_79
      rw [td hc.1, td hg.1]
      repeat (first
          | with_reducible refine Ok_g (by first | assumption | omega) ?_
          | with_reducible refine Ok_lt ?_
          | with_reducible refine Ok_t (by first | assumption | omega) ?_
          | with_reducible refine Ok_f (by first | assumption | omega) ?_)
      refine Ok_if (fun g1 => ?_) (fun g1 => ?_)
      · refine Ok_of (wr7 c) ⟨rfl, ?_⟩
        rw [g1, walkS_fix]
      · have fin : ∀ d, d = stepS c g → Ok (m_X0_walk_36 n t M (p : Int) g pace d ((i : Int) + 1)) (fun r M' => r = 0 ∧ M' = mup M 32 p (walkS g (k + 1) c)) := by
          intro d hd
          subst hd
          exact Ok_of (ih t (i + 1) _ (by omega) (by omega) sb) ⟨rfl, rfl⟩
        repeat (first
            | with_reducible refine Ok_g (by first | assumption | omega) ?_
            | with_reducible refine Ok_lt ?_
            | with_reducible refine Ok_t (by first | assumption | omega) ?_
            | with_reducible refine Ok_f (by first | assumption | omega) ?_)
        refine Ok_if (fun g2 => ?_) (fun g2 => ?_)
        · refine Ok_if (fun g3 => ?_) (fun g3 => ?_)
          · exact fin _ (by unfold stepS; omega)
          · exact fin _ (by unfold stepS; omega)
        · refine Ok_if (fun g3 => ?_) (fun g3 => ?_)
          · exact fin _ (by unfold stepS; omega)
          · exact fin _ (by unfold stepS; omega)
theorem e_walk {n : Nat} {M : Mem} {H : Int} {p : Nat} {g : Int} (hn : 2000 ≤ n) (wf : WF H (vw M 22)) (hp : p < 5) (hg : 0 ≤ g ∧ g ≤ 23) : m_X0_walk n M (p : Int) g = some (0, mup M 32 p (walkS g (paceS (vw M 22 7 p) (vw M 22 8 p)).toNat (vw M 22 10 p))) := by
  have q := pW wf hp
  simp only [Nat.reduceAdd] at q
  have pb := paceS_b (k := rd M 29 p) q.2.2.1
  refine Ok_eq ?_
  unfold m_X0_walk
  simp only [Int.toNat_natCast]
  rw [q.1.1, q.1.2.1, q.1.2.2.2]
  repeat (first
      | with_reducible refine Ok_g (by first | assumption | omega) ?_
      | with_reducible refine Ok_lt ?_
      | with_reducible refine Ok_t (by first | assumption | omega) ?_
      | with_reducible refine Ok_f (by first | assumption | omega) ?_)
  refine Ok_be (e_X1_pace (rd_rng _ _ _) q.2.2.1) ?_
  repeat (first
      | with_reducible refine Ok_g (by first | assumption | omega) ?_
      | with_reducible refine Ok_lt ?_
      | with_reducible refine Ok_t (by first | assumption | omega) ?_
      | with_reducible refine Ok_f (by first | assumption | omega) ?_)
  exact Ok_of (e_walk_36 hp hg pb (paceS (rd M 29 p) (rd M 30 p)).toNat n 0 _ (by omega) (by omega) q.2.2.2.2) ⟨rfl, rfl⟩
theorem e_grab_30 {n : Nat} {H : Int} {p : Nat} {T : Nat} (hp : p < 5) (hT : T ≤ 8) : ∀ k t (i : Nat) (left : Int) M, i + k = T → k < t → rd M 22 7 = T → WF H (vw M 22) → left ≤ 100 → -100 ≤ left - k →
    Ok (m_X0_grab_30 n t M (p : Int) (vw M 22 7 p) (vw M 22 8 p) left (i : Int)) (fun _ M' => vw M' 22 = grabS p k i left (vw M 22) ∧ ∀ q j, q ≠ 28 → M' q j = M q j) := by
  intro k
  induction k with
  | zero =>
    intro t i left M hi ht h7 wf h1 h2
    cases t with
    | zero => omega
    | succ t =>
      rw [m_X0_grab_30]
      repeat (first
          | with_reducible refine Ok_g (by first | assumption | omega) ?_
          | with_reducible refine Ok_lt ?_
          | with_reducible refine Ok_t (by first | assumption | omega) ?_
          | with_reducible refine Ok_f (by first | assumption | omega) ?_)
      exact Ok_ret ⟨rfl, fun _ _ _ => rfl⟩
  | succ k ih =>
    intro t i left M hi ht h7 wf h1 h2
    cases t with
    | zero => omega
    | succ t =>
      have q := pW wf hp
      have p1 := tW (by decide) wf (i := i) (by omega)
      simp only [Nat.reduceAdd] at p1 q
      have mc : mayS (vw M 22) p i ↔ (rd M 27 i = rd M 32 p ∧ rd M 28 i ≠ (p : Int) ∧ (rd M 28 i < 0 ∨ (rd M 29 p = 2 ∧ rd M 26 i < rd M 30 p) ∨ (rd M 29 p = 7 ∧ rd M 26 i ≤ rd M 30 p))) := by
        unfold mayS
        rw [p1.1.1, p1.1.2.1, p1.1.2.2, q.1.1, q.1.2.1, q.1.2.2.2]
      rw [m_X0_grab_30, grabS]
      simp only [Int.toNat_natCast]
      unfold m_X0_grab_111
      repeat (first
          | with_reducible refine Ok_g (by first | assumption | omega) ?_
          | with_reducible refine Ok_lt ?_
          | with_reducible refine Ok_t (by first | assumption | omega) ?_
          | with_reducible refine Ok_f (by first | assumption | omega) ?_)
      refine Ok_if (fun g => ?_) (fun g => ?_)
      · rw [if_pos g]
        exact Ok_ret ⟨rfl, fun _ _ _ => rfl⟩
      rw [if_neg g]
      have no : ¬ mayS (vw M 22) p i → Ok (m_X0_grab_30 n t M (p : Int) (vw M 22 7 p) (vw M 22 8 p) left ((i : Int) + 1)) (fun _ M' => vw M' 22 = (if mayS (vw M 22) p i then grabS p k (i + 1) (left - 1) (uset (vw M 22) 6 i p) else grabS p k (i + 1) left (vw M 22)) ∧ ∀ q j, q ≠ 28 → M' q j = M q j) := by
        intro h
        rw [if_neg h]
        exact ih t (i + 1) left M (by omega) (by omega) h7 wf h1 (by omega)
      have yes : mayS (vw M 22) p i → Ok (m_X0_grab_30 n t (mup M 28 i (p : Int)) (p : Int) (vw M 22 7 p) (vw M 22 8 p) (left + (-1)) ((i : Int) + 1)) (fun _ M' => vw M' 22 = (if mayS (vw M 22) p i then grabS p k (i + 1) (left - 1) (uset (vw M 22) 6 i p) else grabS p k (i + 1) left (vw M 22)) ∧ ∀ q j, q ≠ 28 → M' q j = M q j) := by
        intro h
        rw [if_pos h]
        have e : vw (mup M 28 i (p : Int)) 22 = uset (vw M 22) 6 i p := vw_set (w := 22) (k := 6) (by omega) (by decide) (by decide) (by decide) (show i < 8 by omega)
        have := ih t (i + 1) (left - 1) (mup M 28 i (p : Int)) (by omega) (by omega) (by rw [rd_upne _ _ _ _ _ _ (by omega)]; exact h7) (by rw [e]; exact WF_set wf 6 i (by show (-1 : Int) ≤ p; omega) (by show (p : Int) ≤ 4; omega)) (by omega) (by omega)
        rw [e, uset_nk _ _ (by decide), uset_nk _ _ (by decide)] at this
        refine Ok_mono this ?_
        rintro _ M' ⟨v1, f1⟩
        exact ⟨v1, fun q j hq => by rw [f1 q j hq, mup_ne _ hq]⟩
      repeat (first
          | with_reducible refine Ok_g (by first | assumption | omega) ?_
          | with_reducible refine Ok_lt ?_
          | with_reducible refine Ok_t (by first | assumption | omega) ?_
          | with_reducible refine Ok_f (by first | assumption | omega) ?_)
      refine Ok_if (fun g1 => ?_) (fun g1 => ?_)
      · repeat (first
            | with_reducible refine Ok_g (by first | assumption | omega) ?_
            | with_reducible refine Ok_lt ?_
            | with_reducible refine Ok_t (by first | assumption | omega) ?_
            | with_reducible refine Ok_f (by first | assumption | omega) ?_)
        refine Ok_if (fun g2 => ?_) (fun g2 => ?_)
        · exact no (by rw [mc]; omega)
        refine Ok_if (fun g3 => ?_) (fun g3 => ?_)
        · repeat (first
              | with_reducible refine Ok_g (by first | assumption | omega) ?_
              | with_reducible refine Ok_lt ?_
              | with_reducible refine Ok_wr ?_
              | with_reducible refine Ok_t (by first | assumption | omega) ?_
              | with_reducible refine Ok_f (by first | assumption | omega) ?_)
          exact yes (by rw [mc]; omega)
        · refine Ok_be (e_X1_may (k := vw M 22 7 p) (f := vw M 22 8 p) (by rw [q.1.1]; exact rd_rng _ _ _) (by rw [q.1.2.1]; exact rd_rng _ _ _) (rd_rng _ _ _)) ?_
          by_cases g4 : (vw M 22 7 p = 2 ∧ rd M 26 i < vw M 22 8 p) ∨ (vw M 22 7 p = 7 ∧ rd M 26 i ≤ vw M 22 8 p)
          · rw [if_pos g4]
            repeat (first
                | with_reducible refine Ok_g (by first | assumption | omega) ?_
                | with_reducible refine Ok_lt ?_
                | with_reducible refine Ok_wr ?_
                | with_reducible refine Ok_t (by first | assumption | omega) ?_
                | with_reducible refine Ok_f (by first | assumption | omega) ?_)
            exact yes (by rw [mc]; omega)
          · rw [if_neg g4]
            repeat (first
                | with_reducible refine Ok_g (by first | assumption | omega) ?_
                | with_reducible refine Ok_lt ?_
                | with_reducible refine Ok_t (by first | assumption | omega) ?_
                | with_reducible refine Ok_f (by first | assumption | omega) ?_)
            exact no (by rw [mc]; omega)
      · exact no (by rw [mc]; omega)
theorem e_grab {n : Nat} {M : Mem} {H : Int} {p : Nat} (hn : 2000 ≤ n) (wf : WF H (vw M 22)) (hp : p < 5) :
    Ok (m_X0_grab n M (p : Int)) (fun _ M' => vw M' 22 = grabS p (vw M 22 0 7).toNat 0 (grabsS (vw M 22 7 p) (vw M 22 8 p)) (vw M 22) ∧ ∀ q j, q ≠ 28 → M' q j = M q j) := by
  have b := sW wf
  have q := pW wf hp
  simp only [Nat.reduceAdd] at q
  have gb := grabsS_b (k := rd M 29 p) q.2.2.1
  have := e_grab_30 (n := n) (T := (rd M 22 7).toNat) hp (by omega) (rd M 22 7).toNat n 0 (grabsS (vw M 22 7 p) (vw M 22 8 p)) M (by omega) (by omega) (by omega) wf (by rw [q.1.1, q.1.2.1]; omega) (by rw [q.1.1, q.1.2.1]; omega)
  unfold m_X0_grab
  simp only [Int.toNat_natCast]
  rw [b.1.2.1]
  rw [q.1.1, q.1.2.1] at this ⊢
  repeat (first
      | with_reducible refine Ok_g (by first | assumption | omega) ?_
      | with_reducible refine Ok_lt ?_
      | with_reducible refine Ok_t (by first | assumption | omega) ?_
      | with_reducible refine Ok_f (by first | assumption | omega) ?_)
  refine Ok_be (e_X1_grabs (rd_rng _ _ _) q.2.2.1) ?_
  exact this
/-- one person's turn, then the rest -/
theorem e_goOn_34 {n : Nat} {H : Int} {P : Nat} {N a2 : Int} {k6 : Mem → Int → Int → Rs} {Post : Int → Mem → Prop} (hn : 2000 ≤ n) (hP : P ≤ 5) : ∀ k t (i : Nat) M, i + k = P → k < t → rd M 22 12 = P → WF H (vw M 22) → Lk M →
    (∀ M', vw M' 22 = frm (fun p u => personS p u) k i (vw M 22) → (∀ q j, q ≠ 28 → q ≠ 32 → M' q j = M q j) → Lk M' → Ok (k6 M' N (a2 + 1)) Post) → Ok (m_X0_goOn_34 n k6 t M N a2 (i : Int)) Post := by
  intro k
  induction k with
  | zero =>
    intro t i M hi ht h7 wf lk hk
    cases t with
    | zero => omega
    | succ t =>
      rw [m_X0_goOn_34]
      repeat (first
          | with_reducible refine Ok_g (by first | assumption | omega) ?_
          | with_reducible refine Ok_lt ?_
          | with_reducible refine Ok_t (by first | assumption | omega) ?_
          | with_reducible refine Ok_f (by first | assumption | omega) ?_)
      exact hk M rfl (fun _ _ _ _ => rfl) lk
  | succ k ih =>
    intro t i M hi ht h7 wf lk hk
    cases t with
    | zero => omega
    | succ t =>
      have q := pW wf (i := i) (by omega)
      simp only [Nat.reduceAdd] at q
      have gb := goalS_b wf i (vw M 22 0 13)
      rw [m_X0_goOn_34]
      repeat (first
          | with_reducible refine Ok_g (by first | assumption | omega) ?_
          | with_reducible refine Ok_lt ?_
          | with_reducible refine Ok_t (by first | assumption | omega) ?_
          | with_reducible refine Ok_f (by first | assumption | omega) ?_)
      refine Ok_be (e_goal hn wf lk (by omega)) ?_
      refine Ok_be (e_walk hn wf (by omega) gb) ?_
      have wb := walkS_b gb (paceS (vw M 22 7 i) (vw M 22 8 i)).toNat (vw M 22 10 i) (wFp wf i).2.2.2
      obtain ⟨w, hw⟩ : ∃ w, w = walkS (goalS (vw M 22) i (vw M 22 0 13)) (paceS (vw M 22 7 i) (vw M 22 8 i)).toNat (vw M 22 10 i) := ⟨_, rfl⟩
      rw [← hw] at wb ⊢
      have e : vw (mup M 32 i w) 22 = uset (vw M 22) 10 i w := vw_set (w := 22) (k := 10) (by omega) (by decide) (by decide) (by decide) (show i < 5 by omega)
      have wf1 : WF H (vw (mup M 32 i w) 22) := by rw [e]; exact WF_set wf 10 i wb.1 wb.2
      have lk1 : Lk (mup M 32 i w) := Lk_keep lk (fun _ => by rw [mup_ne _ (by decide)]) (by rw [mup_ne _ (by decide)]) (by rw [mup_ne _ (by decide)]) (by rw [e]; exact SameF_of (fun k j _ h _ => uset_nk _ _ h))
      simp only [Int.toNat_natCast]
      rw [rd_ups _ _ _ (by omega)]
      repeat (first
          | with_reducible refine Ok_g (by first | assumption | omega) ?_
          | with_reducible refine Ok_lt ?_
          | with_reducible refine Ok_t (by first | assumption | omega) ?_
          | with_reducible refine Ok_f (by first | assumption | omega) ?_)
      refine Ok_be (e_isInFog hn wf1 lk1 wb) ?_
      have ps : ∀ x : US, x = (if vw (mup M 32 i w) 22 0 14 ≤ fogS (vw (mup M 32 i w) 22) w then grabS i (vw (mup M 32 i w) 22 0 7).toNat 0 (grabsS (vw (mup M 32 i w) 22 7 i) (vw (mup M 32 i w) 22 8 i)) (vw (mup M 32 i w) 22) else vw (mup M 32 i w) 22) → x = personS i (vw M 22) := by
        intro x hx
        rw [hx, e]
        unfold personS
        simp only [← hw, uset_same]
      by_cases g : vw (mup M 32 i w) 22 0 14 ≤ fogS (vw (mup M 32 i w) 22) w
      · rw [if_pos g] at ps ⊢
        repeat (first
            | with_reducible refine Ok_g (by first | assumption | omega) ?_
            | with_reducible refine Ok_lt ?_
            | with_reducible refine Ok_t (by first | assumption | omega) ?_
            | with_reducible refine Ok_f (by first | assumption | omega) ?_)
        refine Ok_bd (e_grab hn wf1 (by omega)) ?_
        rintro _ M2 ⟨v2, f2⟩
        have v3 := ps _ v2
        have c22 : rd M2 22 12 = rd M 22 12 := by rw [rd_of (f2 _ _ (by decide)), rd_upne _ _ _ _ _ _ (by omega)]
        have wf2 : WF H (vw M2 22) := by rw [v3]; exact personS_wf wf (by omega)
        have lk2 : Lk M2 := Lk_keep lk1 (fun _ => f2 _ _ (by decide)) (f2 _ _ (by decide)) (f2 _ _ (by decide)) (by rw [v3, e]; exact SameF_of (fun k j h1 h2 _ => by rw [personS_o _ _ h1 h2, uset_nk _ _ h2]))
        refine ih t (i + 1) M2 (by omega) (by omega) (by rw [c22]; exact h7) wf2 lk2 ?_
        intro M' h1 h2 h3
        refine hk M' (by rw [h1, v3]; rfl) (fun q j a b => by rw [h2 q j a b, f2 q j a, mup_ne _ b]) h3
      · rw [if_neg g] at ps ⊢
        repeat (first
            | with_reducible refine Ok_g (by first | assumption | omega) ?_
            | with_reducible refine Ok_lt ?_
            | with_reducible refine Ok_t (by first | assumption | omega) ?_
            | with_reducible refine Ok_f (by first | assumption | omega) ?_)
        have v3 := ps _ rfl
        refine ih t (i + 1) _ (by omega) (by omega) (by rw [rd_upne _ _ _ _ _ _ (by omega)]; exact h7) wf1 lk1 ?_
        intro M' h1 h2 h3
        refine hk M' (by rw [h1, v3]; rfl) (fun q j a b => by rw [h2 q j a b, mup_ne _ b]) h3
theorem e_goOn_6 {n N : Nat} (hn : 2000 ≤ n) : ∀ k t (i : Nat) (H : Int) M, i + k = N → k < t → N ≤ 1000 → H + k ≤ 1000000 → SkyOk M → WF H (vw M 22) → Lk M →
    Ok (m_X0_goOn_6 n t M (N : Int) (i : Int)) (fun _ M' => vw M' 22 = frm (fun _ u => hourS u) k i (vw M 22) ∧ SkyOk M' ∧ Lk M' ∧ ∀ q j, (q < 22 ∨ (32 < q ∧ q < 121) ∨ 128 < q) → (q = 129 → j ≠ 2) → M' q j = M q j) := by
  intro k
  induction k with
  | zero =>
    intro t i H M hi ht hN hH sk wf lk
    cases t with
    | zero => omega
    | succ t =>
      rw [m_X0_goOn_6]
      repeat (first
          | with_reducible refine Ok_g (by first | assumption | omega) ?_
          | with_reducible refine Ok_lt ?_
          | with_reducible refine Ok_t (by first | assumption | omega) ?_
          | with_reducible refine Ok_f (by first | assumption | omega) ?_)
      exact Ok_ret ⟨rfl, sk, lk, fun _ _ _ _ => rfl⟩
  | succ k ih =>
    intro t i H M hi ht hN hH sk wf lk
    cases t with
    | zero => omega
    | succ t =>
      have b := sW wf
      rw [m_X0_goOn_6]
      repeat (first
          | with_reducible refine Ok_g (by first | assumption | omega) ?_
          | with_reducible refine Ok_lt ?_
          | with_reducible refine Ok_wr ?_
          | with_reducible refine Ok_t (by first | assumption | omega) ?_
          | with_reducible refine Ok_f (by first | assumption | omega) ?_)
      have e1 : vw (mup M 22 13 (rd M 22 13 + 1)) 22 = uset (vw M 22) 0 13 (vw M 22 0 13 + 1) := by
        rw [vw_sets (by omega) (by omega) (by omega), b.1.2.2.2.1]
      have wf1 : WF (H + 1) (vw (mup M 22 13 (rd M 22 13 + 1)) 22) := by
        rw [e1, b.1.2.2.2.1]
        exact WF_set (WF_le wf (by omega)) 0 13 (by show (0 : Int) ≤ _; omega) (by show _ ≤ H + 1; omega)
      refine Ok_bd (e_look (H := H + 1) hn (SkyOk_keep sk (fun q i _ _ => by rw [mup_ne _ (by omega)])) wf1 (by omega)) ?_
      rintro _ M2 ⟨s2, l2, v2, f2⟩
      refine Ok_bd (e_drop (H := H + 1) hn (by rw [v2]; exact wf1) l2) ?_
      rintro _ M3 ⟨v3, f3⟩
      have wf2 : WF (H + 1) (vw M2 22) := by rw [v2]; exact wf1
      have wf3 : WF (H + 1) (vw M3 22) := by rw [v3]; exact dropS_wf wf2
      have l3 : Lk M3 := Lk_keep l2 (fun _ => f3 _ _ (by decide)) (f3 _ _ (by decide)) (f3 _ _ (by decide)) (by rw [v3]; exact SameF_of (fun k j h _ _ => dropS_o _ h))
      have c12 : rd M3 22 12 = rd M 22 12 := by rw [rd_of (f3 _ _ (by decide)), rd_of (f2 _ _ (by omega) (by omega)), rd_upne _ _ _ _ _ _ (by omega)]
      refine e_goOn_34 (P := (rd M 22 12).toNat) hn (by omega) (rd M 22 12).toNat n 0 M3 (by omega) (by omega) (by rw [c12]; omega) wf3 l3 ?_
      intro M4 v4 f4 l4
      have e4 : vw M4 22 = hourS (vw M 22) := by
        rw [v4, v3, v2, e1]
        unfold hourS
        rw [b.1.2.2.1]
      have s3 : SkyOk M3 := SkyOk_keep s2 (fun q i _ _ => f3 q i (by omega))
      have s4 : SkyOk M4 := SkyOk_keep s3 (fun q i _ _ => f4 q i (by omega) (by omega))
      refine Ok_mono (ih t (i + 1) (H + 1) M4 (by omega) (by omega) hN (by omega) s4 (by rw [e4]; exact hourS_wf wf) l4) ?_
      rintro _ M5 ⟨v5, s5, l5, f5⟩
      refine ⟨by rw [v5, e4]; rfl, s5, l5, fun q j h1 h2 => ?_⟩
      rw [f5 q j h1 h2, f4 q j (by omega) (by omega), f3 q j (by omega), f2 q j (by omega) h2]
      show (if q = 22 ∧ j = 13 then _ else _) = _
      rw [if_neg (by omega)]
/-- n hours on in mind -/
theorem e_goOn {n : Nat} {H : Int} {M : Mem} {N : Int} (hn : 2000 ≤ n) (hN : 0 ≤ N ∧ N ≤ 1000) (hH : H + N ≤ 1000000) (sk : SkyOk M) (wf : WF H (vw M 22)) :
    Ok (m_X0_goOn n M N) (fun _ M' => vw M' 22 = hoursS N.toNat (vw M 22) ∧ SkyOk M' ∧ Lk M' ∧ ∀ q j, (q < 22 ∨ (32 < q ∧ q < 121) ∨ 128 < q) → (q = 129 → j ≠ 2) → M' q j = M q j) := by
  unfold m_X0_goOn
  refine Ok_bd (e_look hn sk wf (by omega)) ?_
  rintro _ M1 ⟨s1, l1, v1, f1⟩
  have := e_goOn_6 (N := N.toNat) hn N.toNat n 0 H M1 (by omega) (by omega) (by omega) (by omega) s1 (by rw [v1]; exact wf) l1
  rw [show ((N.toNat : Nat) : Int) = N by omega] at this
  refine Ok_mono this ?_
  rintro _ M2 ⟨v2, s2, l2, f2⟩
  exact ⟨by rw [v2, v1]; rfl, s2, l2, fun q j h1 h2 => by rw [f2 q j h1 h2, f1 q j (by omega) h2]⟩
