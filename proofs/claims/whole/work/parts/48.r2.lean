/-! the second side: where one goes, what he grabs, hours -/
theorem r_far {n : Nat} {M : Mem} {a b : Int} (ha : 0 ≤ a ∧ a ≤ 23) (hb : 0 ≤ b ∧ b ≤ 23) : m_X6_far n M a b = some (farS a b, M) := by
  refine Ok_eq ?_
  unfold m_X6_far
  rw [td ha.1, td hb.1, tm ha.1, tm hb.1]
  repeat (first
      | with_reducible refine Ok_g (by first | assumption | omega) ?_
      | with_reducible refine Ok_lt ?_
      | with_reducible refine Ok_t (by first | assumption | omega) ?_
      | with_reducible refine Ok_f (by first | assumption | omega) ?_)
  refine Ok_be (r_apart (by omega) (by omega)) ?_
  refine Ok_be (r_apart (by omega) (by omega)) ?_
  exact Ok_ret ⟨rfl, rfl⟩
theorem r_child_5 {n : Nat} {M : Mem} {H : Int} {p T : Nat} (wf : WF H (vw M 137)) (hT : rd M 137 7 = T) (hp : p < 5) : ∀ k t (i : Nat) (best sb : Int), i + k = T → k < t → (best < 0 ∧ sb = -1 ∨ 0 ≤ best ∧ sb = best) → -9 ≤ best ∧ (best < i ∨ best < 0) →
    m_X6_goalAsChild_5 n t M (p : Int) best (i : Int) = some ((fun x => if x < 0 then vw M 137 9 p else vw M 137 5 x.toNat) (frm (fun t best => if vw M 137 6 t < 0 ∧ (best < 0 ∨ farS (vw M 137 5 t) (vw M 137 10 p) < farS (vw M 137 5 best.toNat) (vw M 137 10 p)) then (t : Int) else best) k i sb), M) := by
  have b := sW wf
  have q := pW wf hp
  simp only [Nat.reduceAdd] at q
  intro k
  induction k with
  | zero =>
    intro t i v s hi ht hs hv
    cases t with
    | zero => omega
    | succ t =>
      refine Ok_eq ?_
      rw [m_X6_goalAsChild_5, frm]
      simp only [Int.toNat_natCast]
      repeat (first
          | with_reducible refine Ok_g (by first | assumption | omega) ?_
          | with_reducible refine Ok_lt ?_
          | with_reducible refine Ok_t (by first | assumption | omega) ?_
          | with_reducible refine Ok_f (by first | assumption | omega) ?_)
      refine Ok_if (fun g => ?_) (fun g => ?_)
      · have p1 := tR wf (i := v.toNat) (by omega)
        repeat (first
            | with_reducible refine Ok_g (by first | assumption | omega) ?_
            | with_reducible refine Ok_lt ?_
            | with_reducible refine Ok_t (by first | assumption | omega) ?_
            | with_reducible refine Ok_f (by first | assumption | omega) ?_)
        refine Ok_ret ⟨?_, rfl⟩
        show _ = if s < 0 then _ else _
        rw [if_neg (by omega), show s = v by omega, p1.1.2.1]
      · repeat (first
            | with_reducible refine Ok_g (by first | assumption | omega) ?_
            | with_reducible refine Ok_lt ?_
            | with_reducible refine Ok_t (by first | assumption | omega) ?_
            | with_reducible refine Ok_f (by first | assumption | omega) ?_)
        refine Ok_ret ⟨?_, rfl⟩
        show _ = if s < 0 then _ else _
        rw [if_pos (by omega), q.1.2.2.1]
  | succ k ih =>
    intro t i v s hi ht hs hv
    cases t with
    | zero => omega
    | succ t =>
      have p1 := tR wf (i := i) (by omega)
      refine Ok_eq ?_
      rw [m_X6_goalAsChild_5, frm]
      simp only [Int.toNat_natCast]
      unfold m_X6_goalAsChild_59
      repeat (first
          | with_reducible refine Ok_g (by first | assumption | omega) ?_
          | with_reducible refine Ok_lt ?_
          | with_reducible refine Ok_t (by first | assumption | omega) ?_
          | with_reducible refine Ok_f (by first | assumption | omega) ?_)
      have no : ¬ (vw M 137 6 i < 0 ∧ (s < 0 ∨ farS (vw M 137 5 i) (vw M 137 10 p) < farS (vw M 137 5 s.toNat) (vw M 137 10 p))) → Ok (m_X6_goalAsChild_5 n t M (p : Int) v ((i : Int) + 1)) (fun r M' => r = (fun x => if x < 0 then vw M 137 9 p else vw M 137 5 x.toNat) (frm (fun t best => if vw M 137 6 t < 0 ∧ (best < 0 ∨ farS (vw M 137 5 t) (vw M 137 10 p) < farS (vw M 137 5 best.toNat) (vw M 137 10 p)) then (t : Int) else best) k (i + 1) (if vw M 137 6 i < 0 ∧ (s < 0 ∨ farS (vw M 137 5 i) (vw M 137 10 p) < farS (vw M 137 5 s.toNat) (vw M 137 10 p)) then (i : Int) else s)) ∧ M' = M) := by
        intro h
        rw [if_neg h]
        exact Ok_of (ih t (i + 1) v s (by omega) (by omega) hs (by omega)) ⟨rfl, rfl⟩
      have yes : (vw M 137 6 i < 0 ∧ (s < 0 ∨ farS (vw M 137 5 i) (vw M 137 10 p) < farS (vw M 137 5 s.toNat) (vw M 137 10 p))) → Ok (m_X6_goalAsChild_5 n t M (p : Int) (i : Int) ((i : Int) + 1)) (fun r M' => r = (fun x => if x < 0 then vw M 137 9 p else vw M 137 5 x.toNat) (frm (fun t best => if vw M 137 6 t < 0 ∧ (best < 0 ∨ farS (vw M 137 5 t) (vw M 137 10 p) < farS (vw M 137 5 best.toNat) (vw M 137 10 p)) then (t : Int) else best) k (i + 1) (if vw M 137 6 i < 0 ∧ (s < 0 ∨ farS (vw M 137 5 i) (vw M 137 10 p) < farS (vw M 137 5 s.toNat) (vw M 137 10 p)) then (i : Int) else s)) ∧ M' = M) := by
        intro h
        rw [if_pos h]
        exact Ok_of (ih t (i + 1) (i : Int) (i : Int) (by omega) (by omega) (by omega) (by omega)) ⟨rfl, rfl⟩
      refine Ok_if (fun g => ?_) (fun g => ?_)
      · exact no (by omega)
      · repeat (first
            | with_reducible refine Ok_g (by first | assumption | omega) ?_
            | with_reducible refine Ok_lt ?_
            | with_reducible refine Ok_t (by first | assumption | omega) ?_
            | with_reducible refine Ok_f (by first | assumption | omega) ?_)
        refine Ok_if (fun g2 => ?_) (fun g2 => ?_)
        · exact yes ⟨by omega, .inl (by omega)⟩
        · have p2 := tR wf (i := v.toNat) (by omega)
          repeat (first
              | with_reducible refine Ok_g (by first | assumption | omega) ?_
              | with_reducible refine Ok_lt ?_
              | with_reducible refine Ok_t (by first | assumption | omega) ?_
              | with_reducible refine Ok_f (by first | assumption | omega) ?_)
          refine Ok_be (r_far p1.2.2.1 q.2.2.2.2) ?_
          repeat (first
              | with_reducible refine Ok_g (by first | assumption | omega) ?_
              | with_reducible refine Ok_lt ?_
              | with_reducible refine Ok_t (by first | assumption | omega) ?_
              | with_reducible refine Ok_f (by first | assumption | omega) ?_)
          refine Ok_be (r_far p2.2.2.1 q.2.2.2.2) ?_
          have f1 := farS_b p1.2.2.1 q.2.2.2.2
          have f2 := farS_b p2.2.2.1 q.2.2.2.2
          have sv' : s = v := by omega
          subst sv'
          repeat (first
              | with_reducible refine Ok_g (by first | assumption | omega) ?_
              | with_reducible refine Ok_lt ?_
              | with_reducible refine Ok_t (by first | assumption | omega) ?_
              | with_reducible refine Ok_f (by first | assumption | omega) ?_)
          refine Ok_if (fun g3 => ?_) (fun g3 => ?_)
          · exact no (by rw [p1.1.2.1, p2.1.2.1, q.1.2.2.2]; omega)
          · exact yes (by rw [p1.1.2.1, p2.1.2.1, q.1.2.2.2]; omega)
theorem r_child {n : Nat} {M : Mem} {H : Int} {p : Nat} (hn : 2000 ≤ n) (wf : WF H (vw M 137)) (hp : p < 5) : m_X6_goalAsChild n M (p : Int) = some (childS (vw M 137) p, M) := by
  have b := sW wf
  have := r_child_5 (n := n) (T := (rd M 137 7).toNat) wf (by omega) hp (rd M 137 7).toNat n 0 (-9) (-1) (by omega) (by omega) (by omega) (by omega)
  unfold m_X6_goalAsChild childS nearS
  rw [b.1.2.1]
  exact this
theorem r_thief_5 {n : Nat} {M : Mem} {H : Int} {p T : Nat} (hn : 2000 ≤ n) (wf : WF H (vw M 137)) (hT : rd M 137 7 = T) (hp : p < 5) : ∀ k t (i : Nat) (best sb : Int), i + k = T → k < t → (best < 0 ∧ sb = -1 ∨ 0 ≤ best ∧ sb = best) → -9 ≤ best ∧ (best < i ∨ best < 0) →
    m_X6_goalAsThief_5 n t M (p : Int) best (i : Int) = some ((fun x => if x < 0 then childS (vw M 137) p else vw M 137 5 x.toNat) (frm (fun t best => if vw M 137 6 t ≠ (p : Int) ∧ (best < 0 ∨ vw M 137 4 best.toNat < vw M 137 4 t) then (t : Int) else best) k i sb), M) := by
  have b := sW wf
  intro k
  induction k with
  | zero =>
    intro t i v s hi ht hs hv
    cases t with
    | zero => omega
    | succ t =>
      refine Ok_eq ?_
      rw [m_X6_goalAsThief_5, frm]
      repeat (first
          | with_reducible refine Ok_g (by first | assumption | omega) ?_
          | with_reducible refine Ok_lt ?_
          | with_reducible refine Ok_t (by first | assumption | omega) ?_
          | with_reducible refine Ok_f (by first | assumption | omega) ?_)
      refine Ok_if (fun g => ?_) (fun g => ?_)
      · have p1 := tR wf (i := v.toNat) (by omega)
        repeat (first
            | with_reducible refine Ok_g (by first | assumption | omega) ?_
            | with_reducible refine Ok_lt ?_
            | with_reducible refine Ok_t (by first | assumption | omega) ?_
            | with_reducible refine Ok_f (by first | assumption | omega) ?_)
        refine Ok_ret ⟨?_, rfl⟩
        show _ = if s < 0 then _ else _
        rw [if_neg (by omega), show s = v by omega, p1.1.2.1]
      · refine Ok_be (r_child hn wf hp) (Ok_ret ⟨?_, rfl⟩)
        show _ = if s < 0 then _ else _
        rw [if_pos (by omega)]
  | succ k ih =>
    intro t i v s hi ht hs hv
    cases t with
    | zero => omega
    | succ t =>
      have p1 := tR wf (i := i) (by omega)
      refine Ok_eq ?_
      rw [m_X6_goalAsThief_5, frm]
      simp only [Int.toNat_natCast]
      unfold m_X6_goalAsThief_42
      repeat (first
          | with_reducible refine Ok_g (by first | assumption | omega) ?_
          | with_reducible refine Ok_lt ?_
          | with_reducible refine Ok_t (by first | assumption | omega) ?_
          | with_reducible refine Ok_f (by first | assumption | omega) ?_)
      have no : ¬ (vw M 137 6 i ≠ (p : Int) ∧ (s < 0 ∨ vw M 137 4 s.toNat < vw M 137 4 i)) → Ok (m_X6_goalAsThief_5 n t M (p : Int) v ((i : Int) + 1)) (fun r M' => r = (fun x => if x < 0 then childS (vw M 137) p else vw M 137 5 x.toNat) (frm (fun t best => if vw M 137 6 t ≠ (p : Int) ∧ (best < 0 ∨ vw M 137 4 best.toNat < vw M 137 4 t) then (t : Int) else best) k (i + 1) (if vw M 137 6 i ≠ (p : Int) ∧ (s < 0 ∨ vw M 137 4 s.toNat < vw M 137 4 i) then (i : Int) else s)) ∧ M' = M) := by
        intro h
        rw [if_neg h]
        exact Ok_of (ih t (i + 1) v s (by omega) (by omega) hs (by omega)) ⟨rfl, rfl⟩
      have yes : (vw M 137 6 i ≠ (p : Int) ∧ (s < 0 ∨ vw M 137 4 s.toNat < vw M 137 4 i)) → Ok (m_X6_goalAsThief_5 n t M (p : Int) (i : Int) ((i : Int) + 1)) (fun r M' => r = (fun x => if x < 0 then childS (vw M 137) p else vw M 137 5 x.toNat) (frm (fun t best => if vw M 137 6 t ≠ (p : Int) ∧ (best < 0 ∨ vw M 137 4 best.toNat < vw M 137 4 t) then (t : Int) else best) k (i + 1) (if vw M 137 6 i ≠ (p : Int) ∧ (s < 0 ∨ vw M 137 4 s.toNat < vw M 137 4 i) then (i : Int) else s)) ∧ M' = M) := by
        intro h
        rw [if_pos h]
        exact Ok_of (ih t (i + 1) (i : Int) (i : Int) (by omega) (by omega) (by omega) (by omega)) ⟨rfl, rfl⟩
      refine Ok_if (fun g => ?_) (fun g => ?_)
      · exact no (by omega)
      · repeat (first
            | with_reducible refine Ok_g (by first | assumption | omega) ?_
            | with_reducible refine Ok_lt ?_
            | with_reducible refine Ok_t (by first | assumption | omega) ?_
            | with_reducible refine Ok_f (by first | assumption | omega) ?_)
        refine Ok_if (fun g2 => ?_) (fun g2 => ?_)
        · exact yes ⟨by omega, .inl (by omega)⟩
        · have p2 := tR wf (i := v.toNat) (by omega)
          have sv' : s = v := by omega
          subst sv'
          repeat (first
              | with_reducible refine Ok_g (by first | assumption | omega) ?_
              | with_reducible refine Ok_lt ?_
              | with_reducible refine Ok_t (by first | assumption | omega) ?_
              | with_reducible refine Ok_f (by first | assumption | omega) ?_)
          refine Ok_if (fun g3 => ?_) (fun g3 => ?_)
          · exact no (by rw [p1.1.1, p2.1.1]; omega)
          · exact yes (by rw [p1.1.1, p2.1.1]; omega)
theorem r_thief {n : Nat} {M : Mem} {H : Int} {p : Nat} (hn : 2000 ≤ n) (wf : WF H (vw M 137)) (hp : p < 5) : m_X6_goalAsThief n M (p : Int) = some (thiefS (vw M 137) p, M) := by
  have b := sW wf
  have := r_thief_5 (n := n) (T := (rd M 137 7).toNat) hn wf (by omega) hp (rd M 137 7).toNat n 0 (-9) (-1) (by omega) (by omega) (by omega) (by omega)
  unfold m_X6_goalAsThief thiefS richS
  rw [b.1.2.1]
  exact this
theorem r_lawyer_4 {n : Nat} {H h : Int} (hn : 2000 ≤ n) (hh : 0 ≤ h ∧ h ≤ 1000000) : ∀ k t (i : Nat) (best : Int) M, i + k = 23 → k < t → 0 ≤ best ∧ best ≤ 23 → WF H (vw M 137) →
    Ok (m_X6_goalAsLawyer_4 n t M h best ((i + 1 : Nat) : Int)) (fun r M' => r = frm (fun c best => if airOS (vw M 137) best h < airOS (vw M 137) (c + 1 : Nat) h then ((c + 1 : Nat) : Int) else best) k i best ∧ KA M M') := by
  intro k
  induction k with
  | zero =>
    intro t i v M hi ht hv wf
    cases t with
    | zero => omega
    | succ t =>
      rw [m_X6_goalAsLawyer_4]
      repeat (first
          | with_reducible refine Ok_g (by first | assumption | omega) ?_
          | with_reducible refine Ok_lt ?_
          | with_reducible refine Ok_t (by first | assumption | omega) ?_
          | with_reducible refine Ok_f (by first | assumption | omega) ?_)
      exact Ok_ret ⟨rfl, KA_refl M⟩
  | succ k ih =>
    intro t i v M hi ht hv wf
    cases t with
    | zero => omega
    | succ t =>
      have a1 := airOS_b wf v h
      have a2 := airOS_b wf ((i + 1 : Nat) : Int) h
      rw [m_X6_goalAsLawyer_4, frm]
      unfold m_X6_goalAsLawyer_30
      repeat (first
          | with_reducible refine Ok_g (by first | assumption | omega) ?_
          | with_reducible refine Ok_lt ?_
          | with_reducible refine Ok_t (by first | assumption | omega) ?_
          | with_reducible refine Ok_f (by first | assumption | omega) ?_)
      refine Ok_bd (r_airIn hn wf (by omega) hh) ?_
      rintro x M1 ⟨ex, k1⟩
      have e1 := vwA k1
      refine Ok_bd (r_airIn (H := H) hn (by rw [e1]; exact wf) (by omega) hh) ?_
      rintro y M2 ⟨ey, k2⟩
      have e2 := vwA k2
      rw [e1] at ey e2
      rw [← ey, ← ex]
      rw [← ey] at a1
      rw [← ex] at a2
      repeat (first
          | with_reducible refine Ok_g (by first | assumption | omega) ?_
          | with_reducible refine Ok_lt ?_
          | with_reducible refine Ok_t (by first | assumption | omega) ?_
          | with_reducible refine Ok_f (by first | assumption | omega) ?_)
      refine Ok_if (fun g => ?_) (fun g => ?_)
      · rw [if_neg (by omega)]
        refine Ok_mono (ih t (i + 1) v M2 (by omega) (by omega) hv (by rw [e2]; exact wf)) ?_
        rintro r M' ⟨h1, h2⟩
        exact ⟨by rw [h1, e2], KA_trans k1 (KA_trans k2 h2)⟩
      · rw [if_pos (by omega)]
        refine Ok_mono (ih t (i + 1) ((i + 1 : Nat) : Int) M2 (by omega) (by omega) (by omega) (by rw [e2]; exact wf)) ?_
        rintro r M' ⟨h1, h2⟩
        exact ⟨by rw [h1, e2], KA_trans k1 (KA_trans k2 h2)⟩
theorem r_lawyer {n : Nat} {M : Mem} {H h : Int} (hn : 2000 ≤ n) (wf : WF H (vw M 137)) (hh : 0 ≤ h ∧ h ≤ 1000000) : Ok (m_X6_goalAsLawyer n M h) (fun r M' => r = airyS (vw M 137) h ∧ KA M M') := r_lawyer_4 hn hh 23 n 0 0 M (by omega) (by omega) (by omega) wf
theorem r_goal {n : Nat} {M : Mem} {H h : Int} {p : Nat} (hn : 2000 ≤ n) (wf : WF H (vw M 137)) (hh : 0 ≤ h ∧ h ≤ 1000000) (hp : p < 5) : Ok (m_X6_goal n M (p : Int) h) (fun r M' => r = goalS (vw M 137) p h ∧ KA M M') := by
  have q := pW wf hp
  simp only [Nat.reduceAdd] at q
  have m2 := em_rng (a := h) (b := 2) (by omega)
  unfold m_X6_goal goalS m_X6_goal_87 m_X6_goal_60
  simp only [Int.toNat_natCast, tm hh.1, q.1.1, q.1.2.2.1]
  repeat (first
      | with_reducible refine Ok_g (by first | assumption | omega) ?_
      | with_reducible refine Ok_lt ?_
      | with_reducible refine Ok_t (by first | assumption | omega) ?_
      | with_reducible refine Ok_f (by first | assumption | omega) ?_)
  refine Ok_if (fun g1 => ?_) (fun g1 => ?_)
  · exact Ok_be (r_child hn wf hp) (Ok_ret ⟨by rw [if_pos g1], KA_refl M⟩)
  refine Ok_if (fun g2 => ?_) (fun g2 => ?_)
  · exact Ok_be (r_thief hn wf hp) (Ok_ret ⟨by rw [if_neg g1, if_pos g2], KA_refl M⟩)
  refine Ok_if (fun g3 => ?_) (fun g3 => ?_)
  · repeat (first
        | with_reducible refine Ok_g (by first | assumption | omega) ?_
        | with_reducible refine Ok_lt ?_
        | with_reducible refine Ok_t (by first | assumption | omega) ?_
        | with_reducible refine Ok_f (by first | assumption | omega) ?_)
    exact Ok_ret ⟨by rw [if_neg g1, if_neg g2, if_neg (by omega), if_neg (by omega), if_neg (by omega)], KA_refl M⟩
  refine Ok_if (fun g4 => ?_) (fun g4 => ?_)
  · repeat (first
        | with_reducible refine Ok_g (by first | assumption | omega) ?_
        | with_reducible refine Ok_lt ?_
        | with_reducible refine Ok_t (by first | assumption | omega) ?_
        | with_reducible refine Ok_f (by first | assumption | omega) ?_)
    exact Ok_ret ⟨by rw [if_neg g1, if_neg g2, if_neg (by omega), if_neg (by omega), if_neg (by omega)], KA_refl M⟩
  refine Ok_if (fun g5 => ?_) (fun g5 => ?_)
  · refine Ok_bd (r_lawyer hn wf hh) ?_
    rintro r M1 ⟨e, k⟩
    exact Ok_ret ⟨by rw [if_neg g1, if_neg g2, if_pos g5, e], k⟩
  refine Ok_if (fun g6 => ?_) (fun g6 => ?_)
  · refine Ok_bd (r_lawyer hn wf hh) ?_
    rintro r M1 ⟨e, k⟩
    exact Ok_ret ⟨by rw [if_neg g1, if_neg g2, if_neg g5, if_pos g6, e], k⟩
  refine Ok_if (fun g7 => ?_) (fun g7 => ?_)
  · repeat (first
        | with_reducible refine Ok_g (by first | assumption | omega) ?_
        | with_reducible refine Ok_lt ?_
        | with_reducible refine Ok_t (by first | assumption | omega) ?_
        | with_reducible refine Ok_f (by first | assumption | omega) ?_)
    refine Ok_if (fun g8 => ?_) (fun g8 => ?_)
    · exact Ok_be (r_thief hn wf hp) (Ok_ret ⟨by rw [if_neg g1, if_neg g2, if_neg g5, if_neg g6, if_pos g7, if_pos g8], KA_refl M⟩)
    · exact Ok_ret ⟨by rw [if_neg g1, if_neg g2, if_neg g5, if_neg g6, if_pos g7, if_neg g8], KA_refl M⟩
  · repeat (first
        | with_reducible refine Ok_g (by first | assumption | omega) ?_
        | with_reducible refine Ok_lt ?_
        | with_reducible refine Ok_t (by first | assumption | omega) ?_
        | with_reducible refine Ok_f (by first | assumption | omega) ?_)
    exact Ok_ret ⟨by rw [if_neg g1, if_neg g2, if_neg g5, if_neg g6, if_neg g7], KA_refl M⟩
theorem r_nearer {n : Nat} {M : Mem} {c to : Int} (hc : 0 ≤ c ∧ c ≤ 23) (ht : 0 ≤ to ∧ to ≤ 23) : m_X6_nearer n M c to = some (stepS c to, M) := by
  refine Ok_eq ?_
  unfold m_X6_nearer
  rw [td hc.1, td ht.1]
  repeat' (first
      | with_reducible refine Ok_g (by first | assumption | omega) ?_
      | with_reducible refine Ok_lt ?_
      | with_reducible refine Ok_t (by first | assumption | omega) ?_
      | with_reducible refine Ok_f (by first | assumption | omega) ?_
      | with_reducible refine Ok_ret ?_
      | with_reducible refine Ok_if (fun _ => ?_) (fun _ => ?_))
  all_goals refine ⟨?_, rfl⟩
  all_goals unfold stepS
  all_goals omega
theorem r_mayTake {n : Nat} {M : Mem} {H : Int} {p t : Nat} (wf : WF H (vw M 137)) (hp : p < 5) (ht : t < 8) : m_X6_mayTake n M (p : Int) (t : Int) = some (if vw M 137 6 t ≠ (p : Int) ∧ (vw M 137 6 t < 0 ∨ (vw M 137 7 p = 2 ∧ vw M 137 4 t < vw M 137 8 p) ∨ (vw M 137 7 p = 7 ∧ vw M 137 4 t ≤ vw M 137 8 p)) then 1 else 0, M) := by
  have q := pW wf hp
  have p1 := tR wf ht
  simp only [Nat.reduceAdd] at q
  refine Ok_eq ?_
  unfold m_X6_mayTake m_X6_mayTake_48
  simp only [Int.toNat_natCast]
  rw [p1.1.1, q.1.1, q.1.2.1]
  repeat' (first
      | with_reducible refine Ok_g (by first | assumption | omega) ?_
      | with_reducible refine Ok_lt ?_
      | with_reducible refine Ok_t (by first | assumption | omega) ?_
      | with_reducible refine Ok_f (by first | assumption | omega) ?_
      | with_reducible refine Ok_ret ?_
      | with_reducible refine Ok_if (fun _ => ?_) (fun _ => ?_))
  all_goals refine ⟨?_, rfl⟩
  all_goals split <;> omega
def KG (M M' : Mem) : Prop := ∀ q i, q ≠ 143 → q ≠ 147 → q ≠ 149 → q ≠ 150 → (q = 137 → i ≠ 13) → M' q i = M q i
theorem KG_refl (M : Mem) : KG M M := fun _ _ _ _ _ _ _ => rfl
theorem KG_trans {M M1 M2 : Mem} (h : KG M M1) (h' : KG M1 M2) : KG M M2 := fun q i a b c d e => by rw [h' q i a b c d e, h q i a b c d e]
theorem KG_A {M M' : Mem} (h : KA M M') : KG M M' := fun q i _ _ c d _ => h q i c d
theorem KG_up {M : Mem} {q i : Nat} {v : Int} (h : q = 143 ∨ q = 147 ∨ (q = 137 ∧ i = 13)) : KG M (mup M q i v) := by
  intro a b c d e f g
  show (if a = q ∧ b = i then _ else _) = _
  rw [if_neg (by omega)]
theorem r_goes_68 {n : Nat} {H : Int} {p T : Nat} (hp : p < 5) (hT : T ≤ 8) : ∀ k t (i : Nat) (left : Int) M, i + k = T → k < t → rd M 137 7 = T → WF H (vw M 137) → left ≤ 100 → -100 ≤ left - k →
    Ok (m_X6_goesPerson_68 n t M (p : Int) left (i : Int)) (fun _ M' => vw M' 137 = grabS p k i left (vw M 137) ∧ KG M M') := by
  intro k
  induction k with
  | zero =>
    intro t i left M hi ht h7 wf h1 h2
    cases t with
    | zero => omega
    | succ t =>
      rw [m_X6_goesPerson_68]
      repeat (first
          | with_reducible refine Ok_g (by first | assumption | omega) ?_
          | with_reducible refine Ok_lt ?_
          | with_reducible refine Ok_t (by first | assumption | omega) ?_
          | with_reducible refine Ok_f (by first | assumption | omega) ?_)
      exact Ok_ret ⟨rfl, KG_refl M⟩
  | succ k ih =>
    intro t i left M hi ht h7 wf h1 h2
    cases t with
    | zero => omega
    | succ t =>
      have q := pW wf hp
      have p1 := tR wf (i := i) (by omega)
      simp only [Nat.reduceAdd] at q
      have mc : mayS (vw M 137) p i ↔ (rd M 142 i = rd M 147 p ∧ (vw M 137 6 i ≠ (p : Int) ∧ (vw M 137 6 i < 0 ∨ (vw M 137 7 p = 2 ∧ vw M 137 4 i < vw M 137 8 p) ∨ (vw M 137 7 p = 7 ∧ vw M 137 4 i ≤ vw M 137 8 p)))) := by
        unfold mayS
        rw [p1.1.2.1, q.1.2.2.2]
      rw [m_X6_goesPerson_68, grabS]
      simp only [Int.toNat_natCast]
      repeat (first
          | with_reducible refine Ok_g (by first | assumption | omega) ?_
          | with_reducible refine Ok_lt ?_
          | with_reducible refine Ok_t (by first | assumption | omega) ?_
          | with_reducible refine Ok_f (by first | assumption | omega) ?_)
      refine Ok_if (fun g => ?_) (fun g => ?_)
      · rw [if_pos g]
        exact Ok_ret ⟨rfl, KG_refl M⟩
      rw [if_neg g]
      have no : ¬ mayS (vw M 137) p i → Ok (m_X6_goesPerson_68 n t M (p : Int) left ((i : Int) + 1)) (fun _ M' => vw M' 137 = (if mayS (vw M 137) p i then grabS p k (i + 1) (left - 1) (uset (vw M 137) 6 i p) else grabS p k (i + 1) left (vw M 137)) ∧ KG M M') := by
        intro h
        rw [if_neg h]
        exact ih t (i + 1) left M (by omega) (by omega) h7 wf h1 (by omega)
      repeat (first
          | with_reducible refine Ok_g (by first | assumption | omega) ?_
          | with_reducible refine Ok_lt ?_
          | with_reducible refine Ok_t (by first | assumption | omega) ?_
          | with_reducible refine Ok_f (by first | assumption | omega) ?_)
      refine Ok_if (fun g1 => ?_) (fun g1 => ?_)
      · refine Ok_be (r_mayTake wf hp (by omega)) ?_
        by_cases g4 : vw M 137 6 i ≠ (p : Int) ∧ (vw M 137 6 i < 0 ∨ (vw M 137 7 p = 2 ∧ vw M 137 4 i < vw M 137 8 p) ∨ (vw M 137 7 p = 7 ∧ vw M 137 4 i ≤ vw M 137 8 p))
        · have m := mc.mpr ⟨g1, g4⟩
          rw [if_pos g4, if_pos m]
          repeat (first
              | with_reducible refine Ok_g (by first | assumption | omega) ?_
              | with_reducible refine Ok_lt ?_
              | with_reducible refine Ok_wr ?_
              | with_reducible refine Ok_t (by first | assumption | omega) ?_
              | with_reducible refine Ok_f (by first | assumption | omega) ?_)
          have e : vw (mup M 143 i (p : Int)) 137 = uset (vw M 137) 6 i p := by
            have := vw_set (M := M) (w := 137) (k := 6) (i := i) (v := (p : Int)) (by omega) (by decide) (by decide) (by decide) (show i < 8 by omega)
            rw [if_pos rfl, show ow 137 (p : Int) = p by unfold ow; omega] at this
            exact this
          have := ih t (i + 1) (left - 1) (mup M 143 i (p : Int)) (by omega) (by omega) (by rw [rd_upne _ _ _ _ _ _ (by omega)]; exact h7) (by rw [e]; exact WF_set wf 6 i (by show (-1 : Int) ≤ p; omega) (by show (p : Int) ≤ 4; omega)) (by omega) (by omega)
          rw [e] at this
          refine Ok_mono this ?_
          rintro _ M' ⟨v1, f1⟩
          exact ⟨v1, KG_trans (KG_up (.inl rfl)) f1⟩
        · rw [if_neg g4]
          repeat (first
              | with_reducible refine Ok_g (by first | assumption | omega) ?_
              | with_reducible refine Ok_lt ?_
              | with_reducible refine Ok_t (by first | assumption | omega) ?_
              | with_reducible refine Ok_f (by first | assumption | omega) ?_)
          exact no (fun z => g4 (mc.mp z).2)
      · exact no (fun z => g1 (mc.mp z).1)
theorem r_goes_16 {n : Nat} {H : Int} {p : Nat} {to : Int} (hn : 2000 ≤ n) (hp : p < 5) (hto : 0 ≤ to ∧ to ≤ 23) (hH : H ≤ 1000000) : ∀ (k t : Nat) M, k < t → k ≤ 100 → WF H (vw M 137) →
    Ok (m_X6_goesPerson_16 n t M (p : Int) to (k : Int)) (fun _ M' => vw M' 137 = (let u1 := uset (vw M 137) 10 p (walkS to k (vw M 137 10 p)); if u1 0 14 ≤ fogS u1 (u1 10 p) then grabS p (u1 0 7).toNat 0 (grabsS (u1 7 p) (u1 8 p)) u1 else u1) ∧ KG M M') := by
  intro k
  induction k with
  | zero =>
    intro t M ht hk wf
    cases t with
    | zero => omega
    | succ t =>
      have b := sW wf
      have q := pW wf hp
      simp only [Nat.reduceAdd] at q
      rw [m_X6_goesPerson_16]
      simp only [Int.toNat_natCast]
      have e0 : uset (vw M 137) 10 p (walkS to 0 (vw M 137 10 p)) = vw M 137 := uset_id _ _ _ rfl
      rw [e0]
      repeat (first
          | with_reducible refine Ok_g (by first | assumption | omega) ?_
          | with_reducible refine Ok_lt ?_
          | with_reducible refine Ok_t (by first | assumption | omega) ?_
          | with_reducible refine Ok_f (by first | assumption | omega) ?_)
      refine Ok_bd (r_isFoggy hn wf hH q.2.2.2.2) ?_
      rintro r M1 ⟨er, k1⟩
      have e1 := vwA k1
      have wf1 : WF H (vw M1 137) := by rw [e1]; exact wf
      have h7 : rd M1 137 7 = rd M 137 7 := rd_of (k1 _ _ (by decide) (by decide))
      subst er
      rw [q.1.2.2.2]
      by_cases g : vw M 137 0 14 ≤ fogS (vw M 137) (rd M 147 p)
      · simp only [if_pos g]
        repeat (first
            | with_reducible refine Ok_g (by first | assumption | omega) ?_
            | with_reducible refine Ok_lt ?_
            | with_reducible refine Ok_t (by first | assumption | omega) ?_
            | with_reducible refine Ok_f (by first | assumption | omega) ?_)
        refine Ok_be (r_grabs wf1 hp) ?_
        have gb := grabsS_b (k := vw M1 137 7 p) (wFp wf1 p).2.1
        refine Ok_mono (r_goes_68 (n := n) (T := (rd M 137 7).toNat) hp (by omega) (rd M 137 7).toNat n 0 _ M1 (by omega) (by omega) (by omega) wf1 (by omega) (by omega)) ?_
        rintro _ M2 ⟨v2, f2⟩
        exact ⟨by rw [v2, e1, b.1.2.1], KG_trans (KG_A k1) f2⟩
      · simp only [if_neg g]
        repeat (first
            | with_reducible refine Ok_g (by first | assumption | omega) ?_
            | with_reducible refine Ok_lt ?_
            | with_reducible refine Ok_t (by first | assumption | omega) ?_
            | with_reducible refine Ok_f (by first | assumption | omega) ?_)
        refine Ok_mono (r_goes_68 (n := n) (T := (rd M 137 7).toNat) hp (by omega) (rd M 137 7).toNat n 0 0 M1 (by omega) (by omega) (by omega) wf1 (by omega) (by omega)) ?_
        rintro _ M2 ⟨v2, f2⟩
        refine ⟨?_, KG_trans (KG_A k1) f2⟩
        rw [v2, e1]
        cases (rd M 137 7).toNat with
        | zero => rfl
        | succ m => rw [grabS, if_pos (Int.le_refl 0)]
  | succ k ih =>
    intro t M ht hk wf
    cases t with
    | zero => omega
    | succ t =>
      have q := pW wf hp
      simp only [Nat.reduceAdd] at q
      have sb := stepS_b q.2.2.2.2 hto
      rw [m_X6_goesPerson_16]
      simp only [Int.toNat_natCast]
      repeat (first
          | with_reducible refine Ok_g (by first | assumption | omega) ?_
          | with_reducible refine Ok_lt ?_
          | with_reducible refine Ok_t (by first | assumption | omega) ?_
          | with_reducible refine Ok_f (by first | assumption | omega) ?_)
      refine Ok_be (r_nearer q.2.2.2.2 hto) ?_
      refine Ok_wr ?_
      have e : vw (mup M 147 p (stepS (rd M 147 p) to)) 137 = uset (vw M 137) 10 p (stepS (rd M 147 p) to) := vw_set (w := 137) (k := 10) (by omega) (by decide) (by decide) (by decide) (show p < 5 by omega)
      rw [show ((k + 1 : Nat) : Int) + (-1) = (k : Int) by omega]
      refine Ok_mono (ih t _ (by omega) (by omega) (by rw [e]; exact WF_set wf 10 p sb.1 sb.2)) ?_
      rintro _ M' ⟨v1, f1⟩
      refine ⟨?_, KG_trans (KG_up (.inr (.inl rfl))) f1⟩
      rw [v1, e, uset_same, uset_twice]
      rw [q.1.2.2.2]
      rfl
theorem r_goesPerson {n : Nat} {H : Int} {M : Mem} {p : Nat} (hn : 2000 ≤ n) (wf : WF H (vw M 137)) (hH : H ≤ 1000000) (hp : p < 5) : Ok (m_X6_goesPerson n M (p : Int)) (fun _ M' => vw M' 137 = personS p (vw M 137) ∧ KG M M') := by
  have b := sW wf
  unfold m_X6_goesPerson
  refine Ok_bd (r_goal hn wf (by omega) hp) ?_
  rintro r M1 ⟨er, k1⟩
  have e1 := vwA k1
  have wf1 : WF H (vw M1 137) := by rw [e1]; exact wf
  have gb := goalS_b wf p (rd M 137 13)
  have pb := paceS_b (k := vw M1 137 7 p) (wFp wf1 p).2.1
  refine Ok_be (r_pace wf1 hp) ?_
  have := r_goes_16 (n := n) (to := r) hn hp (by omega) hH (paceS (vw M1 137 7 p) (vw M1 137 8 p)).toNat n M1 (by omega) (by omega) wf1
  rw [show (((paceS (vw M1 137 7 p) (vw M1 137 8 p)).toNat : Nat) : Int) = paceS (vw M1 137 7 p) (vw M1 137 8 p) by omega] at this
  refine Ok_mono this ?_
  rintro _ M2 ⟨v2, f2⟩
  refine ⟨?_, KG_trans (KG_A k1) f2⟩
  rw [v2, e1, er]
  unfold personS
  rw [b.1.2.2.2.1]
theorem r_goesHour_58 {n : Nat} {H : Int} {P : Nat} (hn : 2000 ≤ n) (hP : P ≤ 5) (hH : H ≤ 1000000) : ∀ k t (i : Nat) M, i + k = P → k < t → rd M 137 12 = P → WF H (vw M 137) →
    Ok (m_X6_goesHour_58 n t M (i : Int)) (fun _ M' => vw M' 137 = frm (fun p u => personS p u) k i (vw M 137) ∧ KG M M') := by
  intro k
  induction k with
  | zero =>
    intro t i M hi ht h7 wf
    cases t with
    | zero => omega
    | succ t =>
      rw [m_X6_goesHour_58]
      repeat (first
          | with_reducible refine Ok_g (by first | assumption | omega) ?_
          | with_reducible refine Ok_lt ?_
          | with_reducible refine Ok_t (by first | assumption | omega) ?_
          | with_reducible refine Ok_f (by first | assumption | omega) ?_)
      exact Ok_ret ⟨rfl, KG_refl M⟩
  | succ k ih =>
    intro t i M hi ht h7 wf
    cases t with
    | zero => omega
    | succ t =>
      rw [m_X6_goesHour_58]
      repeat (first
          | with_reducible refine Ok_g (by first | assumption | omega) ?_
          | with_reducible refine Ok_lt ?_
          | with_reducible refine Ok_t (by first | assumption | omega) ?_
          | with_reducible refine Ok_f (by first | assumption | omega) ?_)
      refine Ok_bd (r_goesPerson hn wf hH (by omega)) ?_
      rintro _ M1 ⟨v1, f1⟩
      refine Ok_mono (ih t (i + 1) M1 (by omega) (by omega) (by rw [rd_of (f1 _ _ (by decide) (by decide) (by decide) (by decide) (by omega))]; exact h7) (by rw [v1]; exact personS_wf wf (by omega))) ?_
      rintro _ M2 ⟨v2, f2⟩
      exact ⟨by rw [v2, v1]; rfl, KG_trans f1 f2⟩
theorem r_goesHour_12 {n : Nat} {H : Int} {P T : Nat} (hn : 2000 ≤ n) (hP : P ≤ 5) (hT : T ≤ 8) (hH : H ≤ 1000000) : ∀ k t (i : Nat) M, i + k = T → k < t → rd M 137 7 = T → rd M 137 12 = P → WF H (vw M 137) →
    Ok (m_X6_goesHour_12 n t M (i : Int)) (fun _ M' => vw M' 137 = frm (fun p u => personS p u) P 0 (frm (fun t u => if u 0 14 ≤ fogS u (u 5 t) then u else uset u 6 t (-1)) k i (vw M 137)) ∧ KG M M') := by
  intro k
  induction k with
  | zero =>
    intro t i M hi ht h7 h12 wf
    cases t with
    | zero => omega
    | succ t =>
      rw [m_X6_goesHour_12]
      repeat (first
          | with_reducible refine Ok_g (by first | assumption | omega) ?_
          | with_reducible refine Ok_lt ?_
          | with_reducible refine Ok_t (by first | assumption | omega) ?_
          | with_reducible refine Ok_f (by first | assumption | omega) ?_)
      exact r_goesHour_58 hn hP hH P n 0 M (by omega) (by omega) h12 wf
  | succ k ih =>
    intro t i M hi ht h7 h12 wf
    cases t with
    | zero => omega
    | succ t =>
      have p1 := tR wf (i := i) (by omega)
      rw [m_X6_goesHour_12]
      simp only [frm, Int.toNat_natCast]
      unfold m_X6_goesHour_49
      repeat (first
          | with_reducible refine Ok_g (by first | assumption | omega) ?_
          | with_reducible refine Ok_lt ?_
          | with_reducible refine Ok_t (by first | assumption | omega) ?_
          | with_reducible refine Ok_f (by first | assumption | omega) ?_)
      refine Ok_bd (r_isFoggy hn wf hH p1.2.2.1) ?_
      rintro r M1 ⟨er, k1⟩
      have e1 := vwA k1
      have wf1 : WF H (vw M1 137) := by rw [e1]; exact wf
      have c7 : rd M1 137 7 = T := by rw [rd_of (k1 _ _ (by decide) (by decide))]; exact h7
      have c12 : rd M1 137 12 = P := by rw [rd_of (k1 _ _ (by decide) (by decide))]; exact h12
      have c143 : rd M1 143 i = rd M 143 i := rd_of (k1 _ _ (by decide) (by decide))
      subst er
      rw [p1.1.2.1]
      have fin : ∀ v u, I32 v → u = uset (vw M 137) 6 i (ow 137 v) → WF H u → Ok (m_X6_goesHour_12 n t (mup M1 143 i v) ((i : Int) + 1)) (fun _ M' => vw M' 137 = frm (fun p u => personS p u) P 0 (frm (fun t u => if u 0 14 ≤ fogS u (u 5 t) then u else uset u 6 t (-1)) k (i + 1) u) ∧ KG M M') := by
        intro v u hv hu wu
        have e : vw (mup M1 143 i v) 137 = u := by
          rw [hu, ← e1]
          exact vw_set (w := 137) (k := 6) hv (by decide) (by decide) (by decide) (show i < 8 by omega)
        refine Ok_mono (ih t (i + 1) _ (by omega) (by omega) (by rw [rd_upne _ _ _ _ _ _ (by omega)]; exact c7) (by rw [rd_upne _ _ _ _ _ _ (by omega)]; exact c12) (by rw [e]; exact wu)) ?_
        rintro _ M2 ⟨v2, f2⟩
        exact ⟨by rw [v2, e], KG_trans (KG_A k1) (KG_trans (KG_up (.inl rfl)) f2)⟩
      by_cases g : vw M 137 0 14 ≤ fogS (vw M 137) (rd M 142 i)
      · rw [if_pos g, if_pos g]
        repeat (first
            | with_reducible refine Ok_g (by first | assumption | omega) ?_
            | with_reducible refine Ok_lt ?_
            | with_reducible refine Ok_wr ?_
            | with_reducible refine Ok_t (by first | assumption | omega) ?_
            | with_reducible refine Ok_f (by first | assumption | omega) ?_)
        simp only [Int.toNat_natCast]
        exact fin _ _ (rd_rng _ _ _) (by rw [c143]; exact (uset_id _ _ _ p1.1.2.2).symm) wf
      · rw [if_neg g, if_neg g]
        repeat (first
            | with_reducible refine Ok_g (by first | assumption | omega) ?_
            | with_reducible refine Ok_lt ?_
            | with_reducible refine Ok_wr ?_
            | with_reducible refine Ok_t (by first | assumption | omega) ?_
            | with_reducible refine Ok_f (by first | assumption | omega) ?_)
        simp only [Int.toNat_natCast]
        exact fin _ _ (by decide) (by rw [show ow 137 (-9) = -1 by decide]) (WF_set wf 6 i (Int.le_refl (-1)) (show (-1 : Int) ≤ 4 by decide))
theorem r_goesHour {n : Nat} {H : Int} {M : Mem} (hn : 2000 ≤ n) (wf : WF H (vw M 137)) (hH : H + 1 ≤ 1000000) : Ok (m_X6_goesHour n M) (fun _ M' => vw M' 137 = hourS (vw M 137) ∧ KG M M') := by
  have b := sW wf
  unfold m_X6_goesHour
  refine Ok_wr ?_
  have e : vw (mup M 137 13 (rd M 137 13 + 1)) 137 = uset (vw M 137) 0 13 (vw M 137 0 13 + 1) := by
    rw [b.1.2.2.2.1]
    exact vw_sets (by omega) (by omega) (by omega)
  have wf1 : WF (H + 1) (vw (mup M 137 13 (rd M 137 13 + 1)) 137) := by
    rw [e, b.1.2.2.2.1]
    exact WF_set (WF_le wf (by omega)) 0 13 (by show (0 : Int) ≤ _; omega) (by show _ ≤ H + 1; omega)
  refine Ok_mono (r_goesHour_12 (P := (rd M 137 12).toNat) (T := (rd M 137 7).toNat) hn (by omega) (by omega) hH (rd M 137 7).toNat n 0 _ (by omega) (by omega) (by rw [rd_upne _ _ _ _ _ _ (by omega)]; omega) (by rw [rd_upne _ _ _ _ _ _ (by omega)]; omega) wf1) ?_
  rintro _ M' ⟨v1, f1⟩
  refine ⟨?_, KG_trans (KG_up (by omega)) f1⟩
  rw [v1, e]
  unfold hourS dropS
  rw [uset_ni _ _ (by decide), b.1.2.1, b.1.2.2.1]
theorem r_goes_2 {n N : Nat} (hn : 2000 ≤ n) : ∀ k t (i : Nat) (H : Int) M, i + k = N → k < t → N ≤ 1000 → H + k ≤ 1000000 → WF H (vw M 137) →
    Ok (m_X6_goes_2 n t M (N : Int) (i : Int)) (fun _ M' => vw M' 137 = frm (fun _ u => hourS u) k i (vw M 137) ∧ KG M M') := by
  intro k
  induction k with
  | zero =>
    intro t i H M hi ht hN hH wf
    cases t with
    | zero => omega
    | succ t =>
      rw [m_X6_goes_2]
      repeat (first
          | with_reducible refine Ok_g (by first | assumption | omega) ?_
          | with_reducible refine Ok_lt ?_
          | with_reducible refine Ok_t (by first | assumption | omega) ?_
          | with_reducible refine Ok_f (by first | assumption | omega) ?_)
      exact Ok_ret ⟨rfl, KG_refl M⟩
  | succ k ih =>
    intro t i H M hi ht hN hH wf
    cases t with
    | zero => omega
    | succ t =>
      rw [m_X6_goes_2]
      repeat (first
          | with_reducible refine Ok_g (by first | assumption | omega) ?_
          | with_reducible refine Ok_lt ?_
          | with_reducible refine Ok_t (by first | assumption | omega) ?_
          | with_reducible refine Ok_f (by first | assumption | omega) ?_)
      refine Ok_bd (r_goesHour hn wf (by omega)) ?_
      rintro _ M1 ⟨v1, f1⟩
      refine Ok_mono (ih t (i + 1) (H + 1) M1 (by omega) (by omega) hN (by omega) (by rw [v1]; exact hourS_wf wf)) ?_
      rintro _ M2 ⟨v2, f2⟩
      exact ⟨by rw [v2, v1]; rfl, KG_trans f1 f2⟩
theorem r_goes {n : Nat} {H : Int} {M : Mem} {N : Int} (hn : 2000 ≤ n) (hN : 0 ≤ N ∧ N ≤ 1000) (hH : H + N ≤ 1000000) (wf : WF H (vw M 137)) :
    Ok (m_X6_goes n M N) (fun _ M' => vw M' 137 = hoursS N.toNat (vw M 137) ∧ KG M M') := by
  have := r_goes_2 (N := N.toNat) hn N.toNat n 0 H M (by omega) (by omega) (by omega) (by omega) wf
  rw [show ((N.toNat : Nat) : Int) = N by omega] at this
  exact this
