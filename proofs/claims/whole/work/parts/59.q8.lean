/-! counts, what kind, which front, two -/
theorem q_count {n : Nat} {M : Mem} {a : Int} (hn : 2000 ≤ n) (s : Sim M) (ha : I32 a) : Agr (m_X5_count n M a) (fun M1 => m_X6_count n M1 a) := by
  obtain ⟨wf0, vv0, rf0⟩ := sim_rf s (M1 := M) (fun _ _ _ => rfl)
  obtain ⟨b, fb, _, _, hb1, hb2, _, _⟩ := s.2.2.2.2.1
  have hl := s.2.2.2.2.2.2.1
  have hr := s.2.2.2.2.2.2.2.1
  have hx := s.2.2.2.2.2.2.2.2
  unfold Agr m_X5_count
  repeat (first
      | with_reducible refine Ok_g (by first | assumption | omega) ?_
      | with_reducible refine Ok_lt ?_
      | with_reducible refine Ok_t (by first | assumption | omega) ?_
      | with_reducible refine Ok_f (by first | assumption | omega) ?_)
  refine Ok_if (fun g => Ok_ret ⟨rd_rng _ _ _, ?_⟩) (fun g0 => ?_)
  · unfold m_X6_count
    repeat (first
        | with_reducible refine Ok_g (by first | assumption | omega) ?_
        | with_reducible refine Ok_lt ?_
        | with_reducible refine Ok_t (by first | assumption | omega) ?_
        | with_reducible refine Ok_f (by first | assumption | omega) ?_
        | with_reducible refine Ok_be (e_hasF (by decide) (by assumption)) ?_
        | with_reducible refine Ok_be (e_hasT (by decide) (by assumption)) ?_
        | with_reducible refine Ok_be (e_hasP (by decide) (by assumption)) ?_
        | with_reducible refine Ok_be (e_isCell (by first | assumption | omega)) ?_
        | with_reducible refine Ok_be (e_oor (by assumption) (by decide) (by decide)) ?_
        | with_reducible refine Ok_be (r_isIn (by first | assumption | omega) (by first | decide | omega) (by first | decide | omega)) ?_
        | with_reducible refine Ok_be (r_bound (by assumption) (by decide) (by decide)) ?_
        | with_reducible refine Ok_be (r_isF (by assumption) (by assumption)) ?_
        | with_reducible refine Ok_be (r_isT (by assumption) (by assumption)) ?_
        | with_reducible refine Ok_be (r_isP (by assumption) (by assumption)) ?_
        | with_reducible refine Ok_be (r_isCell (by first | assumption | omega)) ?_)
    exact Ok_ret ⟨by omega, s⟩
  refine Ok_if (fun g => Ok_ret ⟨rd_rng _ _ _, ?_⟩) (fun g1 => ?_)
  · unfold m_X6_count
    repeat (first
        | with_reducible refine Ok_g (by first | assumption | omega) ?_
        | with_reducible refine Ok_lt ?_
        | with_reducible refine Ok_t (by first | assumption | omega) ?_
        | with_reducible refine Ok_f (by first | assumption | omega) ?_
        | with_reducible refine Ok_be (e_hasF (by decide) (by assumption)) ?_
        | with_reducible refine Ok_be (e_hasT (by decide) (by assumption)) ?_
        | with_reducible refine Ok_be (e_hasP (by decide) (by assumption)) ?_
        | with_reducible refine Ok_be (e_isCell (by first | assumption | omega)) ?_
        | with_reducible refine Ok_be (e_oor (by assumption) (by decide) (by decide)) ?_
        | with_reducible refine Ok_be (r_isIn (by first | assumption | omega) (by first | decide | omega) (by first | decide | omega)) ?_
        | with_reducible refine Ok_be (r_bound (by assumption) (by decide) (by decide)) ?_
        | with_reducible refine Ok_be (r_isF (by assumption) (by assumption)) ?_
        | with_reducible refine Ok_be (r_isT (by assumption) (by assumption)) ?_
        | with_reducible refine Ok_be (r_isP (by assumption) (by assumption)) ?_
        | with_reducible refine Ok_be (r_isCell (by first | assumption | omega)) ?_)
    exact Ok_ret ⟨by omega, s⟩
  refine Ok_if (fun g => Ok_ret ⟨rd_rng _ _ _, ?_⟩) (fun g2 => ?_)
  · unfold m_X6_count
    repeat (first
        | with_reducible refine Ok_g (by first | assumption | omega) ?_
        | with_reducible refine Ok_lt ?_
        | with_reducible refine Ok_t (by first | assumption | omega) ?_
        | with_reducible refine Ok_f (by first | assumption | omega) ?_
        | with_reducible refine Ok_be (e_hasF (by decide) (by assumption)) ?_
        | with_reducible refine Ok_be (e_hasT (by decide) (by assumption)) ?_
        | with_reducible refine Ok_be (e_hasP (by decide) (by assumption)) ?_
        | with_reducible refine Ok_be (e_isCell (by first | assumption | omega)) ?_
        | with_reducible refine Ok_be (e_oor (by assumption) (by decide) (by decide)) ?_
        | with_reducible refine Ok_be (r_isIn (by first | assumption | omega) (by first | decide | omega) (by first | decide | omega)) ?_
        | with_reducible refine Ok_be (r_bound (by assumption) (by decide) (by decide)) ?_
        | with_reducible refine Ok_be (r_isF (by assumption) (by assumption)) ?_
        | with_reducible refine Ok_be (r_isT (by assumption) (by assumption)) ?_
        | with_reducible refine Ok_be (r_isP (by assumption) (by assumption)) ?_
        | with_reducible refine Ok_be (r_isCell (by first | assumption | omega)) ?_)
    exact Ok_ret ⟨by omega, s⟩
  refine Ok_if (fun g => Ok_ret ⟨rd_rng _ _ _, ?_⟩) (fun g3 => ?_)
  · unfold m_X6_count
    repeat (first
        | with_reducible refine Ok_g (by first | assumption | omega) ?_
        | with_reducible refine Ok_lt ?_
        | with_reducible refine Ok_t (by first | assumption | omega) ?_
        | with_reducible refine Ok_f (by first | assumption | omega) ?_
        | with_reducible refine Ok_be (e_hasF (by decide) (by assumption)) ?_
        | with_reducible refine Ok_be (e_hasT (by decide) (by assumption)) ?_
        | with_reducible refine Ok_be (e_hasP (by decide) (by assumption)) ?_
        | with_reducible refine Ok_be (e_isCell (by first | assumption | omega)) ?_
        | with_reducible refine Ok_be (e_oor (by assumption) (by decide) (by decide)) ?_
        | with_reducible refine Ok_be (r_isIn (by first | assumption | omega) (by first | decide | omega) (by first | decide | omega)) ?_
        | with_reducible refine Ok_be (r_bound (by assumption) (by decide) (by decide)) ?_
        | with_reducible refine Ok_be (r_isF (by assumption) (by assumption)) ?_
        | with_reducible refine Ok_be (r_isT (by assumption) (by assumption)) ?_
        | with_reducible refine Ok_be (r_isP (by assumption) (by assumption)) ?_
        | with_reducible refine Ok_be (r_isCell (by first | assumption | omega)) ?_)
    exact Ok_ret ⟨by omega, s⟩
  refine Ok_if (fun g => Ok_ret ⟨rd_rng _ _ _, ?_⟩) (fun g4 => ?_)
  · unfold m_X6_count
    repeat (first
        | with_reducible refine Ok_g (by first | assumption | omega) ?_
        | with_reducible refine Ok_lt ?_
        | with_reducible refine Ok_t (by first | assumption | omega) ?_
        | with_reducible refine Ok_f (by first | assumption | omega) ?_
        | with_reducible refine Ok_be (e_hasF (by decide) (by assumption)) ?_
        | with_reducible refine Ok_be (e_hasT (by decide) (by assumption)) ?_
        | with_reducible refine Ok_be (e_hasP (by decide) (by assumption)) ?_
        | with_reducible refine Ok_be (e_isCell (by first | assumption | omega)) ?_
        | with_reducible refine Ok_be (e_oor (by assumption) (by decide) (by decide)) ?_
        | with_reducible refine Ok_be (r_isIn (by first | assumption | omega) (by first | decide | omega) (by first | decide | omega)) ?_
        | with_reducible refine Ok_be (r_bound (by assumption) (by decide) (by decide)) ?_
        | with_reducible refine Ok_be (r_isF (by assumption) (by assumption)) ?_
        | with_reducible refine Ok_be (r_isT (by assumption) (by assumption)) ?_
        | with_reducible refine Ok_be (r_isP (by assumption) (by assumption)) ?_
        | with_reducible refine Ok_be (r_isCell (by first | assumption | omega)) ?_)
    exact Ok_ret ⟨by omega, s⟩
  refine Ok_if (fun g => ?_) (fun g5 => ?_)
  · have := manyS_b s.2.1
    refine Ok_be (e_owned hn (by decide) s.2.1) (Ok_ret ⟨by omega, ?_⟩)
    unfold m_X6_count
    repeat (first
        | with_reducible refine Ok_g (by first | assumption | omega) ?_
        | with_reducible refine Ok_lt ?_
        | with_reducible refine Ok_t (by first | assumption | omega) ?_
        | with_reducible refine Ok_f (by first | assumption | omega) ?_
        | with_reducible refine Ok_be (e_hasF (by decide) (by assumption)) ?_
        | with_reducible refine Ok_be (e_hasT (by decide) (by assumption)) ?_
        | with_reducible refine Ok_be (e_hasP (by decide) (by assumption)) ?_
        | with_reducible refine Ok_be (e_isCell (by first | assumption | omega)) ?_
        | with_reducible refine Ok_be (e_oor (by assumption) (by decide) (by decide)) ?_
        | with_reducible refine Ok_be (r_isIn (by first | assumption | omega) (by first | decide | omega) (by first | decide | omega)) ?_
        | with_reducible refine Ok_be (r_bound (by assumption) (by decide) (by decide)) ?_
        | with_reducible refine Ok_be (r_isF (by assumption) (by assumption)) ?_
        | with_reducible refine Ok_be (r_isT (by assumption) (by assumption)) ?_
        | with_reducible refine Ok_be (r_isP (by assumption) (by assumption)) ?_
        | with_reducible refine Ok_be (r_isCell (by first | assumption | omega)) ?_)
    exact Ok_be (r_many hn wf0) (Ok_ret ⟨by rw [vv0], s⟩)
  refine Ok_if (fun g => Ok_ret ⟨rd_rng _ _ _, ?_⟩) (fun g6 => ?_)
  · unfold m_X6_count
    repeat (first
        | with_reducible refine Ok_g (by first | assumption | omega) ?_
        | with_reducible refine Ok_lt ?_
        | with_reducible refine Ok_t (by first | assumption | omega) ?_
        | with_reducible refine Ok_f (by first | assumption | omega) ?_
        | with_reducible refine Ok_be (e_hasF (by decide) (by assumption)) ?_
        | with_reducible refine Ok_be (e_hasT (by decide) (by assumption)) ?_
        | with_reducible refine Ok_be (e_hasP (by decide) (by assumption)) ?_
        | with_reducible refine Ok_be (e_isCell (by first | assumption | omega)) ?_
        | with_reducible refine Ok_be (e_oor (by assumption) (by decide) (by decide)) ?_
        | with_reducible refine Ok_be (r_isIn (by first | assumption | omega) (by first | decide | omega) (by first | decide | omega)) ?_
        | with_reducible refine Ok_be (r_bound (by assumption) (by decide) (by decide)) ?_
        | with_reducible refine Ok_be (r_isF (by assumption) (by assumption)) ?_
        | with_reducible refine Ok_be (r_isT (by assumption) (by assumption)) ?_
        | with_reducible refine Ok_be (r_isP (by assumption) (by assumption)) ?_
        | with_reducible refine Ok_be (r_isCell (by first | assumption | omega)) ?_)
    exact Ok_ret ⟨hl.1, s⟩
  refine Ok_if (fun g => Ok_ret ⟨rd_rng _ _ _, ?_⟩) (fun g7 => ?_)
  · unfold m_X6_count
    repeat (first
        | with_reducible refine Ok_g (by first | assumption | omega) ?_
        | with_reducible refine Ok_lt ?_
        | with_reducible refine Ok_t (by first | assumption | omega) ?_
        | with_reducible refine Ok_f (by first | assumption | omega) ?_
        | with_reducible refine Ok_be (e_hasF (by decide) (by assumption)) ?_
        | with_reducible refine Ok_be (e_hasT (by decide) (by assumption)) ?_
        | with_reducible refine Ok_be (e_hasP (by decide) (by assumption)) ?_
        | with_reducible refine Ok_be (e_isCell (by first | assumption | omega)) ?_
        | with_reducible refine Ok_be (e_oor (by assumption) (by decide) (by decide)) ?_
        | with_reducible refine Ok_be (r_isIn (by first | assumption | omega) (by first | decide | omega) (by first | decide | omega)) ?_
        | with_reducible refine Ok_be (r_bound (by assumption) (by decide) (by decide)) ?_
        | with_reducible refine Ok_be (r_isF (by assumption) (by assumption)) ?_
        | with_reducible refine Ok_be (r_isT (by assumption) (by assumption)) ?_
        | with_reducible refine Ok_be (r_isP (by assumption) (by assumption)) ?_
        | with_reducible refine Ok_be (r_isCell (by first | assumption | omega)) ?_)
    exact Ok_ret ⟨hr.1, s⟩
  refine Ok_if (fun g => Ok_ret ⟨rd_rng _ _ _, ?_⟩) (fun g8 => ?_)
  · unfold m_X6_count
    repeat (first
        | with_reducible refine Ok_g (by first | assumption | omega) ?_
        | with_reducible refine Ok_lt ?_
        | with_reducible refine Ok_t (by first | assumption | omega) ?_
        | with_reducible refine Ok_f (by first | assumption | omega) ?_
        | with_reducible refine Ok_be (e_hasF (by decide) (by assumption)) ?_
        | with_reducible refine Ok_be (e_hasT (by decide) (by assumption)) ?_
        | with_reducible refine Ok_be (e_hasP (by decide) (by assumption)) ?_
        | with_reducible refine Ok_be (e_isCell (by first | assumption | omega)) ?_
        | with_reducible refine Ok_be (e_oor (by assumption) (by decide) (by decide)) ?_
        | with_reducible refine Ok_be (r_isIn (by first | assumption | omega) (by first | decide | omega) (by first | decide | omega)) ?_
        | with_reducible refine Ok_be (r_bound (by assumption) (by decide) (by decide)) ?_
        | with_reducible refine Ok_be (r_isF (by assumption) (by assumption)) ?_
        | with_reducible refine Ok_be (r_isT (by assumption) (by assumption)) ?_
        | with_reducible refine Ok_be (r_isP (by assumption) (by assumption)) ?_
        | with_reducible refine Ok_be (r_isCell (by first | assumption | omega)) ?_)
    exact Ok_ret ⟨by omega, s⟩
  refine Ok_if (fun g => ?_) (fun g9 => ?_)
  · refine Ok_bd (e_begin hn s.2.2.1 s.2.1 (by decide)) ?_
    rintro _ M1 ⟨v1, k1, l1, f1⟩
    have km : KM M M1 := fun q i hq => f1 q i (by omega)
    have s1 := sim_KM s k1 km
    have w1 : WF 999 (vw M1 22) := by rw [v1]; exact s.2.1
    obtain ⟨wf2, vv2, rf2⟩ := sim_rf s1 (M1 := M1) (fun _ _ _ => rfl)
    obtain ⟨ec, hc⟩ := cells_N (vw M1 22)
    refine Ok_be (e_foggyCells hn w1 l1) (Ok_ret ⟨by omega, ?_⟩)
    unfold m_X6_count
    repeat (first
        | with_reducible refine Ok_g (by first | assumption | omega) ?_
        | with_reducible refine Ok_lt ?_
        | with_reducible refine Ok_t (by first | assumption | omega) ?_
        | with_reducible refine Ok_f (by first | assumption | omega) ?_
        | with_reducible refine Ok_be (e_hasF (by decide) (by assumption)) ?_
        | with_reducible refine Ok_be (e_hasT (by decide) (by assumption)) ?_
        | with_reducible refine Ok_be (e_hasP (by decide) (by assumption)) ?_
        | with_reducible refine Ok_be (e_isCell (by first | assumption | omega)) ?_
        | with_reducible refine Ok_be (e_oor (by assumption) (by decide) (by decide)) ?_
        | with_reducible refine Ok_be (r_isIn (by first | assumption | omega) (by first | decide | omega) (by first | decide | omega)) ?_
        | with_reducible refine Ok_be (r_bound (by assumption) (by decide) (by decide)) ?_
        | with_reducible refine Ok_be (r_isF (by assumption) (by assumption)) ?_
        | with_reducible refine Ok_be (r_isT (by assumption) (by assumption)) ?_
        | with_reducible refine Ok_be (r_isP (by assumption) (by assumption)) ?_
        | with_reducible refine Ok_be (r_isCell (by first | assumption | omega)) ?_)
    refine Ok_bd (r_foggyCells hn wf2 (by decide)) ?_
    rintro r M2 ⟨er, k2⟩
    exact Ok_ret ⟨by rw [er, vv2, vw0_KM km, v1], sim_KR s1 (fun q i _ a b _ _ _ => k2 q i a b) (vwA k2)⟩
  refine Ok_if (fun g => Ok_ret ⟨by decide, ?_⟩) (fun g10 => ?_)
  · unfold m_X6_count
    repeat (first
        | with_reducible refine Ok_g (by first | assumption | omega) ?_
        | with_reducible refine Ok_lt ?_
        | with_reducible refine Ok_t (by first | assumption | omega) ?_
        | with_reducible refine Ok_f (by first | assumption | omega) ?_
        | with_reducible refine Ok_be (e_hasF (by decide) (by assumption)) ?_
        | with_reducible refine Ok_be (e_hasT (by decide) (by assumption)) ?_
        | with_reducible refine Ok_be (e_hasP (by decide) (by assumption)) ?_
        | with_reducible refine Ok_be (e_isCell (by first | assumption | omega)) ?_
        | with_reducible refine Ok_be (e_oor (by assumption) (by decide) (by decide)) ?_
        | with_reducible refine Ok_be (r_isIn (by first | assumption | omega) (by first | decide | omega) (by first | decide | omega)) ?_
        | with_reducible refine Ok_be (r_bound (by assumption) (by decide) (by decide)) ?_
        | with_reducible refine Ok_be (r_isF (by assumption) (by assumption)) ?_
        | with_reducible refine Ok_be (r_isT (by assumption) (by assumption)) ?_
        | with_reducible refine Ok_be (r_isP (by assumption) (by assumption)) ?_
        | with_reducible refine Ok_be (r_isCell (by first | assumption | omega)) ?_)
    exact Ok_ret ⟨rfl, s⟩
  refine Ok_if (fun g => Ok_ret ⟨by decide, ?_⟩) (fun g11 => ?_)
  · unfold m_X6_count
    repeat (first
        | with_reducible refine Ok_g (by first | assumption | omega) ?_
        | with_reducible refine Ok_lt ?_
        | with_reducible refine Ok_t (by first | assumption | omega) ?_
        | with_reducible refine Ok_f (by first | assumption | omega) ?_
        | with_reducible refine Ok_be (e_hasF (by decide) (by assumption)) ?_
        | with_reducible refine Ok_be (e_hasT (by decide) (by assumption)) ?_
        | with_reducible refine Ok_be (e_hasP (by decide) (by assumption)) ?_
        | with_reducible refine Ok_be (e_isCell (by first | assumption | omega)) ?_
        | with_reducible refine Ok_be (e_oor (by assumption) (by decide) (by decide)) ?_
        | with_reducible refine Ok_be (r_isIn (by first | assumption | omega) (by first | decide | omega) (by first | decide | omega)) ?_
        | with_reducible refine Ok_be (r_bound (by assumption) (by decide) (by decide)) ?_
        | with_reducible refine Ok_be (r_isF (by assumption) (by assumption)) ?_
        | with_reducible refine Ok_be (r_isT (by assumption) (by assumption)) ?_
        | with_reducible refine Ok_be (r_isP (by assumption) (by assumption)) ?_
        | with_reducible refine Ok_be (r_isCell (by first | assumption | omega)) ?_)
    exact Ok_ret ⟨rfl, s⟩
  repeat (first
      | with_reducible refine Ok_g (by first | assumption | omega) ?_
      | with_reducible refine Ok_lt ?_
      | with_reducible refine Ok_t (by first | assumption | omega) ?_
      | with_reducible refine Ok_f (by first | assumption | omega) ?_)
  refine Ok_ret ⟨rd_rng _ _ _, ?_⟩
  unfold m_X6_count
  repeat (first
      | with_reducible refine Ok_g (by first | assumption | omega) ?_
      | with_reducible refine Ok_lt ?_
      | with_reducible refine Ok_t (by first | assumption | omega) ?_
      | with_reducible refine Ok_f (by first | assumption | omega) ?_
      | with_reducible refine Ok_be (e_hasF (by decide) (by assumption)) ?_
      | with_reducible refine Ok_be (e_hasT (by decide) (by assumption)) ?_
      | with_reducible refine Ok_be (e_hasP (by decide) (by assumption)) ?_
      | with_reducible refine Ok_be (e_isCell (by first | assumption | omega)) ?_
      | with_reducible refine Ok_be (e_oor (by assumption) (by decide) (by decide)) ?_
      | with_reducible refine Ok_be (r_isIn (by first | assumption | omega) (by first | decide | omega) (by first | decide | omega)) ?_
      | with_reducible refine Ok_be (r_bound (by assumption) (by decide) (by decide)) ?_
      | with_reducible refine Ok_be (r_isF (by assumption) (by assumption)) ?_
      | with_reducible refine Ok_be (r_isT (by assumption) (by assumption)) ?_
      | with_reducible refine Ok_be (r_isP (by assumption) (by assumption)) ?_
      | with_reducible refine Ok_be (r_isCell (by first | assumption | omega)) ?_)
  exact Ok_ret ⟨rd_of' (hx _), s⟩
/-- one was where the row says, hour by hour -/
def gbS (rw : Nat → Int) (p : Nat) : Nat → Nat → US → Int
  | 0, _, _ => 1
  | k + 1, i, u => if u 10 p = rw i then gbS rw p k (i + 1) (hourS u) else 0
theorem gbS_b (rw : Nat → Int) (p : Nat) : ∀ k i u, gbS rw p k i u = 0 ∨ gbS rw p k i u = 1
  | 0, _, _ => .inr rfl
  | k + 1, i, u => by
    have := gbS_b rw p k (i + 1) (hourS u)
    simp only [gbS]
    split
    · exact this
    · exact .inl rfl
theorem e_gb_2 {n p R : Nat} {rw : Nat → Int} (hn : 2000 ≤ n) (hp : p < 5) (hR : R ≤ 12) : ∀ k t (i : Nat) (H : Int) M, i + k = R → k < t → H + k ≤ 100000 → rd M 130 8 = R → (∀ j, j < R → rd M 133 j = rw j) → SkyOk M → WF H (vw M 22) → 0 < i →
    Ok (m_X5_goesByTheRow_2 n t M (p : Int) (i : Int)) (fun r M' => r = gbS rw p k i (hourS (vw M 22)) ∧ SkyOk M' ∧ KM M M') := by
  intro k
  induction k with
  | zero =>
    intro t i H M hi ht hH h8 hrw sk wf hi0
    cases t with
    | zero => omega
    | succ t =>
      rw [m_X5_goesByTheRow_2]
      repeat (first
          | with_reducible refine Ok_g (by first | assumption | omega) ?_
          | with_reducible refine Ok_lt ?_
          | with_reducible refine Ok_t (by first | assumption | omega) ?_
          | with_reducible refine Ok_f (by first | assumption | omega) ?_)
      exact Ok_ret ⟨rfl, sk, KM_refl M⟩
  | succ k ih =>
    intro t i H M hi ht hH h8 hrw sk wf hi0
    cases t with
    | zero => omega
    | succ t =>
      rw [m_X5_goesByTheRow_2]
      simp only [gbS]
      unfold m_X5_goesByTheRow_22
      repeat (first
          | with_reducible refine Ok_g (by first | assumption | omega) ?_
          | with_reducible refine Ok_lt ?_
          | with_reducible refine Ok_t (by first | assumption | omega) ?_
          | with_reducible refine Ok_f (by first | assumption | omega) ?_)
      refine Ok_bd (e_goOn1 hn (by omega) sk wf) ?_
      rintro _ M1 ⟨v1, w1, k1, l1, km⟩
      have q := pW w1 hp
      simp only [Nat.reduceAdd] at q
      simp only [Int.toNat_natCast]
      have e133 : rd M1 133 i = rw i := by rw [rd_of (km _ _ (by omega))]; exact hrw i (by omega)
      rw [← v1, q.1.2.2.2, ← e133]
      repeat (first
          | with_reducible refine Ok_g (by first | assumption | omega) ?_
          | with_reducible refine Ok_lt ?_
          | with_reducible refine Ok_t (by first | assumption | omega) ?_
          | with_reducible refine Ok_f (by first | assumption | omega) ?_)
      refine Ok_if (fun g => ?_) (fun g => ?_)
      · rw [if_pos g]
        refine Ok_mono (ih t (i + 1) (H + 1) M1 (by omega) (by omega) (by omega) (by rw [rd_of (km _ _ (by omega))]; exact h8) (fun j hj => by rw [rd_of (km _ _ (by omega))]; exact hrw j hj) k1 w1 (by omega)) ?_
        rintro r M2 ⟨h1, h2, h3⟩
        exact ⟨h1, h2, KM_trans km h3⟩
      · rw [if_neg g]
        exact Ok_ret ⟨rfl, k1, km⟩
theorem e_gb {n p R : Nat} {rw : Nat → Int} {H : Int} {M : Mem} (hn : 2000 ≤ n) (hp : p < 5) (hR : R ≤ 12) (hH : H ≤ 10000) (h8 : rd M 130 8 = R) (hrw : ∀ j, j < R → rd M 133 j = rw j) (sk : SkyOk M) (wf : WF H (vw M 22)) :
    Ok (m_X5_goesByTheRow n M (p : Int)) (fun r M' => r = gbS rw p R 0 (vw M 22) ∧ SkyOk M' ∧ KM M M') := by
  unfold m_X5_goesByTheRow
  obtain ⟨t, rfl⟩ : ∃ t, n = t + 1 := ⟨n - 1, by omega⟩
  rw [m_X5_goesByTheRow_2]
  cases R with
  | zero =>
    repeat (first
        | with_reducible refine Ok_g (by first | assumption | omega) ?_
        | with_reducible refine Ok_lt ?_
        | with_reducible refine Ok_t (by first | assumption | omega) ?_
        | with_reducible refine Ok_f (by first | assumption | omega) ?_)
    exact Ok_ret ⟨rfl, sk, KM_refl M⟩
  | succ R =>
    have q := pW wf hp
    simp only [Nat.reduceAdd] at q
    simp only [gbS]
    unfold m_X5_goesByTheRow_22
    have e := hrw 0 (by omega)
    simp only [Int.toNat_natCast, show Int.toNat 0 = 0 from rfl]
    rw [q.1.2.2.2, ← e]
    repeat (first
        | with_reducible refine Ok_g (by first | assumption | omega) ?_
        | with_reducible refine Ok_lt ?_
        | with_reducible refine Ok_t (by first | assumption | omega) ?_
        | with_reducible refine Ok_f (by first | assumption | omega) ?_)
    refine Ok_if (fun g => ?_) (fun g => ?_)
    · rw [if_pos g]
      exact e_gb_2 (R := R + 1) hn hp hR R t 1 H M (by omega) (by omega) (by omega) h8 hrw sk wf (by decide)
    · rw [if_neg g]
      exact Ok_ret ⟨rfl, sk, KM_refl M⟩
theorem r_went_2 {n p R : Nat} {rw : Nat → Int} (hn : 2000 ≤ n) (hp : p < 5) (hR : R ≤ 12) : ∀ k t (i : Nat) (H : Int) M, i + k = R → k < t → H + k ≤ 100000 → rd M 137 31 = R → (∀ j, j < R → rd M 156 j = rw j) → WF H (vw M 137) →
    Ok (m_X6_wentSo_2 n t M (p : Int) (i : Int)) (fun r M' => r = gbS rw p k i (vw M 137) ∧ KG M M') := by
  intro k
  induction k with
  | zero =>
    intro t i H M hi ht hH h8 hrw wf
    cases t with
    | zero => omega
    | succ t =>
      rw [m_X6_wentSo_2]
      repeat (first
          | with_reducible refine Ok_g (by first | assumption | omega) ?_
          | with_reducible refine Ok_lt ?_
          | with_reducible refine Ok_t (by first | assumption | omega) ?_
          | with_reducible refine Ok_f (by first | assumption | omega) ?_)
      exact Ok_ret ⟨rfl, KG_refl M⟩
  | succ k ih =>
    intro t i H M hi ht hH h8 hrw wf
    cases t with
    | zero => omega
    | succ t =>
      have q := pW wf hp
      simp only [Nat.reduceAdd] at q
      have e := hrw i (by omega)
      rw [m_X6_wentSo_2]
      simp only [gbS, Int.toNat_natCast]
      rw [q.1.2.2.2, ← e]
      repeat (first
          | with_reducible refine Ok_g (by first | assumption | omega) ?_
          | with_reducible refine Ok_lt ?_
          | with_reducible refine Ok_t (by first | assumption | omega) ?_
          | with_reducible refine Ok_f (by first | assumption | omega) ?_)
      refine Ok_if (fun g => ?_) (fun g => ?_)
      · rw [if_pos g]
        refine Ok_bd (r_goesHour hn wf (by omega)) ?_
        rintro _ M2 ⟨v2, k2⟩
        refine Ok_mono (ih t (i + 1) (H + 1) M2 (by omega) (by omega) (by omega) (by rw [rd_of (k2 _ _ (by omega) (by omega) (by omega) (by omega) (by omega))]; exact h8) (fun j hj => by rw [rd_of (k2 _ _ (by omega) (by omega) (by omega) (by omega) (by omega))]; exact hrw j hj) (by rw [v2]; exact hourS_wf wf)) ?_
        rintro r M3 ⟨h1, h2⟩
        exact ⟨by rw [h1, v2], KG_trans k2 h2⟩
      · rw [if_neg g]
        exact Ok_ret ⟨rfl, KG_refl M⟩
/-- one with another kind or figure -/
def wkU (u : US) (p : Nat) (w : Int) (v : Nat) : US := uset u (if w = 0 then 7 else 8) p v
def wkF (u : US) (rw : Nat → Int) (p R : Nat) (w : Int) : Nat → Int → Int := fun v s => if gbS rw p R 0 (wkU u p w v) = 1 then bOr s (bShl 1 v) else s
theorem wkU_wf {u : US} (wf : WF 999 u) {p v : Nat} {w : Int} {C : Nat} (hC : w = 0 ∧ C = 8 ∨ w = 1 ∧ C = 10) (hv : v < C) : WF 999 (wkU u p w v) := by
  unfold wkU
  rcases hC with ⟨rfl, rfl⟩ | ⟨rfl, rfl⟩
  · exact WF_set wf 7 p (by show (0 : Int) ≤ _; omega) (by show _ ≤ (7 : Int); omega)
  · exact WF_set wf 8 p (by show (0 : Int) ≤ _; omega) (by show _ ≤ (9 : Int); omega)
theorem e_whatKind_51 {n p R C : Nat} {rw : Nat → Int} {w : Int} {M0 : Mem} (hn : 2000 ≤ n) (hp : p < 5) (hR : R ≤ 12) (hC : w = 0 ∧ C = 8 ∨ w = 1 ∧ C = 10) (wf0 : WF 999 (vw M0 0)) (h8 : rd M0 130 8 = R) (hrw : ∀ j, j < R → rd M0 133 j = rw j) : ∀ k t (i : Nat) (v : Int) M, i + k = C → k < t → SkyOk M → KM M0 M →
    Ok (m_X5_whatKind_51 n t M (p : Int) w (C : Int) v (i : Int)) (fun r M' => r = frm (wkF (vw M0 0) rw p R w) k i v ∧ SkyOk M' ∧ KM M0 M') := by
  intro k
  induction k with
  | zero =>
    intro t i v M hi ht sk km
    cases t with
    | zero => omega
    | succ t =>
      rw [m_X5_whatKind_51]
      repeat (first
          | with_reducible refine Ok_g (by first | assumption | omega) ?_
          | with_reducible refine Ok_lt ?_
          | with_reducible refine Ok_t (by first | assumption | omega) ?_
          | with_reducible refine Ok_f (by first | assumption | omega) ?_)
      exact Ok_ret ⟨rfl, sk, km⟩
  | succ k ih =>
    intro t i v M hi ht sk km
    cases t with
    | zero => omega
    | succ t =>
      have e0 := vw0_KM km
      have wM : WF 999 (vw M 0) := by rw [e0]; exact wf0
      have wu := wkU_wf (p := p) wf0 hC (show i < C by omega)
      rw [m_X5_whatKind_51]
      simp only [frm]
      repeat (first
          | with_reducible refine Ok_g (by first | assumption | omega) ?_
          | with_reducible refine Ok_lt ?_
          | with_reducible refine Ok_t (by first | assumption | omega) ?_
          | with_reducible refine Ok_f (by first | assumption | omega) ?_)
      refine Ok_bd (e_begin hn sk wM (by decide)) ?_
      rintro _ M1 ⟨v1, k1, l1, f1⟩
      have fin : ∀ q, q = 29 ∨ q = 30 → vw (mup M1 q p (i : Int)) 22 = wkU (vw M0 0) p w i → Ok (m_X5_whatKind_103 n (m_X5_whatKind_51 n t) (mup M1 q p (i : Int)) (p : Int) w (C : Int) v (i : Int)) (fun r M' => r = frm (wkF (vw M0 0) rw p R w) k (i + 1) (wkF (vw M0 0) rw p R w i v) ∧ SkyOk M' ∧ KM M0 M') := by
        intro q hq hv
        unfold m_X5_whatKind_103
        have kq : KM M0 (mup M1 q p (i : Int)) := fun a b g => by rw [mup_n _ (by omega), f1 a b (by omega), km a b g]
        refine Ok_bd (e_gb (R := R) (rw := rw) (H := 999) hn hp hR (by decide) (by rw [rd_of (kq _ _ (by omega))]; exact h8) (fun j hj => by rw [rd_of (kq _ _ (by omega))]; exact hrw j hj) (SkyOk_keep k1 (fun a b _ _ => mup_n _ (by omega))) (by rw [hv]; exact wu)) ?_
        rintro r M2 ⟨er, k2, km2⟩
        rw [hv] at er
        have bb := gbS_b rw p R 0 (wkU (vw M0 0) p w i)
        unfold wkF
        rw [← er] at bb ⊢
        rcases bb with c | c
        · repeat (first
              | with_reducible refine Ok_g (by first | assumption | omega) ?_
              | with_reducible refine Ok_lt ?_
              | with_reducible refine Ok_t (by first | assumption | omega) ?_
              | with_reducible refine Ok_f (by first | assumption | omega) ?_)
          rw [if_neg (by omega)]
          exact ih t (i + 1) v M2 (by omega) (by omega) k2 (KM_trans kq km2)
        · repeat (first
              | with_reducible refine Ok_g (by first | assumption | omega) ?_
              | with_reducible refine Ok_lt ?_
              | with_reducible refine Ok_t (by first | assumption | omega) ?_
              | with_reducible refine Ok_f (by first | assumption | omega) ?_)
          rw [if_pos c]
          exact ih t (i + 1) _ M2 (by omega) (by omega) k2 (KM_trans kq km2)
      refine Ok_g (by omega) ?_
      simp only [Int.toNat_natCast]
      rcases hC with ⟨c, c'⟩ | ⟨c, c'⟩
      · repeat (first
            | with_reducible refine Ok_g (by first | assumption | omega) ?_
            | with_reducible refine Ok_lt ?_
            | with_reducible refine Ok_wr ?_
            | with_reducible refine Ok_t (by first | assumption | omega) ?_
            | with_reducible refine Ok_f (by first | assumption | omega) ?_)
        refine fin 29 (.inl rfl) ?_
        unfold wkU
        rw [if_pos c, ← e0, ← v1]
        exact vw_set (w := 22) (k := 7) (by omega) (by decide) (by decide) (by decide) (show p < 5 by omega)
      · repeat (first
            | with_reducible refine Ok_g (by first | assumption | omega) ?_
            | with_reducible refine Ok_lt ?_
            | with_reducible refine Ok_wr ?_
            | with_reducible refine Ok_t (by first | assumption | omega) ?_
            | with_reducible refine Ok_f (by first | assumption | omega) ?_)
        refine fin 30 (.inr rfl) ?_
        unfold wkU
        rw [if_neg (by omega), ← e0, ← v1]
        exact vw_set (w := 22) (k := 8) (by omega) (by decide) (by decide) (by decide) (show p < 5 by omega)
theorem r_whatKind_44 {n p R C : Nat} {rw : Nat → Int} {w : Int} {u : US} (hn : 2000 ≤ n) (hp : p < 5) (hR : R ≤ 12) (hC : w = 0 ∧ C = 8 ∨ w = 1 ∧ C = 10) (wu0 : WF 999 u) : ∀ k t (i : Nat) (v : Int) M, i + k = C → k < t → Sim M → vw M 0 = u → rd M 130 8 = R → (∀ j, j < R → rd M 133 j = rw j) → I32 v →
    Ok (m_X6_whatKind_44 n t M (p : Int) w v (i : Int)) (fun r M' => r = frm (wkF u rw p R w) k i v ∧ Sim M') := by
  intro k
  induction k with
  | zero =>
    intro t i v M hi ht s hu h8 hrw hv
    cases t with
    | zero => omega
    | succ t =>
      rw [m_X6_whatKind_44]
      unfold m_X6_whatKind_57
      rcases hC with ⟨c, c'⟩ | ⟨c, c'⟩
      · repeat (first
            | with_reducible refine Ok_g (by first | assumption | omega) ?_
            | with_reducible refine Ok_lt ?_
            | with_reducible refine Ok_t (by first | assumption | omega) ?_
            | with_reducible refine Ok_f (by first | assumption | omega) ?_)
        exact Ok_ret ⟨rfl, s⟩
      · repeat (first
            | with_reducible refine Ok_g (by first | assumption | omega) ?_
            | with_reducible refine Ok_lt ?_
            | with_reducible refine Ok_t (by first | assumption | omega) ?_
            | with_reducible refine Ok_f (by first | assumption | omega) ?_)
        exact Ok_ret ⟨rfl, s⟩
  | succ k ih =>
    intro t i v M hi ht s hu h8 hrw hv
    cases t with
    | zero => omega
    | succ t =>
      have wu := wkU_wf (p := p) wu0 hC (show i < C by omega)
      have row := s.2.2.2.2.2.2.2.1
      have fin : ∀ q M1, q = 144 ∨ q = 145 → Md M M1 → vw (mup M1 q p (i : Int)) 137 = wkU u p w i → Ok (m_X6_whatKind_87 n (m_X6_whatKind_44 n t) (mup M1 q p (i : Int)) (p : Int) w v (i : Int)) (fun r M' => r = frm (wkF u rw p R w) (k + 1) i v ∧ Sim M') := by
        intro q M1 hq md hv2
        unfold m_X6_whatKind_87 m_X6_whatKind_105
        have e31 : rd (mup M1 q p (i : Int)) 137 31 = R := by
          rw [rd_upne _ _ _ _ _ _ (by omega), rd_of (md.2 137 31 (by omega) (by omega) (by omega) (by omega) (by omega) (by omega)), row.1]; exact h8
        have e156 : ∀ j, j < R → rd (mup M1 q p (i : Int)) 156 j = rw j := by
          intro j hj
          rw [rd_upne _ _ _ _ _ _ (by omega), rd_of (md.2 156 j (by omega) (by omega) (by omega) (by omega) (by omega) (by omega)), (row.2.2.2 j (by omega)).1]
          exact hrw j hj
        refine Ok_bd (r_went_2 (R := R) (rw := rw) hn hp hR R n 0 999 _ (by omega) (by omega) (by omega) e31 e156 (by rw [hv2]; exact wu)) ?_
        rintro r M2 ⟨er, k2⟩
        rw [hv2] at er
        have bb := gbS_b rw p R 0 (wkU u p w i)
        simp only [frm]
        have kx : KX M1 M2 := KX_trans (KX_up (by omega)) (KX_G k2)
        have nxt : ∀ y, I32 y → y = wkF u rw p R w i v → Ok (bd (m_X6_forgets n M2) (fun _ M1 => m_X6_whatKind_44 n t M1 (p : Int) w y ((i : Int) + 1))) (fun r M' => r = frm (wkF u rw p R w) k (i + 1) (wkF u rw p R w i v) ∧ Sim M') := by
          intro y hy he
          refine Ok_bd (r_forgets hn s md kx) ?_
          rintro _ M3 ⟨s3, v3, kr, _⟩
          rw [← he]
          refine ih t (i + 1) y M3 (by omega) (by omega) s3 (by rw [← s3.1, v3, s.1, hu]) ?_ ?_ hy
          · rw [rd_of (kr _ _ (by omega) (by omega) (by omega) (by omega) (by omega) (by omega))]; exact h8
          · intro j hj
            rw [rd_of (kr _ _ (by omega) (by omega) (by omega) (by omega) (by omega) (by omega))]; exact hrw j hj
        rcases bb with c | c
        · repeat (first
              | with_reducible refine Ok_g (by first | assumption | omega) ?_
              | with_reducible refine Ok_lt ?_
              | with_reducible refine Ok_t (by first | assumption | omega) ?_
              | with_reducible refine Ok_f (by first | assumption | omega) ?_)
          refine nxt _ ?_ ?_
          · rw [bOr0 hv]; exact hv
          · unfold wkF
            rw [if_neg (by omega), bOr0 hv]
        · repeat (first
              | with_reducible refine Ok_g (by first | assumption | omega) ?_
              | with_reducible refine Ok_lt ?_
              | with_reducible refine Ok_t (by first | assumption | omega) ?_
              | with_reducible refine Ok_f (by first | assumption | omega) ?_)
          refine nxt _ (i_rng _) ?_
          unfold wkF
          rw [if_pos c]
      rw [m_X6_whatKind_44]
      unfold m_X6_whatKind_57
      rcases hC with ⟨c, c'⟩ | ⟨c, c'⟩
      · repeat (first
            | with_reducible refine Ok_g (by first | assumption | omega) ?_
            | with_reducible refine Ok_lt ?_
            | with_reducible refine Ok_t (by first | assumption | omega) ?_
            | with_reducible refine Ok_f (by first | assumption | omega) ?_)
        refine Ok_bd (r_minds hn s) ?_
        rintro _ M1 ⟨v1, md, _⟩
        repeat (first
            | with_reducible refine Ok_g (by first | assumption | omega) ?_
            | with_reducible refine Ok_lt ?_
            | with_reducible refine Ok_wr ?_
            | with_reducible refine Ok_t (by first | assumption | omega) ?_
            | with_reducible refine Ok_f (by first | assumption | omega) ?_)
        simp only [Int.toNat_natCast]
        refine fin 144 M1 (.inl rfl) md ?_
        unfold wkU
        rw [if_pos c, ← hu, ← s.1, ← v1]
        exact vw_set (w := 137) (k := 7) (by omega) (by decide) (by decide) (by decide) (show p < 5 by omega)
      · repeat (first
            | with_reducible refine Ok_g (by first | assumption | omega) ?_
            | with_reducible refine Ok_lt ?_
            | with_reducible refine Ok_t (by first | assumption | omega) ?_
            | with_reducible refine Ok_f (by first | assumption | omega) ?_)
        refine Ok_bd (r_minds hn s) ?_
        rintro _ M1 ⟨v1, md, _⟩
        repeat (first
            | with_reducible refine Ok_g (by first | assumption | omega) ?_
            | with_reducible refine Ok_lt ?_
            | with_reducible refine Ok_wr ?_
            | with_reducible refine Ok_t (by first | assumption | omega) ?_
            | with_reducible refine Ok_f (by first | assumption | omega) ?_)
        simp only [Int.toNat_natCast]
        refine fin 145 M1 (.inr rfl) md ?_
        unfold wkU
        rw [if_neg (by omega), ← hu, ← s.1, ← v1]
        exact vw_set (w := 137) (k := 8) (by omega) (by decide) (by decide) (by decide) (show p < 5 by omega)
theorem wk_b (u : US) (rw : Nat → Int) (p R : Nat) (w : Int) {C : Nat} (hC : C ≤ 10) : I32 (frm (wkF u rw p R w) C 0 0) := by
  have e : frm (wkF u rw p R w) C 0 0 = _ := frm_set (C := fun v => gbS rw p R 0 (wkU u p w v) = 1) (d := fun _ => inferInstance) (k := C) (by omega)
  rw [e]
  have l := bs_lt (fun v => decide (gbS rw p R 0 (wkU u p w v) = 1)) C 0
  have : 2 ^ C ≤ 2 ^ 10 := Nat.pow_le_pow_right (by decide) hC
  omega
theorem q_whatKind {n : Nat} {M : Mem} {a b : Int} (hn : 2000 ≤ n) (s : Sim M) (ha : I32 a) (hb : I32 b) : Agr (m_X5_whatKind n M a b) (fun M1 => m_X6_whatKind n M1 a b) := by
  obtain ⟨wf0, vv0, rf0⟩ := sim_rf s (M1 := M) (fun _ _ _ => rfl)
  have row := s.2.2.2.2.2.2.2.1
  have hR8 : rd M 130 8 = (((rd M 130 8).toNat : Nat) : Int) := by have := row.2.1; omega
  have hR12 : (rd M 130 8).toNat ≤ 12 := by have := row.2.2.1; omega
  unfold Agr m_X5_whatKind
  by_cases h : 0 ≤ a ∧ a < rd M 0 12
  · obtain ⟨p, rfl⟩ := Int.eq_ofNat_of_zero_le h.1
    have main : ∀ C : Nat, (b = 0 ∧ C = 8 ∨ b = 1 ∧ C = 10) → Ok (m_X5_whatKind_51 n n M (p : Int) b (C : Int) 0 ((0 : Nat) : Int)) (fun r M1 => I32 r ∧ Ok (m_X6_whatKind n M1 (p : Int) b) (fun r' M2 => r' = r ∧ Sim M2)) := by
      intro C hC
      refine Ok_mono (e_whatKind_51 (R := (rd M 130 8).toNat) (rw := fun j => rd M 133 j) (M0 := M) hn (by omega) hR12 hC s.2.1 hR8 (fun _ _ => rfl) C n 0 0 M (by omega) (by omega) s.2.2.1 (KM_refl M)) ?_
      rintro r M1 ⟨er, k1, km⟩
      refine ⟨by rw [er]; exact wk_b _ _ _ _ _ (by omega), ?_⟩
      have s1 := sim_KM s k1 km
      have e0 := vw0_KM km
      have z12 : rd M1 0 12 = rd M 0 12 := rd_of (km _ _ (by omega))
      obtain ⟨wf2, vv2, rf2⟩ := sim_rf s1 (M1 := M1) (fun _ _ _ => rfl)
      unfold m_X6_whatKind m_X6_whatKind_27
      repeat (first
          | with_reducible refine Ok_g (by first | assumption | omega) ?_
          | with_reducible refine Ok_lt ?_
          | with_reducible refine Ok_t (by first | assumption | omega) ?_
          | with_reducible refine Ok_f (by first | assumption | omega) ?_
          | with_reducible refine Ok_be (e_hasF (by decide) (by assumption)) ?_
          | with_reducible refine Ok_be (e_hasT (by decide) (by assumption)) ?_
          | with_reducible refine Ok_be (e_hasP (by decide) (by assumption)) ?_
          | with_reducible refine Ok_be (e_isCell (by first | assumption | omega)) ?_
          | with_reducible refine Ok_be (e_oor (by assumption) (by decide) (by decide)) ?_
          | with_reducible refine Ok_be (r_isIn (by first | assumption | omega) (by first | decide | omega) (by first | decide | omega)) ?_
          | with_reducible refine Ok_be (r_bound (by assumption) (by decide) (by decide)) ?_
          | with_reducible refine Ok_be (r_isF (by assumption) (by assumption)) ?_
          | with_reducible refine Ok_be (r_isT (by assumption) (by assumption)) ?_
          | with_reducible refine Ok_be (r_isP (by assumption) (by assumption)) ?_
          | with_reducible refine Ok_be (r_isCell (by first | assumption | omega)) ?_)
      refine Ok_mono (r_whatKind_44 (R := (rd M 130 8).toNat) (rw := fun j => rd M 133 j) (C := C) hn (by omega) hR12 hC s.2.1 C n 0 0 M1 (by omega) (by omega) s1 e0 (by rw [rd_of (km _ _ (by omega))]; exact hR8) (fun j _ => rd_of (km _ _ (by omega))) (by decide)) ?_
      rintro r' M2 ⟨er', s2⟩
      exact ⟨by rw [er', er], s2⟩
    repeat (first
        | with_reducible refine Ok_g (by first | assumption | omega) ?_
        | with_reducible refine Ok_lt ?_
        | with_reducible refine Ok_t (by first | assumption | omega) ?_
        | with_reducible refine Ok_f (by first | assumption | omega) ?_
        | with_reducible refine Ok_be (e_hasF (by decide) (by assumption)) ?_
        | with_reducible refine Ok_be (e_hasT (by decide) (by assumption)) ?_
        | with_reducible refine Ok_be (e_hasP (by decide) (by assumption)) ?_
        | with_reducible refine Ok_be (e_isCell (by first | assumption | omega)) ?_
        | with_reducible refine Ok_be (e_oor (by assumption) (by decide) (by decide)) ?_
        | with_reducible refine Ok_be (r_isIn (by first | assumption | omega) (by first | decide | omega) (by first | decide | omega)) ?_
        | with_reducible refine Ok_be (r_bound (by assumption) (by decide) (by decide)) ?_
        | with_reducible refine Ok_be (r_isF (by assumption) (by assumption)) ?_
        | with_reducible refine Ok_be (r_isT (by assumption) (by assumption)) ?_
        | with_reducible refine Ok_be (r_isP (by assumption) (by assumption)) ?_
        | with_reducible refine Ok_be (r_isCell (by first | assumption | omega)) ?_)
    refine Ok_if (fun g => ?_) (fun g => ?_)
    · unfold m_X5_whatKind_33 m_X5_whatKind_44
      repeat (first
          | with_reducible refine Ok_g (by first | assumption | omega) ?_
          | with_reducible refine Ok_lt ?_
          | with_reducible refine Ok_t (by first | assumption | omega) ?_
          | with_reducible refine Ok_f (by first | assumption | omega) ?_)
      exact main 8 (.inl ⟨g, rfl⟩)
    refine Ok_if (fun g1 => ?_) (fun g1 => ?_)
    · unfold m_X5_whatKind_33 m_X5_whatKind_44
      repeat (first
          | with_reducible refine Ok_g (by first | assumption | omega) ?_
          | with_reducible refine Ok_lt ?_
          | with_reducible refine Ok_t (by first | assumption | omega) ?_
          | with_reducible refine Ok_f (by first | assumption | omega) ?_)
      exact main 10 (.inr ⟨g1, rfl⟩)
    refine Ok_be (e_refuse 2 (by omega) (by decide) (by decide)) (Ok_ret ⟨by decide, ?_⟩)
    obtain ⟨wf1, rf1, rf2⟩ := sim_rf s (M1 := bump 134 M 2) (fun q i h => bump_ne (by omega))
    unfold m_X6_whatKind m_X6_whatKind_27
    repeat (first
        | with_reducible refine Ok_g (by first | assumption | omega) ?_
        | with_reducible refine Ok_lt ?_
        | with_reducible refine Ok_t (by first | assumption | omega) ?_
        | with_reducible refine Ok_f (by first | assumption | omega) ?_
        | with_reducible refine Ok_be (e_hasF (by decide) (by assumption)) ?_
        | with_reducible refine Ok_be (e_hasT (by decide) (by assumption)) ?_
        | with_reducible refine Ok_be (e_hasP (by decide) (by assumption)) ?_
        | with_reducible refine Ok_be (e_isCell (by first | assumption | omega)) ?_
        | with_reducible refine Ok_be (e_oor (by assumption) (by decide) (by decide)) ?_
        | with_reducible refine Ok_be (r_isIn (by first | assumption | omega) (by first | decide | omega) (by first | decide | omega)) ?_
        | with_reducible refine Ok_be (r_bound (by assumption) (by decide) (by decide)) ?_
        | with_reducible refine Ok_be (r_isF (by assumption) (by assumption)) ?_
        | with_reducible refine Ok_be (r_isT (by assumption) (by assumption)) ?_
        | with_reducible refine Ok_be (r_isP (by assumption) (by assumption)) ?_
        | with_reducible refine Ok_be (r_isCell (by first | assumption | omega)) ?_)
    exact Ok_be (r_no 2 (by omega) (by decide) (by decide)) (Ok_ret ⟨rfl, sim_bump s 2⟩)
  · repeat (first
        | with_reducible refine Ok_g (by first | assumption | omega) ?_
        | with_reducible refine Ok_lt ?_
        | with_reducible refine Ok_t (by first | assumption | omega) ?_
        | with_reducible refine Ok_f (by first | assumption | omega) ?_
        | with_reducible refine Ok_be (e_hasF (by decide) (by assumption)) ?_
        | with_reducible refine Ok_be (e_hasT (by decide) (by assumption)) ?_
        | with_reducible refine Ok_be (e_hasP (by decide) (by assumption)) ?_
        | with_reducible refine Ok_be (e_isCell (by first | assumption | omega)) ?_
        | with_reducible refine Ok_be (e_oor (by assumption) (by decide) (by decide)) ?_
        | with_reducible refine Ok_be (r_isIn (by first | assumption | omega) (by first | decide | omega) (by first | decide | omega)) ?_
        | with_reducible refine Ok_be (r_bound (by assumption) (by decide) (by decide)) ?_
        | with_reducible refine Ok_be (r_isF (by assumption) (by assumption)) ?_
        | with_reducible refine Ok_be (r_isT (by assumption) (by assumption)) ?_
        | with_reducible refine Ok_be (r_isP (by assumption) (by assumption)) ?_
        | with_reducible refine Ok_be (r_isCell (by first | assumption | omega)) ?_)
    refine Ok_be (e_refuse 1 (by omega) (by decide) (by decide)) (Ok_ret ⟨by decide, ?_⟩)
    obtain ⟨wf1, rf1, rf2⟩ := sim_rf s (M1 := bump 134 M 1) (fun q i h => bump_ne (by omega))
    unfold m_X6_whatKind m_X6_whatKind_27
    repeat (first
        | with_reducible refine Ok_g (by first | assumption | omega) ?_
        | with_reducible refine Ok_lt ?_
        | with_reducible refine Ok_t (by first | assumption | omega) ?_
        | with_reducible refine Ok_f (by first | assumption | omega) ?_
        | with_reducible refine Ok_be (e_hasF (by decide) (by assumption)) ?_
        | with_reducible refine Ok_be (e_hasT (by decide) (by assumption)) ?_
        | with_reducible refine Ok_be (e_hasP (by decide) (by assumption)) ?_
        | with_reducible refine Ok_be (e_isCell (by first | assumption | omega)) ?_
        | with_reducible refine Ok_be (e_oor (by assumption) (by decide) (by decide)) ?_
        | with_reducible refine Ok_be (r_isIn (by first | assumption | omega) (by first | decide | omega) (by first | decide | omega)) ?_
        | with_reducible refine Ok_be (r_bound (by assumption) (by decide) (by decide)) ?_
        | with_reducible refine Ok_be (r_isF (by assumption) (by assumption)) ?_
        | with_reducible refine Ok_be (r_isT (by assumption) (by assumption)) ?_
        | with_reducible refine Ok_be (r_isP (by assumption) (by assumption)) ?_
        | with_reducible refine Ok_be (r_isCell (by first | assumption | omega)) ?_)
    exact Ok_be (r_no 1 (by omega) (by decide) (by decide)) (Ok_ret ⟨rfl, sim_bump s 1⟩)
