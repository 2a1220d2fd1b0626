/-! plain questions -/
theorem q_thing {n : Nat} {M : Mem} {a b : Int} (s : Sim M) (ha : I32 a) (hb : I32 b) : Agr (m_X5_thing n M a b) (fun M1 => m_X6_thing n M1 a b) := by
  obtain ⟨wf0, vv0, rf0⟩ := sim_rf s (M1 := M) (fun _ _ _ => rfl)
  unfold Agr m_X5_thing
  by_cases h : 0 ≤ a ∧ a < rd M 0 7
  · repeat (first
        | with_reducible refine Ok_g (by first | assumption | omega) ?_
        | with_reducible refine Ok_lt ?_
        | with_reducible refine Ok_t (by first | assumption | omega) ?_
        | with_reducible refine Ok_f (by first | assumption | omega) ?_
        | with_reducible refine Ok_be (e_hasF (by decide) (by assumption)) ?_
        | with_reducible refine Ok_be (e_hasT (by decide) (by assumption)) ?_
        | with_reducible refine Ok_be (e_hasP (by decide) (by assumption)) ?_
        | with_reducible refine Ok_be (e_isCell (by first | assumption | omega)) ?_
        | with_reducible refine Ok_be (e_oor (by assumption) (by decide) (by decide)) ?_
        | with_reducible refine Ok_be (r_isIn (by first | assumption | omega) (by first | decide | omega) (by first | decide | omega)) ?_
        | with_reducible refine Ok_be (r_bound (by assumption) (by decide) (by decide)) ?_
        | with_reducible refine Ok_be (r_isF (by assumption) (by assumption)) ?_
        | with_reducible refine Ok_be (r_isT (by assumption) (by assumption)) ?_
        | with_reducible refine Ok_be (r_isP (by assumption) (by assumption)) ?_
        | with_reducible refine Ok_be (r_isCell (by first | assumption | omega)) ?_)
    have t := sim_t s (i := a.toNat) (by omega)
    have o := rd_rng M 6 a.toNat
    refine Ok_if (fun g => ?_) (fun g => ?_)
    · repeat (first
          | with_reducible refine Ok_g (by first | assumption | omega) ?_
          | with_reducible refine Ok_lt ?_
          | with_reducible refine Ok_t (by first | assumption | omega) ?_
          | with_reducible refine Ok_f (by first | assumption | omega) ?_)
      refine Ok_ret ⟨rd_rng _ _ _, ?_⟩
      unfold m_X6_thing
      repeat (first
          | with_reducible refine Ok_g (by first | assumption | omega) ?_
          | with_reducible refine Ok_lt ?_
          | with_reducible refine Ok_t (by first | assumption | omega) ?_
          | with_reducible refine Ok_f (by first | assumption | omega) ?_
          | with_reducible refine Ok_be (e_hasF (by decide) (by assumption)) ?_
          | with_reducible refine Ok_be (e_hasT (by decide) (by assumption)) ?_
          | with_reducible refine Ok_be (e_hasP (by decide) (by assumption)) ?_
          | with_reducible refine Ok_be (e_isCell (by first | assumption | omega)) ?_
          | with_reducible refine Ok_be (e_oor (by assumption) (by decide) (by decide)) ?_
          | with_reducible refine Ok_be (r_isIn (by first | assumption | omega) (by first | decide | omega) (by first | decide | omega)) ?_
          | with_reducible refine Ok_be (r_bound (by assumption) (by decide) (by decide)) ?_
          | with_reducible refine Ok_be (r_isF (by assumption) (by assumption)) ?_
          | with_reducible refine Ok_be (r_isT (by assumption) (by assumption)) ?_
          | with_reducible refine Ok_be (r_isP (by assumption) (by assumption)) ?_
          | with_reducible refine Ok_be (r_isCell (by first | assumption | omega)) ?_)
      exact Ok_ret ⟨t.1, s⟩
    refine Ok_if (fun g1 => ?_) (fun g1 => ?_)
    · repeat (first
          | with_reducible refine Ok_g (by first | assumption | omega) ?_
          | with_reducible refine Ok_lt ?_
          | with_reducible refine Ok_t (by first | assumption | omega) ?_
          | with_reducible refine Ok_f (by first | assumption | omega) ?_)
      refine Ok_ret ⟨rd_rng _ _ _, ?_⟩
      unfold m_X6_thing
      repeat (first
          | with_reducible refine Ok_g (by first | assumption | omega) ?_
          | with_reducible refine Ok_lt ?_
          | with_reducible refine Ok_t (by first | assumption | omega) ?_
          | with_reducible refine Ok_f (by first | assumption | omega) ?_
          | with_reducible refine Ok_be (e_hasF (by decide) (by assumption)) ?_
          | with_reducible refine Ok_be (e_hasT (by decide) (by assumption)) ?_
          | with_reducible refine Ok_be (e_hasP (by decide) (by assumption)) ?_
          | with_reducible refine Ok_be (e_isCell (by first | assumption | omega)) ?_
          | with_reducible refine Ok_be (e_oor (by assumption) (by decide) (by decide)) ?_
          | with_reducible refine Ok_be (r_isIn (by first | assumption | omega) (by first | decide | omega) (by first | decide | omega)) ?_
          | with_reducible refine Ok_be (r_bound (by assumption) (by decide) (by decide)) ?_
          | with_reducible refine Ok_be (r_isF (by assumption) (by assumption)) ?_
          | with_reducible refine Ok_be (r_isT (by assumption) (by assumption)) ?_
          | with_reducible refine Ok_be (r_isP (by assumption) (by assumption)) ?_
          | with_reducible refine Ok_be (r_isCell (by first | assumption | omega)) ?_)
      exact Ok_ret ⟨t.2.1, s⟩
    refine Ok_if (fun g2 => ?_) (fun g2 => ?_)
    · repeat (first
          | with_reducible refine Ok_g (by first | assumption | omega) ?_
          | with_reducible refine Ok_lt ?_
          | with_reducible refine Ok_t (by first | assumption | omega) ?_
          | with_reducible refine Ok_f (by first | assumption | omega) ?_)
      refine Ok_be (e_orNone (rd_rng _ _ _)) (Ok_ret ⟨by omega, ?_⟩)
      unfold m_X6_thing
      repeat (first
          | with_reducible refine Ok_g (by first | assumption | omega) ?_
          | with_reducible refine Ok_lt ?_
          | with_reducible refine Ok_t (by first | assumption | omega) ?_
          | with_reducible refine Ok_f (by first | assumption | omega) ?_
          | with_reducible refine Ok_be (e_hasF (by decide) (by assumption)) ?_
          | with_reducible refine Ok_be (e_hasT (by decide) (by assumption)) ?_
          | with_reducible refine Ok_be (e_hasP (by decide) (by assumption)) ?_
          | with_reducible refine Ok_be (e_isCell (by first | assumption | omega)) ?_
          | with_reducible refine Ok_be (e_oor (by assumption) (by decide) (by decide)) ?_
          | with_reducible refine Ok_be (r_isIn (by first | assumption | omega) (by first | decide | omega) (by first | decide | omega)) ?_
          | with_reducible refine Ok_be (r_bound (by assumption) (by decide) (by decide)) ?_
          | with_reducible refine Ok_be (r_isF (by assumption) (by assumption)) ?_
          | with_reducible refine Ok_be (r_isT (by assumption) (by assumption)) ?_
          | with_reducible refine Ok_be (r_isP (by assumption) (by assumption)) ?_
          | with_reducible refine Ok_be (r_isCell (by first | assumption | omega)) ?_)
      exact Ok_ret ⟨t.2.2, s⟩
    refine Ok_be (e_refuse 2 (by omega) (by decide) (by decide)) (Ok_ret ⟨by decide, ?_⟩)
    obtain ⟨wf1, rf1, rf2⟩ := sim_rf s (M1 := bump 134 M 2) (fun q i h => bump_ne (by omega))
    unfold m_X6_thing
    repeat (first
        | with_reducible refine Ok_g (by first | assumption | omega) ?_
        | with_reducible refine Ok_lt ?_
        | with_reducible refine Ok_t (by first | assumption | omega) ?_
        | with_reducible refine Ok_f (by first | assumption | omega) ?_
        | with_reducible refine Ok_be (e_hasF (by decide) (by assumption)) ?_
        | with_reducible refine Ok_be (e_hasT (by decide) (by assumption)) ?_
        | with_reducible refine Ok_be (e_hasP (by decide) (by assumption)) ?_
        | with_reducible refine Ok_be (e_isCell (by first | assumption | omega)) ?_
        | with_reducible refine Ok_be (e_oor (by assumption) (by decide) (by decide)) ?_
        | with_reducible refine Ok_be (r_isIn (by first | assumption | omega) (by first | decide | omega) (by first | decide | omega)) ?_
        | with_reducible refine Ok_be (r_bound (by assumption) (by decide) (by decide)) ?_
        | with_reducible refine Ok_be (r_isF (by assumption) (by assumption)) ?_
        | with_reducible refine Ok_be (r_isT (by assumption) (by assumption)) ?_
        | with_reducible refine Ok_be (r_isP (by assumption) (by assumption)) ?_
        | with_reducible refine Ok_be (r_isCell (by first | assumption | omega)) ?_)
    exact Ok_be (r_no 2 (by omega) (by decide) (by decide)) (Ok_ret ⟨rfl, sim_bump s 2⟩)
  · repeat (first
        | with_reducible refine Ok_g (by first | assumption | omega) ?_
        | with_reducible refine Ok_lt ?_
        | with_reducible refine Ok_t (by first | assumption | omega) ?_
        | with_reducible refine Ok_f (by first | assumption | omega) ?_
        | with_reducible refine Ok_be (e_hasF (by decide) (by assumption)) ?_
        | with_reducible refine Ok_be (e_hasT (by decide) (by assumption)) ?_
        | with_reducible refine Ok_be (e_hasP (by decide) (by assumption)) ?_
        | with_reducible refine Ok_be (e_isCell (by first | assumption | omega)) ?_
        | with_reducible refine Ok_be (e_oor (by assumption) (by decide) (by decide)) ?_
        | with_reducible refine Ok_be (r_isIn (by first | assumption | omega) (by first | decide | omega) (by first | decide | omega)) ?_
        | with_reducible refine Ok_be (r_bound (by assumption) (by decide) (by decide)) ?_
        | with_reducible refine Ok_be (r_isF (by assumption) (by assumption)) ?_
        | with_reducible refine Ok_be (r_isT (by assumption) (by assumption)) ?_
        | with_reducible refine Ok_be (r_isP (by assumption) (by assumption)) ?_
        | with_reducible refine Ok_be (r_isCell (by first | assumption | omega)) ?_)
    refine Ok_be (e_refuse 1 (by omega) (by decide) (by decide)) (Ok_ret ⟨by decide, ?_⟩)
    obtain ⟨wf1, rf1, rf2⟩ := sim_rf s (M1 := bump 134 M 1) (fun q i h => bump_ne (by omega))
    unfold m_X6_thing
    repeat (first
        | with_reducible refine Ok_g (by first | assumption | omega) ?_
        | with_reducible refine Ok_lt ?_
        | with_reducible refine Ok_t (by first | assumption | omega) ?_
        | with_reducible refine Ok_f (by first | assumption | omega) ?_
        | with_reducible refine Ok_be (e_hasF (by decide) (by assumption)) ?_
        | with_reducible refine Ok_be (e_hasT (by decide) (by assumption)) ?_
        | with_reducible refine Ok_be (e_hasP (by decide) (by assumption)) ?_
        | with_reducible refine Ok_be (e_isCell (by first | assumption | omega)) ?_
        | with_reducible refine Ok_be (e_oor (by assumption) (by decide) (by decide)) ?_
        | with_reducible refine Ok_be (r_isIn (by first | assumption | omega) (by first | decide | omega) (by first | decide | omega)) ?_
        | with_reducible refine Ok_be (r_bound (by assumption) (by decide) (by decide)) ?_
        | with_reducible refine Ok_be (r_isF (by assumption) (by assumption)) ?_
        | with_reducible refine Ok_be (r_isT (by assumption) (by assumption)) ?_
        | with_reducible refine Ok_be (r_isP (by assumption) (by assumption)) ?_
        | with_reducible refine Ok_be (r_isCell (by first | assumption | omega)) ?_)
    exact Ok_be (r_no 1 (by omega) (by decide) (by decide)) (Ok_ret ⟨rfl, sim_bump s 1⟩)
theorem q_front {n : Nat} {M : Mem} {a b : Int} (s : Sim M) (ha : I32 a) (hb : I32 b) : Agr (m_X5_front n M a b) (fun M1 => m_X6_front n M1 a b) := by
  obtain ⟨wf0, vv0, rf0⟩ := sim_rf s (M1 := M) (fun _ _ _ => rfl)
  unfold Agr m_X5_front
  by_cases h : 0 ≤ a ∧ a < rd M 0 3
  · repeat (first
        | with_reducible refine Ok_g (by first | assumption | omega) ?_
        | with_reducible refine Ok_lt ?_
        | with_reducible refine Ok_t (by first | assumption | omega) ?_
        | with_reducible refine Ok_f (by first | assumption | omega) ?_
        | with_reducible refine Ok_be (e_hasF (by decide) (by assumption)) ?_
        | with_reducible refine Ok_be (e_hasT (by decide) (by assumption)) ?_
        | with_reducible refine Ok_be (e_hasP (by decide) (by assumption)) ?_
        | with_reducible refine Ok_be (e_isCell (by first | assumption | omega)) ?_
        | with_reducible refine Ok_be (e_oor (by assumption) (by decide) (by decide)) ?_
        | with_reducible refine Ok_be (r_isIn (by first | assumption | omega) (by first | decide | omega) (by first | decide | omega)) ?_
        | with_reducible refine Ok_be (r_bound (by assumption) (by decide) (by decide)) ?_
        | with_reducible refine Ok_be (r_isF (by assumption) (by assumption)) ?_
        | with_reducible refine Ok_be (r_isT (by assumption) (by assumption)) ?_
        | with_reducible refine Ok_be (r_isP (by assumption) (by assumption)) ?_
        | with_reducible refine Ok_be (r_isCell (by first | assumption | omega)) ?_)
    have t := sim_f s (i := a.toNat) (by omega)
    refine Ok_if (fun g => ?_) (fun g => ?_)
    · repeat (first
          | with_reducible refine Ok_g (by first | assumption | omega) ?_
          | with_reducible refine Ok_lt ?_
          | with_reducible refine Ok_t (by first | assumption | omega) ?_
          | with_reducible refine Ok_f (by first | assumption | omega) ?_)
      refine Ok_ret ⟨rd_rng _ _ _, ?_⟩
      unfold m_X6_front
      repeat (first
          | with_reducible refine Ok_g (by first | assumption | omega) ?_
          | with_reducible refine Ok_lt ?_
          | with_reducible refine Ok_t (by first | assumption | omega) ?_
          | with_reducible refine Ok_f (by first | assumption | omega) ?_
          | with_reducible refine Ok_be (e_hasF (by decide) (by assumption)) ?_
          | with_reducible refine Ok_be (e_hasT (by decide) (by assumption)) ?_
          | with_reducible refine Ok_be (e_hasP (by decide) (by assumption)) ?_
          | with_reducible refine Ok_be (e_isCell (by first | assumption | omega)) ?_
          | with_reducible refine Ok_be (e_oor (by assumption) (by decide) (by decide)) ?_
          | with_reducible refine Ok_be (r_isIn (by first | assumption | omega) (by first | decide | omega) (by first | decide | omega)) ?_
          | with_reducible refine Ok_be (r_bound (by assumption) (by decide) (by decide)) ?_
          | with_reducible refine Ok_be (r_isF (by assumption) (by assumption)) ?_
          | with_reducible refine Ok_be (r_isT (by assumption) (by assumption)) ?_
          | with_reducible refine Ok_be (r_isP (by assumption) (by assumption)) ?_
          | with_reducible refine Ok_be (r_isCell (by first | assumption | omega)) ?_)
      exact Ok_ret ⟨t.1, s⟩
    refine Ok_if (fun g1 => ?_) (fun g1 => ?_)
    · repeat (first
          | with_reducible refine Ok_g (by first | assumption | omega) ?_
          | with_reducible refine Ok_lt ?_
          | with_reducible refine Ok_t (by first | assumption | omega) ?_
          | with_reducible refine Ok_f (by first | assumption | omega) ?_)
      refine Ok_ret ⟨rd_rng _ _ _, ?_⟩
      unfold m_X6_front
      repeat (first
          | with_reducible refine Ok_g (by first | assumption | omega) ?_
          | with_reducible refine Ok_lt ?_
          | with_reducible refine Ok_t (by first | assumption | omega) ?_
          | with_reducible refine Ok_f (by first | assumption | omega) ?_
          | with_reducible refine Ok_be (e_hasF (by decide) (by assumption)) ?_
          | with_reducible refine Ok_be (e_hasT (by decide) (by assumption)) ?_
          | with_reducible refine Ok_be (e_hasP (by decide) (by assumption)) ?_
          | with_reducible refine Ok_be (e_isCell (by first | assumption | omega)) ?_
          | with_reducible refine Ok_be (e_oor (by assumption) (by decide) (by decide)) ?_
          | with_reducible refine Ok_be (r_isIn (by first | assumption | omega) (by first | decide | omega) (by first | decide | omega)) ?_
          | with_reducible refine Ok_be (r_bound (by assumption) (by decide) (by decide)) ?_
          | with_reducible refine Ok_be (r_isF (by assumption) (by assumption)) ?_
          | with_reducible refine Ok_be (r_isT (by assumption) (by assumption)) ?_
          | with_reducible refine Ok_be (r_isP (by assumption) (by assumption)) ?_
          | with_reducible refine Ok_be (r_isCell (by first | assumption | omega)) ?_)
      exact Ok_ret ⟨t.2.1, s⟩
    refine Ok_if (fun g2 => ?_) (fun g2 => ?_)
    · repeat (first
          | with_reducible refine Ok_g (by first | assumption | omega) ?_
          | with_reducible refine Ok_lt ?_
          | with_reducible refine Ok_t (by first | assumption | omega) ?_
          | with_reducible refine Ok_f (by first | assumption | omega) ?_)
      refine Ok_ret ⟨rd_rng _ _ _, ?_⟩
      unfold m_X6_front
      repeat (first
          | with_reducible refine Ok_g (by first | assumption | omega) ?_
          | with_reducible refine Ok_lt ?_
          | with_reducible refine Ok_t (by first | assumption | omega) ?_
          | with_reducible refine Ok_f (by first | assumption | omega) ?_
          | with_reducible refine Ok_be (e_hasF (by decide) (by assumption)) ?_
          | with_reducible refine Ok_be (e_hasT (by decide) (by assumption)) ?_
          | with_reducible refine Ok_be (e_hasP (by decide) (by assumption)) ?_
          | with_reducible refine Ok_be (e_isCell (by first | assumption | omega)) ?_
          | with_reducible refine Ok_be (e_oor (by assumption) (by decide) (by decide)) ?_
          | with_reducible refine Ok_be (r_isIn (by first | assumption | omega) (by first | decide | omega) (by first | decide | omega)) ?_
          | with_reducible refine Ok_be (r_bound (by assumption) (by decide) (by decide)) ?_
          | with_reducible refine Ok_be (r_isF (by assumption) (by assumption)) ?_
          | with_reducible refine Ok_be (r_isT (by assumption) (by assumption)) ?_
          | with_reducible refine Ok_be (r_isP (by assumption) (by assumption)) ?_
          | with_reducible refine Ok_be (r_isCell (by first | assumption | omega)) ?_)
      exact Ok_ret ⟨t.2.2, s⟩
    refine Ok_be (e_refuse 2 (by omega) (by decide) (by decide)) (Ok_ret ⟨by decide, ?_⟩)
    obtain ⟨wf1, rf1, rf2⟩ := sim_rf s (M1 := bump 134 M 2) (fun q i h => bump_ne (by omega))
    unfold m_X6_front
    repeat (first
        | with_reducible refine Ok_g (by first | assumption | omega) ?_
        | with_reducible refine Ok_lt ?_
        | with_reducible refine Ok_t (by first | assumption | omega) ?_
        | with_reducible refine Ok_f (by first | assumption | omega) ?_
        | with_reducible refine Ok_be (e_hasF (by decide) (by assumption)) ?_
        | with_reducible refine Ok_be (e_hasT (by decide) (by assumption)) ?_
        | with_reducible refine Ok_be (e_hasP (by decide) (by assumption)) ?_
        | with_reducible refine Ok_be (e_isCell (by first | assumption | omega)) ?_
        | with_reducible refine Ok_be (e_oor (by assumption) (by decide) (by decide)) ?_
        | with_reducible refine Ok_be (r_isIn (by first | assumption | omega) (by first | decide | omega) (by first | decide | omega)) ?_
        | with_reducible refine Ok_be (r_bound (by assumption) (by decide) (by decide)) ?_
        | with_reducible refine Ok_be (r_isF (by assumption) (by assumption)) ?_
        | with_reducible refine Ok_be (r_isT (by assumption) (by assumption)) ?_
        | with_reducible refine Ok_be (r_isP (by assumption) (by assumption)) ?_
        | with_reducible refine Ok_be (r_isCell (by first | assumption | omega)) ?_)
    exact Ok_be (r_no 2 (by omega) (by decide) (by decide)) (Ok_ret ⟨rfl, sim_bump s 2⟩)
  · repeat (first
        | with_reducible refine Ok_g (by first | assumption | omega) ?_
        | with_reducible refine Ok_lt ?_
        | with_reducible refine Ok_t (by first | assumption | omega) ?_
        | with_reducible refine Ok_f (by first | assumption | omega) ?_
        | with_reducible refine Ok_be (e_hasF (by decide) (by assumption)) ?_
        | with_reducible refine Ok_be (e_hasT (by decide) (by assumption)) ?_
        | with_reducible refine Ok_be (e_hasP (by decide) (by assumption)) ?_
        | with_reducible refine Ok_be (e_isCell (by first | assumption | omega)) ?_
        | with_reducible refine Ok_be (e_oor (by assumption) (by decide) (by decide)) ?_
        | with_reducible refine Ok_be (r_isIn (by first | assumption | omega) (by first | decide | omega) (by first | decide | omega)) ?_
        | with_reducible refine Ok_be (r_bound (by assumption) (by decide) (by decide)) ?_
        | with_reducible refine Ok_be (r_isF (by assumption) (by assumption)) ?_
        | with_reducible refine Ok_be (r_isT (by assumption) (by assumption)) ?_
        | with_reducible refine Ok_be (r_isP (by assumption) (by assumption)) ?_
        | with_reducible refine Ok_be (r_isCell (by first | assumption | omega)) ?_)
    refine Ok_be (e_refuse 1 (by omega) (by decide) (by decide)) (Ok_ret ⟨by decide, ?_⟩)
    obtain ⟨wf1, rf1, rf2⟩ := sim_rf s (M1 := bump 134 M 1) (fun q i h => bump_ne (by omega))
    unfold m_X6_front
    repeat (first
        | with_reducible refine Ok_g (by first | assumption | omega) ?_
        | with_reducible refine Ok_lt ?_
        | with_reducible refine Ok_t (by first | assumption | omega) ?_
        | with_reducible refine Ok_f (by first | assumption | omega) ?_
        | with_reducible refine Ok_be (e_hasF (by decide) (by assumption)) ?_
        | with_reducible refine Ok_be (e_hasT (by decide) (by assumption)) ?_
        | with_reducible refine Ok_be (e_hasP (by decide) (by assumption)) ?_
        | with_reducible refine Ok_be (e_isCell (by first | assumption | omega)) ?_
        | with_reducible refine Ok_be (e_oor (by assumption) (by decide) (by decide)) ?_
        | with_reducible refine Ok_be (r_isIn (by first | assumption | omega) (by first | decide | omega) (by first | decide | omega)) ?_
        | with_reducible refine Ok_be (r_bound (by assumption) (by decide) (by decide)) ?_
        | with_reducible refine Ok_be (r_isF (by assumption) (by assumption)) ?_
        | with_reducible refine Ok_be (r_isT (by assumption) (by assumption)) ?_
        | with_reducible refine Ok_be (r_isP (by assumption) (by assumption)) ?_
        | with_reducible refine Ok_be (r_isCell (by first | assumption | omega)) ?_)
    exact Ok_be (r_no 1 (by omega) (by decide) (by decide)) (Ok_ret ⟨rfl, sim_bump s 1⟩)
theorem Lk_hour {M : Mem} {v : Int} (e : vw (mup M 22 13 v) 22 = uset (vw M 22) 0 13 v) : SameF (vw (mup M 22 13 v) 22) (vw M 22) := by
  rw [e]
  exact ⟨uset_ni _ _ (by decide), fun i _ => ⟨uset_nk _ _ (by decide), uset_nk _ _ (by decide), uset_nk _ _ (by decide)⟩⟩
theorem airS_hour (u : US) (x c h : Int) : airS (uset u 0 13 x) c h = airS u c h := airS_c c h (uset_ni _ _ (by decide)) (fun i _ => uset_nk _ _ (by decide)) (fun i _ => uset_nk _ _ (by decide)) (fun i _ => uset_nk _ _ (by decide))
theorem goalS_hour (u : US) (p : Nat) (x h : Int) : goalS (uset u 0 13 x) p h = goalS u p h := by
  have e : ∀ a b, a ≠ 0 → uset u 0 13 x a b = u a b := fun a b h => uset_nk _ _ h
  have e7 : uset u 0 13 x 0 7 = u 0 7 := uset_ni _ _ (by decide)
  have e21 : uset u 0 13 x 0 21 = u 0 21 := uset_ni _ _ (by decide)
  have n1 : nearS (uset u 0 13 x) p = nearS u p := by
    unfold nearS
    simp only [e7, e 6 _ (by decide), e 5 _ (by decide), e 10 _ (by decide)]
  have n2 : richS (uset u 0 13 x) p = richS u p := by
    unfold richS
    simp only [e7, e 6 _ (by decide), e 4 _ (by decide)]
  have n3 : airyS (uset u 0 13 x) h = airyS u h := by
    unfold airyS airOS
    simp only [e21, airS_hour]
  unfold goalS thiefS childS
  simp only [n1, n2, n3, e 7 _ (by decide), e 9 _ (by decide), e 5 _ (by decide)]
theorem q_person {n : Nat} {M : Mem} {a b : Int} (hn : 2000 ≤ n) (s : Sim M) (ha : I32 a) (hb : I32 b) : Agr (m_X5_person n M a b) (fun M1 => m_X6_person n M1 a b) := by
  obtain ⟨wf0, vv0, rf0⟩ := sim_rf s (M1 := M) (fun _ _ _ => rfl)
  unfold Agr m_X5_person
  by_cases h : 0 ≤ a ∧ a < rd M 0 12
  · repeat (first
        | with_reducible refine Ok_g (by first | assumption | omega) ?_
        | with_reducible refine Ok_lt ?_
        | with_reducible refine Ok_t (by first | assumption | omega) ?_
        | with_reducible refine Ok_f (by first | assumption | omega) ?_
        | with_reducible refine Ok_be (e_hasF (by decide) (by assumption)) ?_
        | with_reducible refine Ok_be (e_hasT (by decide) (by assumption)) ?_
        | with_reducible refine Ok_be (e_hasP (by decide) (by assumption)) ?_
        | with_reducible refine Ok_be (e_isCell (by first | assumption | omega)) ?_
        | with_reducible refine Ok_be (e_oor (by assumption) (by decide) (by decide)) ?_
        | with_reducible refine Ok_be (r_isIn (by first | assumption | omega) (by first | decide | omega) (by first | decide | omega)) ?_
        | with_reducible refine Ok_be (r_bound (by assumption) (by decide) (by decide)) ?_
        | with_reducible refine Ok_be (r_isF (by assumption) (by assumption)) ?_
        | with_reducible refine Ok_be (r_isT (by assumption) (by assumption)) ?_
        | with_reducible refine Ok_be (r_isP (by assumption) (by assumption)) ?_
        | with_reducible refine Ok_be (r_isCell (by first | assumption | omega)) ?_)
    obtain ⟨p, rfl⟩ := Int.eq_ofNat_of_zero_le h.1
    have hp : p < 5 := by omega
    have t := sim_p s hp
    have q := pW s.2.1 hp
    simp only [Nat.reduceAdd, Int.toNat_natCast] at *
    have q8 : 0 ≤ vw M 0 8 p ∧ vw M 0 8 p ≤ 9 := (wFp s.2.1 p).2.1
    refine Ok_if (fun g => ?_) (fun g => ?_)
    · repeat (first
          | with_reducible refine Ok_g (by first | assumption | omega) ?_
          | with_reducible refine Ok_lt ?_
          | with_reducible refine Ok_t (by first | assumption | omega) ?_
          | with_reducible refine Ok_f (by first | assumption | omega) ?_)
      refine Ok_ret ⟨rd_rng _ _ _, ?_⟩
      unfold m_X6_person
      repeat (first
          | with_reducible refine Ok_g (by first | assumption | omega) ?_
          | with_reducible refine Ok_lt ?_
          | with_reducible refine Ok_t (by first | assumption | omega) ?_
          | with_reducible refine Ok_f (by first | assumption | omega) ?_
          | with_reducible refine Ok_be (e_hasF (by decide) (by assumption)) ?_
          | with_reducible refine Ok_be (e_hasT (by decide) (by assumption)) ?_
          | with_reducible refine Ok_be (e_hasP (by decide) (by assumption)) ?_
          | with_reducible refine Ok_be (e_isCell (by first | assumption | omega)) ?_
          | with_reducible refine Ok_be (e_oor (by assumption) (by decide) (by decide)) ?_
          | with_reducible refine Ok_be (r_isIn (by first | assumption | omega) (by first | decide | omega) (by first | decide | omega)) ?_
          | with_reducible refine Ok_be (r_bound (by assumption) (by decide) (by decide)) ?_
          | with_reducible refine Ok_be (r_isF (by assumption) (by assumption)) ?_
          | with_reducible refine Ok_be (r_isT (by assumption) (by assumption)) ?_
          | with_reducible refine Ok_be (r_isP (by assumption) (by assumption)) ?_
          | with_reducible refine Ok_be (r_isCell (by first | assumption | omega)) ?_)
      exact Ok_ret ⟨t.1, s⟩
    refine Ok_if (fun g1 => ?_) (fun g1 => ?_)
    · repeat (first
          | with_reducible refine Ok_g (by first | assumption | omega) ?_
          | with_reducible refine Ok_lt ?_
          | with_reducible refine Ok_t (by first | assumption | omega) ?_
          | with_reducible refine Ok_f (by first | assumption | omega) ?_)
      refine Ok_ret ⟨rd_rng _ _ _, ?_⟩
      unfold m_X6_person
      repeat (first
          | with_reducible refine Ok_g (by first | assumption | omega) ?_
          | with_reducible refine Ok_lt ?_
          | with_reducible refine Ok_t (by first | assumption | omega) ?_
          | with_reducible refine Ok_f (by first | assumption | omega) ?_
          | with_reducible refine Ok_be (e_hasF (by decide) (by assumption)) ?_
          | with_reducible refine Ok_be (e_hasT (by decide) (by assumption)) ?_
          | with_reducible refine Ok_be (e_hasP (by decide) (by assumption)) ?_
          | with_reducible refine Ok_be (e_isCell (by first | assumption | omega)) ?_
          | with_reducible refine Ok_be (e_oor (by assumption) (by decide) (by decide)) ?_
          | with_reducible refine Ok_be (r_isIn (by first | assumption | omega) (by first | decide | omega) (by first | decide | omega)) ?_
          | with_reducible refine Ok_be (r_bound (by assumption) (by decide) (by decide)) ?_
          | with_reducible refine Ok_be (r_isF (by assumption) (by assumption)) ?_
          | with_reducible refine Ok_be (r_isT (by assumption) (by assumption)) ?_
          | with_reducible refine Ok_be (r_isP (by assumption) (by assumption)) ?_
          | with_reducible refine Ok_be (r_isCell (by first | assumption | omega)) ?_)
      exact Ok_ret ⟨t.2.1, s⟩
    refine Ok_if (fun g2 => ?_) (fun g2 => ?_)
    · repeat (first
          | with_reducible refine Ok_g (by first | assumption | omega) ?_
          | with_reducible refine Ok_lt ?_
          | with_reducible refine Ok_t (by first | assumption | omega) ?_
          | with_reducible refine Ok_f (by first | assumption | omega) ?_)
      refine Ok_ret ⟨rd_rng _ _ _, ?_⟩
      unfold m_X6_person
      repeat (first
          | with_reducible refine Ok_g (by first | assumption | omega) ?_
          | with_reducible refine Ok_lt ?_
          | with_reducible refine Ok_t (by first | assumption | omega) ?_
          | with_reducible refine Ok_f (by first | assumption | omega) ?_
          | with_reducible refine Ok_be (e_hasF (by decide) (by assumption)) ?_
          | with_reducible refine Ok_be (e_hasT (by decide) (by assumption)) ?_
          | with_reducible refine Ok_be (e_hasP (by decide) (by assumption)) ?_
          | with_reducible refine Ok_be (e_isCell (by first | assumption | omega)) ?_
          | with_reducible refine Ok_be (e_oor (by assumption) (by decide) (by decide)) ?_
          | with_reducible refine Ok_be (r_isIn (by first | assumption | omega) (by first | decide | omega) (by first | decide | omega)) ?_
          | with_reducible refine Ok_be (r_bound (by assumption) (by decide) (by decide)) ?_
          | with_reducible refine Ok_be (r_isF (by assumption) (by assumption)) ?_
          | with_reducible refine Ok_be (r_isT (by assumption) (by assumption)) ?_
          | with_reducible refine Ok_be (r_isP (by assumption) (by assumption)) ?_
          | with_reducible refine Ok_be (r_isCell (by first | assumption | omega)) ?_)
      exact Ok_ret ⟨t.2.2.1, s⟩
    refine Ok_if (fun g3 => ?_) (fun g3 => ?_)
    · repeat (first
          | with_reducible refine Ok_g (by first | assumption | omega) ?_
          | with_reducible refine Ok_lt ?_
          | with_reducible refine Ok_t (by first | assumption | omega) ?_
          | with_reducible refine Ok_f (by first | assumption | omega) ?_)
      refine Ok_ret ⟨rd_rng _ _ _, ?_⟩
      unfold m_X6_person
      repeat (first
          | with_reducible refine Ok_g (by first | assumption | omega) ?_
          | with_reducible refine Ok_lt ?_
          | with_reducible refine Ok_t (by first | assumption | omega) ?_
          | with_reducible refine Ok_f (by first | assumption | omega) ?_
          | with_reducible refine Ok_be (e_hasF (by decide) (by assumption)) ?_
          | with_reducible refine Ok_be (e_hasT (by decide) (by assumption)) ?_
          | with_reducible refine Ok_be (e_hasP (by decide) (by assumption)) ?_
          | with_reducible refine Ok_be (e_isCell (by first | assumption | omega)) ?_
          | with_reducible refine Ok_be (e_oor (by assumption) (by decide) (by decide)) ?_
          | with_reducible refine Ok_be (r_isIn (by first | assumption | omega) (by first | decide | omega) (by first | decide | omega)) ?_
          | with_reducible refine Ok_be (r_bound (by assumption) (by decide) (by decide)) ?_
          | with_reducible refine Ok_be (r_isF (by assumption) (by assumption)) ?_
          | with_reducible refine Ok_be (r_isT (by assumption) (by assumption)) ?_
          | with_reducible refine Ok_be (r_isP (by assumption) (by assumption)) ?_
          | with_reducible refine Ok_be (r_isCell (by first | assumption | omega)) ?_)
      exact Ok_ret ⟨t.2.2.2, s⟩
    refine Ok_if (fun g4 => ?_) (fun g4 => ?_)
    · repeat (first
          | with_reducible refine Ok_g (by first | assumption | omega) ?_
          | with_reducible refine Ok_lt ?_
          | with_reducible refine Ok_t (by first | assumption | omega) ?_
          | with_reducible refine Ok_f (by first | assumption | omega) ?_)
      have := paceS_b (k := rd M 7 p) q.2.2.1
      refine Ok_be (e_X1_pace (rd_rng _ _ _) q.2.2.1) (Ok_ret ⟨by omega, ?_⟩)
      unfold m_X6_person
      repeat (first
          | with_reducible refine Ok_g (by first | assumption | omega) ?_
          | with_reducible refine Ok_lt ?_
          | with_reducible refine Ok_t (by first | assumption | omega) ?_
          | with_reducible refine Ok_f (by first | assumption | omega) ?_
          | with_reducible refine Ok_be (e_hasF (by decide) (by assumption)) ?_
          | with_reducible refine Ok_be (e_hasT (by decide) (by assumption)) ?_
          | with_reducible refine Ok_be (e_hasP (by decide) (by assumption)) ?_
          | with_reducible refine Ok_be (e_isCell (by first | assumption | omega)) ?_
          | with_reducible refine Ok_be (e_oor (by assumption) (by decide) (by decide)) ?_
          | with_reducible refine Ok_be (r_isIn (by first | assumption | omega) (by first | decide | omega) (by first | decide | omega)) ?_
          | with_reducible refine Ok_be (r_bound (by assumption) (by decide) (by decide)) ?_
          | with_reducible refine Ok_be (r_isF (by assumption) (by assumption)) ?_
          | with_reducible refine Ok_be (r_isT (by assumption) (by assumption)) ?_
          | with_reducible refine Ok_be (r_isP (by assumption) (by assumption)) ?_
          | with_reducible refine Ok_be (r_isCell (by first | assumption | omega)) ?_)
      refine Ok_be (r_pace wf0 hp) (Ok_ret ⟨?_, s⟩)
      rw [vv0, q.1.1, q.1.2.1]
    refine Ok_if (fun g5 => ?_) (fun g5 => ?_)
    · repeat (first
          | with_reducible refine Ok_g (by first | assumption | omega) ?_
          | with_reducible refine Ok_lt ?_
          | with_reducible refine Ok_t (by first | assumption | omega) ?_
          | with_reducible refine Ok_f (by first | assumption | omega) ?_)
      have := grabsS_b (k := rd M 7 p) q.2.2.1
      refine Ok_be (e_X1_grabs (rd_rng _ _ _) q.2.2.1) (Ok_ret ⟨by omega, ?_⟩)
      unfold m_X6_person
      repeat (first
          | with_reducible refine Ok_g (by first | assumption | omega) ?_
          | with_reducible refine Ok_lt ?_
          | with_reducible refine Ok_t (by first | assumption | omega) ?_
          | with_reducible refine Ok_f (by first | assumption | omega) ?_
          | with_reducible refine Ok_be (e_hasF (by decide) (by assumption)) ?_
          | with_reducible refine Ok_be (e_hasT (by decide) (by assumption)) ?_
          | with_reducible refine Ok_be (e_hasP (by decide) (by assumption)) ?_
          | with_reducible refine Ok_be (e_isCell (by first | assumption | omega)) ?_
          | with_reducible refine Ok_be (e_oor (by assumption) (by decide) (by decide)) ?_
          | with_reducible refine Ok_be (r_isIn (by first | assumption | omega) (by first | decide | omega) (by first | decide | omega)) ?_
          | with_reducible refine Ok_be (r_bound (by assumption) (by decide) (by decide)) ?_
          | with_reducible refine Ok_be (r_isF (by assumption) (by assumption)) ?_
          | with_reducible refine Ok_be (r_isT (by assumption) (by assumption)) ?_
          | with_reducible refine Ok_be (r_isP (by assumption) (by assumption)) ?_
          | with_reducible refine Ok_be (r_isCell (by first | assumption | omega)) ?_)
      refine Ok_be (r_grabs wf0 hp) (Ok_ret ⟨?_, s⟩)
      rw [vv0, q.1.1, q.1.2.1]
    refine Ok_if (fun g6 => ?_) (fun g6 => ?_)
    · repeat (first
          | with_reducible refine Ok_g (by first | assumption | omega) ?_
          | with_reducible refine Ok_lt ?_
          | with_reducible refine Ok_t (by first | assumption | omega) ?_
          | with_reducible refine Ok_f (by first | assumption | omega) ?_)
      have := steamS_b (k := rd M 7 p) q.2.2.1
      refine Ok_be (e_X1_steam (rd_rng _ _ _) q.2.2.1) (Ok_ret ⟨by omega, ?_⟩)
      unfold m_X6_person
      repeat (first
          | with_reducible refine Ok_g (by first | assumption | omega) ?_
          | with_reducible refine Ok_lt ?_
          | with_reducible refine Ok_t (by first | assumption | omega) ?_
          | with_reducible refine Ok_f (by first | assumption | omega) ?_
          | with_reducible refine Ok_be (e_hasF (by decide) (by assumption)) ?_
          | with_reducible refine Ok_be (e_hasT (by decide) (by assumption)) ?_
          | with_reducible refine Ok_be (e_hasP (by decide) (by assumption)) ?_
          | with_reducible refine Ok_be (e_isCell (by first | assumption | omega)) ?_
          | with_reducible refine Ok_be (e_oor (by assumption) (by decide) (by decide)) ?_
          | with_reducible refine Ok_be (r_isIn (by first | assumption | omega) (by first | decide | omega) (by first | decide | omega)) ?_
          | with_reducible refine Ok_be (r_bound (by assumption) (by decide) (by decide)) ?_
          | with_reducible refine Ok_be (r_isF (by assumption) (by assumption)) ?_
          | with_reducible refine Ok_be (r_isT (by assumption) (by assumption)) ?_
          | with_reducible refine Ok_be (r_isP (by assumption) (by assumption)) ?_
          | with_reducible refine Ok_be (r_isCell (by first | assumption | omega)) ?_)
      refine Ok_be (r_steam wf0 hp) (Ok_ret ⟨?_, s⟩)
      rw [vv0, q.1.1, q.1.2.1]
    refine Ok_if (fun g7 => ?_) (fun g7 => ?_)
    · refine Ok_bd (e_begin hn s.2.2.1 s.2.1 (by decide)) ?_
      rintro _ M1 ⟨v1, k1, l1, f1⟩
      refine Ok_wr ?_
      have w1 : WF 999 (vw M1 22) := by rw [v1]; exact s.2.1
      have b1 := sW w1
      have e1 : vw (mup M1 22 13 (rd M1 22 13 + 1)) 22 = uset (vw M1 22) 0 13 (rd M1 22 13 + 1) := vw_sets (by omega) (by omega) (by omega)
      have w2 : WF 1000 (vw (mup M1 22 13 (rd M1 22 13 + 1)) 22) := by
        rw [e1]
        exact WF_set (WF_le w1 (by omega)) 0 13 (by show (0 : Int) ≤ _; omega) (by show _ ≤ (1000 : Int); omega)
      refine Ok_bd (e_look (H := 1000) hn (SkyOk_keep k1 (fun q i _ _ => mup_n _ (by omega))) w2 (by decide)) ?_
      rintro _ M2 ⟨k2, l2, v2, f2⟩
      have w3 : WF 1000 (vw M2 22) := by rw [v2]; exact w2
      have gb := goalS_b w3 p (vw M2 22 0 13)
      refine Ok_be (e_goal hn w3 l2 hp) (Ok_ret ⟨by omega, ?_⟩)
      have km : KM M M2 := fun q i hq => by rw [f2 q i (by omega) (by omega), mup_n _ (by omega), f1 q i (by omega)]
      have s2 := sim_KM s k2 km
      have h13 : rd M1 22 13 = rd M 0 13 := by
        have := congrFun (congrFun v1 0) 13
        rw [vw_s (by omega), vw_s (by omega)] at this
        exact this
      obtain ⟨wf2, vv2, rf2⟩ := sim_rf s2 (M1 := M2) (fun _ _ _ => rfl)
      have z12 : rd M2 0 12 = rd M 0 12 := rd_of (km _ _ (by omega))
      have z13 : rd M2 0 13 = rd M 0 13 := rd_of (km _ _ (by omega))
      unfold m_X6_person
      repeat (first
          | with_reducible refine Ok_g (by first | assumption | omega) ?_
          | with_reducible refine Ok_lt ?_
          | with_reducible refine Ok_t (by first | assumption | omega) ?_
          | with_reducible refine Ok_f (by first | assumption | omega) ?_
          | with_reducible refine Ok_be (e_hasF (by decide) (by assumption)) ?_
          | with_reducible refine Ok_be (e_hasT (by decide) (by assumption)) ?_
          | with_reducible refine Ok_be (e_hasP (by decide) (by assumption)) ?_
          | with_reducible refine Ok_be (e_isCell (by first | assumption | omega)) ?_
          | with_reducible refine Ok_be (e_oor (by assumption) (by decide) (by decide)) ?_
          | with_reducible refine Ok_be (r_isIn (by first | assumption | omega) (by first | decide | omega) (by first | decide | omega)) ?_
          | with_reducible refine Ok_be (r_bound (by assumption) (by decide) (by decide)) ?_
          | with_reducible refine Ok_be (r_isF (by assumption) (by assumption)) ?_
          | with_reducible refine Ok_be (r_isT (by assumption) (by assumption)) ?_
          | with_reducible refine Ok_be (r_isP (by assumption) (by assumption)) ?_
          | with_reducible refine Ok_be (r_isCell (by first | assumption | omega)) ?_)
      refine Ok_bd (r_goal hn wf2 (by omega) hp) ?_
      rintro r M3 ⟨er, k3⟩
      have s3 := sim_KR s2 (fun q i _ a b _ _ _ => k3 q i a b) (vwA k3)
      refine Ok_ret ⟨?_, s3⟩
      rw [er, vv2, vw0_KM km, v2, e1, uset_same, goalS_hour, v1, h13, rf2.1.2.2.2.1, z13]
    refine Ok_if (fun g8 => ?_) (fun g8 => ?_)
    · have := worthsS_b s.2.1 (p : Int)
      refine Ok_be (e_worthsOf hn (by decide) s.2.1 ha) (Ok_ret ⟨by omega, ?_⟩)
      unfold m_X6_person
      repeat (first
          | with_reducible refine Ok_g (by first | assumption | omega) ?_
          | with_reducible refine Ok_lt ?_
          | with_reducible refine Ok_t (by first | assumption | omega) ?_
          | with_reducible refine Ok_f (by first | assumption | omega) ?_
          | with_reducible refine Ok_be (e_hasF (by decide) (by assumption)) ?_
          | with_reducible refine Ok_be (e_hasT (by decide) (by assumption)) ?_
          | with_reducible refine Ok_be (e_hasP (by decide) (by assumption)) ?_
          | with_reducible refine Ok_be (e_isCell (by first | assumption | omega)) ?_
          | with_reducible refine Ok_be (e_oor (by assumption) (by decide) (by decide)) ?_
          | with_reducible refine Ok_be (r_isIn (by first | assumption | omega) (by first | decide | omega) (by first | decide | omega)) ?_
          | with_reducible refine Ok_be (r_bound (by assumption) (by decide) (by decide)) ?_
          | with_reducible refine Ok_be (r_isF (by assumption) (by assumption)) ?_
          | with_reducible refine Ok_be (r_isT (by assumption) (by assumption)) ?_
          | with_reducible refine Ok_be (r_isP (by assumption) (by assumption)) ?_
          | with_reducible refine Ok_be (r_isCell (by first | assumption | omega)) ?_)
      refine Ok_be (r_worthsOf hn wf0 (by omega)) (Ok_ret ⟨?_, s⟩)
      rw [vv0]
    refine Ok_be (e_refuse 2 (by omega) (by decide) (by decide)) (Ok_ret ⟨by decide, ?_⟩)
    obtain ⟨wf1, rf1, rf2⟩ := sim_rf s (M1 := bump 134 M 2) (fun q i h => bump_ne (by omega))
    unfold m_X6_person
    repeat (first
        | with_reducible refine Ok_g (by first | assumption | omega) ?_
        | with_reducible refine Ok_lt ?_
        | with_reducible refine Ok_t (by first | assumption | omega) ?_
        | with_reducible refine Ok_f (by first | assumption | omega) ?_
        | with_reducible refine Ok_be (e_hasF (by decide) (by assumption)) ?_
        | with_reducible refine Ok_be (e_hasT (by decide) (by assumption)) ?_
        | with_reducible refine Ok_be (e_hasP (by decide) (by assumption)) ?_
        | with_reducible refine Ok_be (e_isCell (by first | assumption | omega)) ?_
        | with_reducible refine Ok_be (e_oor (by assumption) (by decide) (by decide)) ?_
        | with_reducible refine Ok_be (r_isIn (by first | assumption | omega) (by first | decide | omega) (by first | decide | omega)) ?_
        | with_reducible refine Ok_be (r_bound (by assumption) (by decide) (by decide)) ?_
        | with_reducible refine Ok_be (r_isF (by assumption) (by assumption)) ?_
        | with_reducible refine Ok_be (r_isT (by assumption) (by assumption)) ?_
        | with_reducible refine Ok_be (r_isP (by assumption) (by assumption)) ?_
        | with_reducible refine Ok_be (r_isCell (by first | assumption | omega)) ?_)
    exact Ok_be (r_no 2 (by omega) (by decide) (by decide)) (Ok_ret ⟨rfl, sim_bump s 2⟩)
  · repeat (first
        | with_reducible refine Ok_g (by first | assumption | omega) ?_
        | with_reducible refine Ok_lt ?_
        | with_reducible refine Ok_t (by first | assumption | omega) ?_
        | with_reducible refine Ok_f (by first | assumption | omega) ?_
        | with_reducible refine Ok_be (e_hasF (by decide) (by assumption)) ?_
        | with_reducible refine Ok_be (e_hasT (by decide) (by assumption)) ?_
        | with_reducible refine Ok_be (e_hasP (by decide) (by assumption)) ?_
        | with_reducible refine Ok_be (e_isCell (by first | assumption | omega)) ?_
        | with_reducible refine Ok_be (e_oor (by assumption) (by decide) (by decide)) ?_
        | with_reducible refine Ok_be (r_isIn (by first | assumption | omega) (by first | decide | omega) (by first | decide | omega)) ?_
        | with_reducible refine Ok_be (r_bound (by assumption) (by decide) (by decide)) ?_
        | with_reducible refine Ok_be (r_isF (by assumption) (by assumption)) ?_
        | with_reducible refine Ok_be (r_isT (by assumption) (by assumption)) ?_
        | with_reducible refine Ok_be (r_isP (by assumption) (by assumption)) ?_
        | with_reducible refine Ok_be (r_isCell (by first | assumption | omega)) ?_)
    refine Ok_be (e_refuse 1 (by omega) (by decide) (by decide)) (Ok_ret ⟨by decide, ?_⟩)
    obtain ⟨wf1, rf1, rf2⟩ := sim_rf s (M1 := bump 134 M 1) (fun q i h => bump_ne (by omega))
    unfold m_X6_person
    repeat (first
        | with_reducible refine Ok_g (by first | assumption | omega) ?_
        | with_reducible refine Ok_lt ?_
        | with_reducible refine Ok_t (by first | assumption | omega) ?_
        | with_reducible refine Ok_f (by first | assumption | omega) ?_
        | with_reducible refine Ok_be (e_hasF (by decide) (by assumption)) ?_
        | with_reducible refine Ok_be (e_hasT (by decide) (by assumption)) ?_
        | with_reducible refine Ok_be (e_hasP (by decide) (by assumption)) ?_
        | with_reducible refine Ok_be (e_isCell (by first | assumption | omega)) ?_
        | with_reducible refine Ok_be (e_oor (by assumption) (by decide) (by decide)) ?_
        | with_reducible refine Ok_be (r_isIn (by first | assumption | omega) (by first | decide | omega) (by first | decide | omega)) ?_
        | with_reducible refine Ok_be (r_bound (by assumption) (by decide) (by decide)) ?_
        | with_reducible refine Ok_be (r_isF (by assumption) (by assumption)) ?_
        | with_reducible refine Ok_be (r_isT (by assumption) (by assumption)) ?_
        | with_reducible refine Ok_be (r_isP (by assumption) (by assumption)) ?_
        | with_reducible refine Ok_be (r_isCell (by first | assumption | omega)) ?_)
    exact Ok_be (r_no 1 (by omega) (by decide) (by decide)) (Ok_ret ⟨rfl, sim_bump s 1⟩)
theorem cellsS_b (u : US) : ∃ m : Nat, cellsS u = (m : Int) ∧ m < 16777216 := by
  refine ⟨bs (fun c => decide (u 0 14 ≤ fogS u (c : Nat))) 24 0, frm_set (by decide), bs_lt _ 24 0⟩
theorem atS_b (u : US) (k : Nat) {N : Nat} (h : N ≤ 24) (c : Int) : ∃ m : Nat, atS u k N c = (m : Int) ∧ m < 16777216 := by
  refine ⟨bs (fun i => decide (u k i = c)) N 0, frm_set (by omega), ?_⟩
  have := bs_lt (fun i => decide (u k i = c)) N 0
  have : 2 ^ N ≤ 2 ^ 24 := Nat.pow_le_pow_right (by decide) h
  omega
theorem noS_b {H : Int} {u : US} (wf : WF H u) : ∃ m : Nat, noS u = (m : Int) ∧ m < 256 := by
  refine ⟨_, noS_bs wf, ?_⟩
  have := bs_lt (fun t => decide (u 6 t < 0)) (u 0 7).toNat 0
  have b := (wF wf).2.1
  have : 2 ^ (u 0 7).toNat ≤ 2 ^ 8 := Nat.pow_le_pow_right (by decide) (by omega)
  omega
theorem q_cell {n : Nat} {M : Mem} {a b : Int} (hn : 2000 ≤ n) (s : Sim M) (ha : I32 a) (hb : I32 b) : Agr (m_X5_cell n M a b) (fun M1 => m_X6_cell n M1 a b) := by
  unfold Agr m_X5_cell
  by_cases h : 0 ≤ a ∧ a < 24
  · repeat (first
        | with_reducible refine Ok_g (by first | assumption | omega) ?_
        | with_reducible refine Ok_lt ?_
        | with_reducible refine Ok_t (by first | assumption | omega) ?_
        | with_reducible refine Ok_f (by first | assumption | omega) ?_
        | with_reducible refine Ok_be (e_hasF (by decide) (by assumption)) ?_
        | with_reducible refine Ok_be (e_hasT (by decide) (by assumption)) ?_
        | with_reducible refine Ok_be (e_hasP (by decide) (by assumption)) ?_
        | with_reducible refine Ok_be (e_isCell (by first | assumption | omega)) ?_
        | with_reducible refine Ok_be (e_oor (by assumption) (by decide) (by decide)) ?_
        | with_reducible refine Ok_be (r_isIn (by first | assumption | omega) (by first | decide | omega) (by first | decide | omega)) ?_
        | with_reducible refine Ok_be (r_bound (by assumption) (by decide) (by decide)) ?_
        | with_reducible refine Ok_be (r_isF (by assumption) (by assumption)) ?_
        | with_reducible refine Ok_be (r_isT (by assumption) (by assumption)) ?_
        | with_reducible refine Ok_be (r_isP (by assumption) (by assumption)) ?_
        | with_reducible refine Ok_be (r_isCell (by first | assumption | omega)) ?_)
    by_cases hb0 : b < 0
    · repeat (first
          | with_reducible refine Ok_g (by first | assumption | omega) ?_
          | with_reducible refine Ok_lt ?_
          | with_reducible refine Ok_t (by first | assumption | omega) ?_
          | with_reducible refine Ok_f (by first | assumption | omega) ?_
          | with_reducible refine Ok_be (e_hasF (by decide) (by assumption)) ?_
          | with_reducible refine Ok_be (e_hasT (by decide) (by assumption)) ?_
          | with_reducible refine Ok_be (e_hasP (by decide) (by assumption)) ?_
          | with_reducible refine Ok_be (e_isCell (by first | assumption | omega)) ?_
          | with_reducible refine Ok_be (e_oor (by assumption) (by decide) (by decide)) ?_
          | with_reducible refine Ok_be (r_isIn (by first | assumption | omega) (by first | decide | omega) (by first | decide | omega)) ?_
          | with_reducible refine Ok_be (r_bound (by assumption) (by decide) (by decide)) ?_
          | with_reducible refine Ok_be (r_isF (by assumption) (by assumption)) ?_
          | with_reducible refine Ok_be (r_isT (by assumption) (by assumption)) ?_
          | with_reducible refine Ok_be (r_isP (by assumption) (by assumption)) ?_
          | with_reducible refine Ok_be (r_isCell (by first | assumption | omega)) ?_)
      unfold m_X5_cell_22
      refine Ok_be (e_refuse 2 (by omega) (by decide) (by decide)) (Ok_ret ⟨by decide, ?_⟩)
      obtain ⟨wf1, rf1, rf2⟩ := sim_rf s (M1 := bump 134 M 2) (fun q i h => bump_ne (by omega))
      unfold m_X6_cell
      repeat (first
          | with_reducible refine Ok_g (by first | assumption | omega) ?_
          | with_reducible refine Ok_lt ?_
          | with_reducible refine Ok_t (by first | assumption | omega) ?_
          | with_reducible refine Ok_f (by first | assumption | omega) ?_
          | with_reducible refine Ok_be (e_hasF (by decide) (by assumption)) ?_
          | with_reducible refine Ok_be (e_hasT (by decide) (by assumption)) ?_
          | with_reducible refine Ok_be (e_hasP (by decide) (by assumption)) ?_
          | with_reducible refine Ok_be (e_isCell (by first | assumption | omega)) ?_
          | with_reducible refine Ok_be (e_oor (by assumption) (by decide) (by decide)) ?_
          | with_reducible refine Ok_be (r_isIn (by first | assumption | omega) (by first | decide | omega) (by first | decide | omega)) ?_
          | with_reducible refine Ok_be (r_bound (by assumption) (by decide) (by decide)) ?_
          | with_reducible refine Ok_be (r_isF (by assumption) (by assumption)) ?_
          | with_reducible refine Ok_be (r_isT (by assumption) (by assumption)) ?_
          | with_reducible refine Ok_be (r_isP (by assumption) (by assumption)) ?_
          | with_reducible refine Ok_be (r_isCell (by first | assumption | omega)) ?_)
      exact Ok_be (r_no 2 (by omega) (by decide) (by decide)) (Ok_ret ⟨rfl, sim_bump s 2⟩)
    by_cases hb4 : 4 < b
    · repeat (first
          | with_reducible refine Ok_g (by first | assumption | omega) ?_
          | with_reducible refine Ok_lt ?_
          | with_reducible refine Ok_t (by first | assumption | omega) ?_
          | with_reducible refine Ok_f (by first | assumption | omega) ?_
          | with_reducible refine Ok_be (e_hasF (by decide) (by assumption)) ?_
          | with_reducible refine Ok_be (e_hasT (by decide) (by assumption)) ?_
          | with_reducible refine Ok_be (e_hasP (by decide) (by assumption)) ?_
          | with_reducible refine Ok_be (e_isCell (by first | assumption | omega)) ?_
          | with_reducible refine Ok_be (e_oor (by assumption) (by decide) (by decide)) ?_
          | with_reducible refine Ok_be (r_isIn (by first | assumption | omega) (by first | decide | omega) (by first | decide | omega)) ?_
          | with_reducible refine Ok_be (r_bound (by assumption) (by decide) (by decide)) ?_
          | with_reducible refine Ok_be (r_isF (by assumption) (by assumption)) ?_
          | with_reducible refine Ok_be (r_isT (by assumption) (by assumption)) ?_
          | with_reducible refine Ok_be (r_isP (by assumption) (by assumption)) ?_
          | with_reducible refine Ok_be (r_isCell (by first | assumption | omega)) ?_)
      unfold m_X5_cell_22
      refine Ok_be (e_refuse 2 (by omega) (by decide) (by decide)) (Ok_ret ⟨by decide, ?_⟩)
      obtain ⟨wf1, rf1, rf2⟩ := sim_rf s (M1 := bump 134 M 2) (fun q i h => bump_ne (by omega))
      unfold m_X6_cell
      repeat (first
          | with_reducible refine Ok_g (by first | assumption | omega) ?_
          | with_reducible refine Ok_lt ?_
          | with_reducible refine Ok_t (by first | assumption | omega) ?_
          | with_reducible refine Ok_f (by first | assumption | omega) ?_
          | with_reducible refine Ok_be (e_hasF (by decide) (by assumption)) ?_
          | with_reducible refine Ok_be (e_hasT (by decide) (by assumption)) ?_
          | with_reducible refine Ok_be (e_hasP (by decide) (by assumption)) ?_
          | with_reducible refine Ok_be (e_isCell (by first | assumption | omega)) ?_
          | with_reducible refine Ok_be (e_oor (by assumption) (by decide) (by decide)) ?_
          | with_reducible refine Ok_be (r_isIn (by first | assumption | omega) (by first | decide | omega) (by first | decide | omega)) ?_
          | with_reducible refine Ok_be (r_bound (by assumption) (by decide) (by decide)) ?_
          | with_reducible refine Ok_be (r_isF (by assumption) (by assumption)) ?_
          | with_reducible refine Ok_be (r_isT (by assumption) (by assumption)) ?_
          | with_reducible refine Ok_be (r_isP (by assumption) (by assumption)) ?_
          | with_reducible refine Ok_be (r_isCell (by first | assumption | omega)) ?_)
      exact Ok_be (r_no 2 (by omega) (by decide) (by decide)) (Ok_ret ⟨rfl, sim_bump s 2⟩)
    repeat (first
        | with_reducible refine Ok_g (by first | assumption | omega) ?_
        | with_reducible refine Ok_lt ?_
        | with_reducible refine Ok_t (by first | assumption | omega) ?_
        | with_reducible refine Ok_f (by first | assumption | omega) ?_)
    refine Ok_bd (e_begin hn s.2.2.1 s.2.1 (by decide)) ?_
    rintro _ M1 ⟨v1, k1, l1, f1⟩
    have km : KM M M1 := fun q i hq => f1 q i (by omega)
    have s1 := sim_KM s k1 km
    have w1 : WF 999 (vw M1 22) := by rw [v1]; exact s.2.1
    obtain ⟨wf2, vv2, rf2⟩ := sim_rf s1 (M1 := M1) (fun _ _ _ => rfl)
    have e0 := vw0_KM km
    have b2 := sW wf2
    refine Ok_if (fun g => ?_) (fun g => ?_)
    · have := airOS_b w1 a (vw M1 22 0 13)
      refine Ok_be (e_airOn l1 (by omega)) (Ok_ret ⟨by omega, ?_⟩)
      unfold m_X6_cell
      repeat (first
          | with_reducible refine Ok_g (by first | assumption | omega) ?_
          | with_reducible refine Ok_lt ?_
          | with_reducible refine Ok_t (by first | assumption | omega) ?_
          | with_reducible refine Ok_f (by first | assumption | omega) ?_
          | with_reducible refine Ok_be (e_hasF (by decide) (by assumption)) ?_
          | with_reducible refine Ok_be (e_hasT (by decide) (by assumption)) ?_
          | with_reducible refine Ok_be (e_hasP (by decide) (by assumption)) ?_
          | with_reducible refine Ok_be (e_isCell (by first | assumption | omega)) ?_
          | with_reducible refine Ok_be (e_oor (by assumption) (by decide) (by decide)) ?_
          | with_reducible refine Ok_be (r_isIn (by first | assumption | omega) (by first | decide | omega) (by first | decide | omega)) ?_
          | with_reducible refine Ok_be (r_bound (by assumption) (by decide) (by decide)) ?_
          | with_reducible refine Ok_be (r_isF (by assumption) (by assumption)) ?_
          | with_reducible refine Ok_be (r_isT (by assumption) (by assumption)) ?_
          | with_reducible refine Ok_be (r_isP (by assumption) (by assumption)) ?_
          | with_reducible refine Ok_be (r_isCell (by first | assumption | omega)) ?_)
      refine Ok_bd (r_airIn hn wf2 (by omega) (by omega)) ?_
      rintro r M3 ⟨er, k3⟩
      refine Ok_ret ⟨?_, sim_KR s1 (fun q i _ a b _ _ _ => k3 q i a b) (vwA k3)⟩
      rw [er, ← b2.1.2.2.2.1, vv2, e0, v1]
    refine Ok_if (fun g1 => ?_) (fun g1 => ?_)
    · have := fogS_b w1 a
      refine Ok_be (e_fogOn hn w1 l1 (by omega)) (Ok_ret ⟨by omega, ?_⟩)
      unfold m_X6_cell
      repeat (first
          | with_reducible refine Ok_g (by first | assumption | omega) ?_
          | with_reducible refine Ok_lt ?_
          | with_reducible refine Ok_t (by first | assumption | omega) ?_
          | with_reducible refine Ok_f (by first | assumption | omega) ?_
          | with_reducible refine Ok_be (e_hasF (by decide) (by assumption)) ?_
          | with_reducible refine Ok_be (e_hasT (by decide) (by assumption)) ?_
          | with_reducible refine Ok_be (e_hasP (by decide) (by assumption)) ?_
          | with_reducible refine Ok_be (e_isCell (by first | assumption | omega)) ?_
          | with_reducible refine Ok_be (e_oor (by assumption) (by decide) (by decide)) ?_
          | with_reducible refine Ok_be (r_isIn (by first | assumption | omega) (by first | decide | omega) (by first | decide | omega)) ?_
          | with_reducible refine Ok_be (r_bound (by assumption) (by decide) (by decide)) ?_
          | with_reducible refine Ok_be (r_isF (by assumption) (by assumption)) ?_
          | with_reducible refine Ok_be (r_isT (by assumption) (by assumption)) ?_
          | with_reducible refine Ok_be (r_isP (by assumption) (by assumption)) ?_
          | with_reducible refine Ok_be (r_isCell (by first | assumption | omega)) ?_)
      refine Ok_bd (r_fogOf hn wf2 (by omega) (by omega)) ?_
      rintro r M3 ⟨er, k3⟩
      refine Ok_ret ⟨?_, sim_KR s1 (fun q i _ a b _ _ _ => k3 q i a b) (vwA k3)⟩
      rw [er, vv2, e0, v1]
    refine Ok_if (fun g2 => ?_) (fun g2 => ?_)
    · refine Ok_be (e_isInFog hn w1 l1 (by omega)) ?_
      have fin : ∀ x : Int, x = (if vw M1 22 0 14 ≤ fogS (vw M1 22) a then 1 else 0) → Ok (m_X6_cell n M1 a b) (fun r' M2 => r' = x ∧ Sim M2) := by
        intro x hx
        unfold m_X6_cell
        repeat (first
            | with_reducible refine Ok_g (by first | assumption | omega) ?_
            | with_reducible refine Ok_lt ?_
            | with_reducible refine Ok_t (by first | assumption | omega) ?_
            | with_reducible refine Ok_f (by first | assumption | omega) ?_
            | with_reducible refine Ok_be (e_hasF (by decide) (by assumption)) ?_
            | with_reducible refine Ok_be (e_hasT (by decide) (by assumption)) ?_
            | with_reducible refine Ok_be (e_hasP (by decide) (by assumption)) ?_
            | with_reducible refine Ok_be (e_isCell (by first | assumption | omega)) ?_
            | with_reducible refine Ok_be (e_oor (by assumption) (by decide) (by decide)) ?_
            | with_reducible refine Ok_be (r_isIn (by first | assumption | omega) (by first | decide | omega) (by first | decide | omega)) ?_
            | with_reducible refine Ok_be (r_bound (by assumption) (by decide) (by decide)) ?_
            | with_reducible refine Ok_be (r_isF (by assumption) (by assumption)) ?_
            | with_reducible refine Ok_be (r_isT (by assumption) (by assumption)) ?_
            | with_reducible refine Ok_be (r_isP (by assumption) (by assumption)) ?_
            | with_reducible refine Ok_be (r_isCell (by first | assumption | omega)) ?_)
        refine Ok_bd (r_isFoggy hn wf2 (by omega) (by omega)) ?_
        rintro r M3 ⟨er, k3⟩
        have s3 := sim_KR s1 (fun q i _ a b _ _ _ => k3 q i a b) (vwA k3)
        rw [vv2, e0, ← v1, ← hx] at er
        subst er
        have : r = 0 ∨ r = 1 := by rw [hx]; split <;> omega
        rcases this with c | c
        · repeat (first
              | with_reducible refine Ok_g (by first | assumption | omega) ?_
              | with_reducible refine Ok_lt ?_
              | with_reducible refine Ok_t (by first | assumption | omega) ?_
              | with_reducible refine Ok_f (by first | assumption | omega) ?_)
          exact Ok_ret ⟨c.symm, s3⟩
        · repeat (first
              | with_reducible refine Ok_g (by first | assumption | omega) ?_
              | with_reducible refine Ok_lt ?_
              | with_reducible refine Ok_t (by first | assumption | omega) ?_
              | with_reducible refine Ok_f (by first | assumption | omega) ?_)
          exact Ok_ret ⟨c.symm, s3⟩
      by_cases c : vw M1 22 0 14 ≤ fogS (vw M1 22) a
      · rw [if_pos c] at fin ⊢
        repeat (first
            | with_reducible refine Ok_g (by first | assumption | omega) ?_
            | with_reducible refine Ok_lt ?_
            | with_reducible refine Ok_t (by first | assumption | omega) ?_
            | with_reducible refine Ok_f (by first | assumption | omega) ?_)
        exact Ok_ret ⟨by decide, fin 1 rfl⟩
      · rw [if_neg c] at fin ⊢
        repeat (first
            | with_reducible refine Ok_g (by first | assumption | omega) ?_
            | with_reducible refine Ok_lt ?_
            | with_reducible refine Ok_t (by first | assumption | omega) ?_
            | with_reducible refine Ok_f (by first | assumption | omega) ?_)
        exact Ok_ret ⟨by decide, fin 0 rfl⟩
    refine Ok_if (fun g3 => ?_) (fun g3 => ?_)
    · have z12 : rd M1 0 12 = rd M 0 12 := rd_of (km _ _ (by omega))
      obtain ⟨m, em, hm⟩ := atS_b (vw M1 0) 10 (N := (vw M1 0 0 12).toNat) (by have := (wF s1.2.1).2.2.1; omega) a
      refine Ok_be (e_peopleOn hn (by decide) s1.2.1 ha) (Ok_ret ⟨by rw [em]; omega, ?_⟩)
      unfold m_X6_cell
      repeat (first
          | with_reducible refine Ok_g (by first | assumption | omega) ?_
          | with_reducible refine Ok_lt ?_
          | with_reducible refine Ok_t (by first | assumption | omega) ?_
          | with_reducible refine Ok_f (by first | assumption | omega) ?_
          | with_reducible refine Ok_be (e_hasF (by decide) (by assumption)) ?_
          | with_reducible refine Ok_be (e_hasT (by decide) (by assumption)) ?_
          | with_reducible refine Ok_be (e_hasP (by decide) (by assumption)) ?_
          | with_reducible refine Ok_be (e_isCell (by first | assumption | omega)) ?_
          | with_reducible refine Ok_be (e_oor (by assumption) (by decide) (by decide)) ?_
          | with_reducible refine Ok_be (r_isIn (by first | assumption | omega) (by first | decide | omega) (by first | decide | omega)) ?_
          | with_reducible refine Ok_be (r_bound (by assumption) (by decide) (by decide)) ?_
          | with_reducible refine Ok_be (r_isF (by assumption) (by assumption)) ?_
          | with_reducible refine Ok_be (r_isT (by assumption) (by assumption)) ?_
          | with_reducible refine Ok_be (r_isP (by assumption) (by assumption)) ?_
          | with_reducible refine Ok_be (r_isCell (by first | assumption | omega)) ?_)
      refine Ok_be (r_setAt (k0 := 10) hn rfl (by decide) (by decide) (by decide) ha (by omega) (by show _ ≤ ((5 : Nat) : Int); omega) (by omega)) (Ok_ret ⟨?_, s1⟩)
      rw [vv2, ← b2.1.2.2.1, vv2]
    · obtain ⟨m, em, hm⟩ := atS_b (vw M1 0) 5 (N := (vw M1 0 0 7).toNat) (by have := (wF s1.2.1).2.1; omega) a
      refine Ok_be (e_thingsOn hn (by decide) s1.2.1 ha) (Ok_ret ⟨by rw [em]; omega, ?_⟩)
      unfold m_X6_cell
      repeat (first
          | with_reducible refine Ok_g (by first | assumption | omega) ?_
          | with_reducible refine Ok_lt ?_
          | with_reducible refine Ok_t (by first | assumption | omega) ?_
          | with_reducible refine Ok_f (by first | assumption | omega) ?_
          | with_reducible refine Ok_be (e_hasF (by decide) (by assumption)) ?_
          | with_reducible refine Ok_be (e_hasT (by decide) (by assumption)) ?_
          | with_reducible refine Ok_be (e_hasP (by decide) (by assumption)) ?_
          | with_reducible refine Ok_be (e_isCell (by first | assumption | omega)) ?_
          | with_reducible refine Ok_be (e_oor (by assumption) (by decide) (by decide)) ?_
          | with_reducible refine Ok_be (r_isIn (by first | assumption | omega) (by first | decide | omega) (by first | decide | omega)) ?_
          | with_reducible refine Ok_be (r_bound (by assumption) (by decide) (by decide)) ?_
          | with_reducible refine Ok_be (r_isF (by assumption) (by assumption)) ?_
          | with_reducible refine Ok_be (r_isT (by assumption) (by assumption)) ?_
          | with_reducible refine Ok_be (r_isP (by assumption) (by assumption)) ?_
          | with_reducible refine Ok_be (r_isCell (by first | assumption | omega)) ?_)
      refine Ok_be (r_setAt (k0 := 5) hn rfl (by decide) (by decide) (by decide) ha (by omega) (by show _ ≤ ((8 : Nat) : Int); omega) (by omega)) (Ok_ret ⟨?_, s1⟩)
      rw [vv2, ← b2.1.2.1, vv2]
  · repeat (first
        | with_reducible refine Ok_g (by first | assumption | omega) ?_
        | with_reducible refine Ok_lt ?_
        | with_reducible refine Ok_t (by first | assumption | omega) ?_
        | with_reducible refine Ok_f (by first | assumption | omega) ?_
        | with_reducible refine Ok_be (e_hasF (by decide) (by assumption)) ?_
        | with_reducible refine Ok_be (e_hasT (by decide) (by assumption)) ?_
        | with_reducible refine Ok_be (e_hasP (by decide) (by assumption)) ?_
        | with_reducible refine Ok_be (e_isCell (by first | assumption | omega)) ?_
        | with_reducible refine Ok_be (e_oor (by assumption) (by decide) (by decide)) ?_
        | with_reducible refine Ok_be (r_isIn (by first | assumption | omega) (by first | decide | omega) (by first | decide | omega)) ?_
        | with_reducible refine Ok_be (r_bound (by assumption) (by decide) (by decide)) ?_
        | with_reducible refine Ok_be (r_isF (by assumption) (by assumption)) ?_
        | with_reducible refine Ok_be (r_isT (by assumption) (by assumption)) ?_
        | with_reducible refine Ok_be (r_isP (by assumption) (by assumption)) ?_
        | with_reducible refine Ok_be (r_isCell (by first | assumption | omega)) ?_)
    refine Ok_be (e_refuse 1 (by omega) (by decide) (by decide)) (Ok_ret ⟨by decide, ?_⟩)
    obtain ⟨wf1, rf1, rf2⟩ := sim_rf s (M1 := bump 134 M 1) (fun q i h => bump_ne (by omega))
    unfold m_X6_cell
    repeat (first
        | with_reducible refine Ok_g (by first | assumption | omega) ?_
        | with_reducible refine Ok_lt ?_
        | with_reducible refine Ok_t (by first | assumption | omega) ?_
        | with_reducible refine Ok_f (by first | assumption | omega) ?_
        | with_reducible refine Ok_be (e_hasF (by decide) (by assumption)) ?_
        | with_reducible refine Ok_be (e_hasT (by decide) (by assumption)) ?_
        | with_reducible refine Ok_be (e_hasP (by decide) (by assumption)) ?_
        | with_reducible refine Ok_be (e_isCell (by first | assumption | omega)) ?_
        | with_reducible refine Ok_be (e_oor (by assumption) (by decide) (by decide)) ?_
        | with_reducible refine Ok_be (r_isIn (by first | assumption | omega) (by first | decide | omega) (by first | decide | omega)) ?_
        | with_reducible refine Ok_be (r_bound (by assumption) (by decide) (by decide)) ?_
        | with_reducible refine Ok_be (r_isF (by assumption) (by assumption)) ?_
        | with_reducible refine Ok_be (r_isT (by assumption) (by assumption)) ?_
        | with_reducible refine Ok_be (r_isP (by assumption) (by assumption)) ?_
        | with_reducible refine Ok_be (r_isCell (by first | assumption | omega)) ?_)
    exact Ok_be (r_no 1 (by omega) (by decide) (by decide)) (Ok_ret ⟨rfl, sim_bump s 1⟩)
