/-! calls that change the coast and can be taken back -/
theorem chg {n : Nat} {M : Mem} {Kc Kr : Mem → Rs} {u1 : US} {r : Int} (hn : 2000 ≤ n) (s : Sim M) (wu : WF 999 u1)
    (hcl : ∀ M1, (∀ q i, q < 11 → M1 q i = M q i) → vw M1 0 = vw M 0 → SkyOk M1 → Ok (Kc M1) (fun r' Mc => r' = r ∧ vw Mc 0 = u1 ∧ SkyOk Mc ∧ ∀ q i, ¬ (q ≤ 10 ∨ 22 ≤ q ∧ q ≤ 32 ∨ 121 ≤ q ∧ q ≤ 129) → Mc q i = M1 q i))
    (hrf : ∀ M2, vw M2 137 = vw M 0 → (∀ q i, 138 ≤ q → q ≤ 147 → M2 q i = M q i) → (∀ i, i ≠ 27 → i ≠ 28 → i ≠ 29 → i ≠ 30 → M2 137 i = M 137 i) → Ok (Kr M2) (fun r' Mr => r' = r ∧ vw Mr 137 = u1 ∧ ∀ q i, ¬ (138 ≤ q ∧ q ≤ 147 ∨ q = 149 ∨ q = 150 ∨ (q = 137 ∧ (i = 3 ∨ i = 7 ∨ i = 12 ∨ i = 13 ∨ i = 14))) → Mr q i = M2 q i)) :
    Ok (bd (m_X5_keepForBack n M) (fun _ M1 => Kc M1)) (fun r' Mc => r' = r ∧ (∀ q i, 137 ≤ q → Mc q i = M q i) ∧ Ok (bd (m_X6_remembers n Mc) (fun _ M2 => Kr M2)) (fun r'' Mr => r'' = r ∧ Sim Mr)) := by
  obtain ⟨b, fb, hb8, hf8, h4, h30, h29, hold⟩ := s.2.2.2.2.1
  have hk : vw M 137 0 20 = -1 := by rw [s.1]; rfl
  have hy : vw M 137 0 21 = 0 := by rw [s.1]; rfl
  refine Ok_bd (e_keep hn s.2.2.2.1 h4 hb8) ?_
  rintro _ M1 ⟨b1, sh, hc, kc⟩
  obtain ⟨a1, a2, a3, a4⟩ := kc
  refine Ok_mono (hcl M1 (fun q i h => a4 q i (by omega) (by omega) (by omega)) (vwW_congr (by decide) (fun q i _ _ => a4 q i (by omega) (by omega) (by omega))) (SkyOk_keep s.2.2.1 (fun q i _ _ => a4 q i (by omega) (by omega) (by omega)))) ?_
  rintro r' Mc ⟨er, v1, k1, f1⟩
  have fc : ∀ q i, (11 ≤ q ∧ q < 22) ∨ (130 ≤ q ∧ q ≠ 131 ∧ q ≠ 135 ∧ q ≠ 136 ∧ ¬ (q = 130 ∧ i = 4)) → Mc q i = M q i := fun q i h => by rw [f1 q i (by omega), a4 q i (by omega) (by omega) (by omega)]
  refine ⟨er, fun q i h => fc q i (by omega), ?_⟩
  have ev : vw Mc 137 = vw M 137 := vw_congr (fun i _ => fc _ _ (by omega)) (fun a i _ _ => fc _ _ (by omega)) (fun z => absurd z (by decide)) (fun _ => ⟨fc _ _ (by omega), fc _ _ (by omega)⟩)
  have ek : ∀ j, ea Mc j = ea M1 j := fun j => by unfold ea; rw [rd_of (f1 _ _ (by omega))]
  refine Ok_bd (r_remembers (b := b) (fb := fb) hn (by rw [rd_of (fc _ _ (by omega))]; exact h30) hb8 (by rw [rd_of (fc _ _ (by omega))]; exact h29) hf8 (by rw [ev]; exact hk) (by rw [ev]; exact hy)) ?_
  rintro _ M2 ⟨b1', sh', fb1, hc', hf1, kb⟩
  have eb : b1' = b1 := by omega
  have es : sh' = sh := by omega
  subst eb es
  obtain ⟨d1, d2, d3, d4⟩ := kb
  have ev2 : vw M2 137 = vw Mc 137 := vw_congr (fun i _ => d4 _ _ (by omega) (by omega)) (fun a i _ _ => d4 _ _ (by omega) (by omega)) (fun z => absurd z (by decide)) (fun _ => ⟨d4 _ _ (by omega) (by omega), d4 _ _ (by omega) (by omega)⟩)
  refine Ok_mono (hrf M2 (by rw [ev2, ev, s.1]) (fun q i _ _ => by rw [d4 q i (by omega) (by omega), fc q i (by omega)]) (fun i h1 h2 h3 h4 => by rw [d4 137 i (by omega) (by omega), fc 137 i (by omega)])) ?_
  rintro r'' Mr ⟨er', v2, f2⟩
  refine ⟨er', ?_⟩
  refine sim_step (Mc := Mc) (u1 := u1) s h4 hf8 hold hc (by rw [rd_of (f1 _ _ (by omega))]; exact a1) (early_keep a2 (fun i => f1 _ _ (by omega))) ?_ k1 v1 wu fc hf1 (by rw [rd_of (f2 _ _ (by omega))]; exact d1) (by rw [rd_of (f2 _ _ (by omega))]; exact d2) ?_ v2 ?_
  · intro j hj
    have w := ea_W a2 (j := j) (by omega)
    rw [ek, vwE_congr (M := M1) (by omega) (fun q i _ _ => f1 q i (by omega))]
    exact a3 j hj
  · intro j hj
    rw [kv_congr (M := M2) (fun x _ _ => f2 _ _ (by omega))]
    exact d3 j hj
  · intro q i h
    rw [f2 q i (by omega), d4 q i (by omega) (by omega)]
theorem q_thick {n : Nat} {M : Mem} {a : Int} (hn : 2000 ≤ n) (s : Sim M) (ha : I32 a) : Agr (m_X5_thick n M a) (fun M1 => m_X6_thick n M1 a) := by
  have bs := sW s.2.1
  unfold Agr m_X5_thick
  by_cases h0 : a < 1
  · repeat (first
        | with_reducible refine Ok_g (by first | assumption | omega) ?_
        | with_reducible refine Ok_lt ?_
        | with_reducible refine Ok_t (by first | assumption | omega) ?_
        | with_reducible refine Ok_f (by first | assumption | omega) ?_
        | with_reducible refine Ok_be (e_hasF (by decide) (by assumption)) ?_
        | with_reducible refine Ok_be (e_hasT (by decide) (by assumption)) ?_
        | with_reducible refine Ok_be (e_hasP (by decide) (by assumption)) ?_
        | with_reducible refine Ok_be (e_isCell (by first | assumption | omega)) ?_
        | with_reducible refine Ok_be (e_oor (by assumption) (by decide) (by decide)) ?_
        | with_reducible refine Ok_be (r_isIn (by first | assumption | omega) (by first | decide | omega) (by first | decide | omega)) ?_
        | with_reducible refine Ok_be (r_bound (by assumption) (by decide) (by decide)) ?_
        | with_reducible refine Ok_be (r_isF (by assumption) (by assumption)) ?_
        | with_reducible refine Ok_be (r_isT (by assumption) (by assumption)) ?_
        | with_reducible refine Ok_be (r_isP (by assumption) (by assumption)) ?_
        | with_reducible refine Ok_be (r_isCell (by first | assumption | omega)) ?_)
    refine Ok_be (e_refuse 4 (by omega) (by decide) (by decide)) (Ok_ret ⟨by decide, ?_⟩)
    obtain ⟨wf1, rf1, rf2⟩ := sim_rf s (M1 := bump 134 M 4) (fun q i h => bump_ne (by omega))
    unfold m_X6_thick
    repeat (first
        | with_reducible refine Ok_g (by first | assumption | omega) ?_
        | with_reducible refine Ok_lt ?_
        | with_reducible refine Ok_t (by first | assumption | omega) ?_
        | with_reducible refine Ok_f (by first | assumption | omega) ?_
        | with_reducible refine Ok_be (e_hasF (by decide) (by assumption)) ?_
        | with_reducible refine Ok_be (e_hasT (by decide) (by assumption)) ?_
        | with_reducible refine Ok_be (e_hasP (by decide) (by assumption)) ?_
        | with_reducible refine Ok_be (e_isCell (by first | assumption | omega)) ?_
        | with_reducible refine Ok_be (e_oor (by assumption) (by decide) (by decide)) ?_
        | with_reducible refine Ok_be (r_isIn (by first | assumption | omega) (by first | decide | omega) (by first | decide | omega)) ?_
        | with_reducible refine Ok_be (r_bound (by assumption) (by decide) (by decide)) ?_
        | with_reducible refine Ok_be (r_isF (by assumption) (by assumption)) ?_
        | with_reducible refine Ok_be (r_isT (by assumption) (by assumption)) ?_
        | with_reducible refine Ok_be (r_isP (by assumption) (by assumption)) ?_
        | with_reducible refine Ok_be (r_isCell (by first | assumption | omega)) ?_)
    exact Ok_be (r_no 4 (by omega) (by decide) (by decide)) (Ok_ret ⟨rfl, sim_bump s 4⟩)
  by_cases h9 : 9 < a
  · repeat (first
        | with_reducible refine Ok_g (by first | assumption | omega) ?_
        | with_reducible refine Ok_lt ?_
        | with_reducible refine Ok_t (by first | assumption | omega) ?_
        | with_reducible refine Ok_f (by first | assumption | omega) ?_
        | with_reducible refine Ok_be (e_hasF (by decide) (by assumption)) ?_
        | with_reducible refine Ok_be (e_hasT (by decide) (by assumption)) ?_
        | with_reducible refine Ok_be (e_hasP (by decide) (by assumption)) ?_
        | with_reducible refine Ok_be (e_isCell (by first | assumption | omega)) ?_
        | with_reducible refine Ok_be (e_oor (by assumption) (by decide) (by decide)) ?_
        | with_reducible refine Ok_be (r_isIn (by first | assumption | omega) (by first | decide | omega) (by first | decide | omega)) ?_
        | with_reducible refine Ok_be (r_bound (by assumption) (by decide) (by decide)) ?_
        | with_reducible refine Ok_be (r_isF (by assumption) (by assumption)) ?_
        | with_reducible refine Ok_be (r_isT (by assumption) (by assumption)) ?_
        | with_reducible refine Ok_be (r_isP (by assumption) (by assumption)) ?_
        | with_reducible refine Ok_be (r_isCell (by first | assumption | omega)) ?_)
    refine Ok_be (e_refuse 6 (by omega) (by decide) (by decide)) (Ok_ret ⟨by decide, ?_⟩)
    obtain ⟨wf1, rf1, rf2⟩ := sim_rf s (M1 := bump 134 M 6) (fun q i h => bump_ne (by omega))
    unfold m_X6_thick
    repeat (first
        | with_reducible refine Ok_g (by first | assumption | omega) ?_
        | with_reducible refine Ok_lt ?_
        | with_reducible refine Ok_t (by first | assumption | omega) ?_
        | with_reducible refine Ok_f (by first | assumption | omega) ?_
        | with_reducible refine Ok_be (e_hasF (by decide) (by assumption)) ?_
        | with_reducible refine Ok_be (e_hasT (by decide) (by assumption)) ?_
        | with_reducible refine Ok_be (e_hasP (by decide) (by assumption)) ?_
        | with_reducible refine Ok_be (e_isCell (by first | assumption | omega)) ?_
        | with_reducible refine Ok_be (e_oor (by assumption) (by decide) (by decide)) ?_
        | with_reducible refine Ok_be (r_isIn (by first | assumption | omega) (by first | decide | omega) (by first | decide | omega)) ?_
        | with_reducible refine Ok_be (r_bound (by assumption) (by decide) (by decide)) ?_
        | with_reducible refine Ok_be (r_isF (by assumption) (by assumption)) ?_
        | with_reducible refine Ok_be (r_isT (by assumption) (by assumption)) ?_
        | with_reducible refine Ok_be (r_isP (by assumption) (by assumption)) ?_
        | with_reducible refine Ok_be (r_isCell (by first | assumption | omega)) ?_)
    exact Ok_be (r_no 6 (by omega) (by decide) (by decide)) (Ok_ret ⟨rfl, sim_bump s 6⟩)
  repeat (first
      | with_reducible refine Ok_g (by first | assumption | omega) ?_
      | with_reducible refine Ok_lt ?_
      | with_reducible refine Ok_t (by first | assumption | omega) ?_
      | with_reducible refine Ok_f (by first | assumption | omega) ?_
      | with_reducible refine Ok_be (e_hasF (by decide) (by assumption)) ?_
      | with_reducible refine Ok_be (e_hasT (by decide) (by assumption)) ?_
      | with_reducible refine Ok_be (e_hasP (by decide) (by assumption)) ?_
      | with_reducible refine Ok_be (e_isCell (by first | assumption | omega)) ?_
      | with_reducible refine Ok_be (e_oor (by assumption) (by decide) (by decide)) ?_
      | with_reducible refine Ok_be (r_isIn (by first | assumption | omega) (by first | decide | omega) (by first | decide | omega)) ?_
      | with_reducible refine Ok_be (r_bound (by assumption) (by decide) (by decide)) ?_
      | with_reducible refine Ok_be (r_isF (by assumption) (by assumption)) ?_
      | with_reducible refine Ok_be (r_isT (by assumption) (by assumption)) ?_
      | with_reducible refine Ok_be (r_isP (by assumption) (by assumption)) ?_
      | with_reducible refine Ok_be (r_isCell (by first | assumption | omega)) ?_)
  refine Ok_mono (chg (u1 := uset (vw M 0) 0 14 a) (r := rd M 0 14) (Kr := fun M5 => wr M5 137 14 a (fun M6 => some ((rd M5 137 14), M6))) hn s (WF_set s.2.1 0 14 (by show (0 : Int) ≤ _; omega) (by show _ ≤ (9 : Int); omega)) ?_ ?_) ?_
  · intro M1 h1 h2 h3
    refine Ok_wr (Ok_ret ⟨rd_of (h1 0 14 (by decide)), ?_, SkyOk_keep h3 (fun q i _ _ => mup_n _ (by omega)), fun q i h => mup_n _ (by omega)⟩)
    rw [← h2]
    exact vw_sets (by omega) (by omega) (by omega)
  · intro M2 h1 h2 h3
    refine Ok_wr (Ok_ret ⟨?_, ?_, fun q i h => mup_n _ (by omega)⟩)
    · rw [← vw_s (w := 137) (by omega), h1, vw_s (by omega)]
    · rw [← h1]
      exact vw_sets (by omega) (by omega) (by omega)
  · rintro r Mc ⟨er, f, h⟩
    refine ⟨by rw [er]; exact rd_rng _ _ _, ?_⟩
    unfold m_X6_thick
    repeat (first
        | with_reducible refine Ok_g (by first | assumption | omega) ?_
        | with_reducible refine Ok_lt ?_
        | with_reducible refine Ok_t (by first | assumption | omega) ?_
        | with_reducible refine Ok_f (by first | assumption | omega) ?_
        | with_reducible refine Ok_be (e_hasF (by decide) (by assumption)) ?_
        | with_reducible refine Ok_be (e_hasT (by decide) (by assumption)) ?_
        | with_reducible refine Ok_be (e_hasP (by decide) (by assumption)) ?_
        | with_reducible refine Ok_be (e_isCell (by first | assumption | omega)) ?_
        | with_reducible refine Ok_be (e_oor (by assumption) (by decide) (by decide)) ?_
        | with_reducible refine Ok_be (r_isIn (by first | assumption | omega) (by first | decide | omega) (by first | decide | omega)) ?_
        | with_reducible refine Ok_be (r_bound (by assumption) (by decide) (by decide)) ?_
        | with_reducible refine Ok_be (r_isF (by assumption) (by assumption)) ?_
        | with_reducible refine Ok_be (r_isT (by assumption) (by assumption)) ?_
        | with_reducible refine Ok_be (r_isP (by assumption) (by assumption)) ?_
        | with_reducible refine Ok_be (r_isCell (by first | assumption | omega)) ?_)
    rw [er]
    exact h
theorem q_stands {n : Nat} {M : Mem} {a b : Int} (hn : 2000 ≤ n) (s : Sim M) (ha : I32 a) (hb : I32 b) : Agr (m_X5_stands n M a b) (fun M1 => m_X6_stands n M1 a b) := by
  obtain ⟨wf0, vv0, rf0⟩ := sim_rf s (M1 := M) (fun _ _ _ => rfl)
  unfold Agr m_X5_stands m_X5_stands_18
  by_cases h : 0 ≤ a ∧ a < rd M 0 12
  · by_cases h2 : 0 ≤ b ∧ b < 24
    · repeat (first
          | with_reducible refine Ok_g (by first | assumption | omega) ?_
          | with_reducible refine Ok_lt ?_
          | with_reducible refine Ok_t (by first | assumption | omega) ?_
          | with_reducible refine Ok_f (by first | assumption | omega) ?_
          | with_reducible refine Ok_be (e_hasF (by decide) (by assumption)) ?_
          | with_reducible refine Ok_be (e_hasT (by decide) (by assumption)) ?_
          | with_reducible refine Ok_be (e_hasP (by decide) (by assumption)) ?_
          | with_reducible refine Ok_be (e_isCell (by first | assumption | omega)) ?_
          | with_reducible refine Ok_be (e_oor (by assumption) (by decide) (by decide)) ?_
          | with_reducible refine Ok_be (r_isIn (by first | assumption | omega) (by first | decide | omega) (by first | decide | omega)) ?_
          | with_reducible refine Ok_be (r_bound (by assumption) (by decide) (by decide)) ?_
          | with_reducible refine Ok_be (r_isF (by assumption) (by assumption)) ?_
          | with_reducible refine Ok_be (r_isT (by assumption) (by assumption)) ?_
          | with_reducible refine Ok_be (r_isP (by assumption) (by assumption)) ?_
          | with_reducible refine Ok_be (r_isCell (by first | assumption | omega)) ?_)
      obtain ⟨p, rfl⟩ := Int.eq_ofNat_of_zero_le h.1
      have hp : p < 5 := by omega
      simp only [Int.toNat_natCast]
      refine Ok_mono (chg (u1 := uset (vw M 0) 10 p b) (r := rd M 10 p) (Kr := fun M11 => if 0 ≤ (p : Int) ∧ (p : Int) < 5 then (lt (rd M11 147 p) (fun x13 => wr M11 147 p b (fun M14 => some (x13, M14)))) else none) hn s (WF_set s.2.1 10 p (by show (0 : Int) ≤ _; omega) (by show _ ≤ (23 : Int); omega)) ?_ ?_) ?_
      · intro M1 h1 h2 h3
        repeat (first
            | with_reducible refine Ok_g (by first | assumption | omega) ?_
            | with_reducible refine Ok_lt ?_
            | with_reducible refine Ok_t (by first | assumption | omega) ?_
            | with_reducible refine Ok_f (by first | assumption | omega) ?_)
        refine Ok_wr (Ok_ret ⟨rd_of (h1 10 p (by decide)), ?_, SkyOk_keep h3 (fun q i _ _ => mup_n _ (by omega)), fun q i h => mup_n _ (by omega)⟩)
        rw [← h2]
        exact vw_set (w := 0) (k := 10) (by omega) (by decide) (by decide) (by decide) (show p < 5 by omega)
      · intro M2 h1 h2 h3
        repeat (first
            | with_reducible refine Ok_g (by first | assumption | omega) ?_
            | with_reducible refine Ok_lt ?_
            | with_reducible refine Ok_t (by first | assumption | omega) ?_
            | with_reducible refine Ok_f (by first | assumption | omega) ?_)
        refine Ok_wr (Ok_ret ⟨?_, ?_, fun q i h => mup_n _ (by omega)⟩)
        · have e := congrFun (congrFun h1 10) p
          rw [vw_10 _ _ hp, vw_10 _ _ hp] at e
          exact e
        · rw [← h1]
          exact vw_set (w := 137) (k := 10) (by omega) (by decide) (by decide) (by decide) (show p < 5 by omega)
      · rintro r Mc ⟨er, f, h⟩
        refine ⟨by rw [er]; exact rd_rng _ _ _, ?_⟩
        obtain ⟨wf1, rf1, rf2⟩ := sim_rf s (M1 := Mc) f
        unfold m_X6_stands m_X6_stands_15
        repeat (first
            | with_reducible refine Ok_g (by first | assumption | omega) ?_
            | with_reducible refine Ok_lt ?_
            | with_reducible refine Ok_t (by first | assumption | omega) ?_
            | with_reducible refine Ok_f (by first | assumption | omega) ?_
            | with_reducible refine Ok_be (e_hasF (by decide) (by assumption)) ?_
            | with_reducible refine Ok_be (e_hasT (by decide) (by assumption)) ?_
            | with_reducible refine Ok_be (e_hasP (by decide) (by assumption)) ?_
            | with_reducible refine Ok_be (e_isCell (by first | assumption | omega)) ?_
            | with_reducible refine Ok_be (e_oor (by assumption) (by decide) (by decide)) ?_
            | with_reducible refine Ok_be (r_isIn (by first | assumption | omega) (by first | decide | omega) (by first | decide | omega)) ?_
            | with_reducible refine Ok_be (r_bound (by assumption) (by decide) (by decide)) ?_
            | with_reducible refine Ok_be (r_isF (by assumption) (by assumption)) ?_
            | with_reducible refine Ok_be (r_isT (by assumption) (by assumption)) ?_
            | with_reducible refine Ok_be (r_isP (by assumption) (by assumption)) ?_
            | with_reducible refine Ok_be (r_isCell (by first | assumption | omega)) ?_)
        rw [er]
        exact h
    · repeat (first
          | with_reducible refine Ok_g (by first | assumption | omega) ?_
          | with_reducible refine Ok_lt ?_
          | with_reducible refine Ok_t (by first | assumption | omega) ?_
          | with_reducible refine Ok_f (by first | assumption | omega) ?_
          | with_reducible refine Ok_be (e_hasF (by decide) (by assumption)) ?_
          | with_reducible refine Ok_be (e_hasT (by decide) (by assumption)) ?_
          | with_reducible refine Ok_be (e_hasP (by decide) (by assumption)) ?_
          | with_reducible refine Ok_be (e_isCell (by first | assumption | omega)) ?_
          | with_reducible refine Ok_be (e_oor (by assumption) (by decide) (by decide)) ?_
          | with_reducible refine Ok_be (r_isIn (by first | assumption | omega) (by first | decide | omega) (by first | decide | omega)) ?_
          | with_reducible refine Ok_be (r_bound (by assumption) (by decide) (by decide)) ?_
          | with_reducible refine Ok_be (r_isF (by assumption) (by assumption)) ?_
          | with_reducible refine Ok_be (r_isT (by assumption) (by assumption)) ?_
          | with_reducible refine Ok_be (r_isP (by assumption) (by assumption)) ?_
          | with_reducible refine Ok_be (r_isCell (by first | assumption | omega)) ?_)
      refine Ok_be (e_refuse 1 (by omega) (by decide) (by decide)) (Ok_ret ⟨by decide, ?_⟩)
      obtain ⟨wf1, rf1, rf2⟩ := sim_rf s (M1 := bump 134 M 1) (fun q i h => bump_ne (by omega))
      unfold m_X6_stands m_X6_stands_15
      repeat (first
          | with_reducible refine Ok_g (by first | assumption | omega) ?_
          | with_reducible refine Ok_lt ?_
          | with_reducible refine Ok_t (by first | assumption | omega) ?_
          | with_reducible refine Ok_f (by first | assumption | omega) ?_
          | with_reducible refine Ok_be (e_hasF (by decide) (by assumption)) ?_
          | with_reducible refine Ok_be (e_hasT (by decide) (by assumption)) ?_
          | with_reducible refine Ok_be (e_hasP (by decide) (by assumption)) ?_
          | with_reducible refine Ok_be (e_isCell (by first | assumption | omega)) ?_
          | with_reducible refine Ok_be (e_oor (by assumption) (by decide) (by decide)) ?_
          | with_reducible refine Ok_be (r_isIn (by first | assumption | omega) (by first | decide | omega) (by first | decide | omega)) ?_
          | with_reducible refine Ok_be (r_bound (by assumption) (by decide) (by decide)) ?_
          | with_reducible refine Ok_be (r_isF (by assumption) (by assumption)) ?_
          | with_reducible refine Ok_be (r_isT (by assumption) (by assumption)) ?_
          | with_reducible refine Ok_be (r_isP (by assumption) (by assumption)) ?_
          | with_reducible refine Ok_be (r_isCell (by first | assumption | omega)) ?_)
      exact Ok_be (r_no 1 (by omega) (by decide) (by decide)) (Ok_ret ⟨rfl, sim_bump s 1⟩)
  · repeat (first
        | with_reducible refine Ok_g (by first | assumption | omega) ?_
        | with_reducible refine Ok_lt ?_
        | with_reducible refine Ok_t (by first | assumption | omega) ?_
        | with_reducible refine Ok_f (by first | assumption | omega) ?_
        | with_reducible refine Ok_be (e_hasF (by decide) (by assumption)) ?_
        | with_reducible refine Ok_be (e_hasT (by decide) (by assumption)) ?_
        | with_reducible refine Ok_be (e_hasP (by decide) (by assumption)) ?_
        | with_reducible refine Ok_be (e_isCell (by first | assumption | omega)) ?_
        | with_reducible refine Ok_be (e_oor (by assumption) (by decide) (by decide)) ?_
        | with_reducible refine Ok_be (r_isIn (by first | assumption | omega) (by first | decide | omega) (by first | decide | omega)) ?_
        | with_reducible refine Ok_be (r_bound (by assumption) (by decide) (by decide)) ?_
        | with_reducible refine Ok_be (r_isF (by assumption) (by assumption)) ?_
        | with_reducible refine Ok_be (r_isT (by assumption) (by assumption)) ?_
        | with_reducible refine Ok_be (r_isP (by assumption) (by assumption)) ?_
        | with_reducible refine Ok_be (r_isCell (by first | assumption | omega)) ?_)
    refine Ok_be (e_refuse 1 (by omega) (by decide) (by decide)) (Ok_ret ⟨by decide, ?_⟩)
    obtain ⟨wf1, rf1, rf2⟩ := sim_rf s (M1 := bump 134 M 1) (fun q i h => bump_ne (by omega))
    unfold m_X6_stands m_X6_stands_15
    repeat (first
        | with_reducible refine Ok_g (by first | assumption | omega) ?_
        | with_reducible refine Ok_lt ?_
        | with_reducible refine Ok_t (by first | assumption | omega) ?_
        | with_reducible refine Ok_f (by first | assumption | omega) ?_
        | with_reducible refine Ok_be (e_hasF (by decide) (by assumption)) ?_
        | with_reducible refine Ok_be (e_hasT (by decide) (by assumption)) ?_
        | with_reducible refine Ok_be (e_hasP (by decide) (by assumption)) ?_
        | with_reducible refine Ok_be (e_isCell (by first | assumption | omega)) ?_
        | with_reducible refine Ok_be (e_oor (by assumption) (by decide) (by decide)) ?_
        | with_reducible refine Ok_be (r_isIn (by first | assumption | omega) (by first | decide | omega) (by first | decide | omega)) ?_
        | with_reducible refine Ok_be (r_bound (by assumption) (by decide) (by decide)) ?_
        | with_reducible refine Ok_be (r_isF (by assumption) (by assumption)) ?_
        | with_reducible refine Ok_be (r_isT (by assumption) (by assumption)) ?_
        | with_reducible refine Ok_be (r_isP (by assumption) (by assumption)) ?_
        | with_reducible refine Ok_be (r_isCell (by first | assumption | omega)) ?_)
    exact Ok_be (r_no 1 (by omega) (by decide) (by decide)) (Ok_ret ⟨rfl, sim_bump s 1⟩)
theorem q_carries {n : Nat} {M : Mem} {a b : Int} (hn : 2000 ≤ n) (s : Sim M) (ha : I32 a) (hb : I32 b) : Agr (m_X5_carries n M a b) (fun M1 => m_X6_carries n M1 a b) := by
  obtain ⟨wf0, vv0, rf0⟩ := sim_rf s (M1 := M) (fun _ _ _ => rfl)
  unfold Agr m_X5_carries m_X5_carries_18
  by_cases h : 0 ≤ a ∧ a < rd M 0 7
  · by_cases h2 : 0 ≤ b ∧ b < 24
    · repeat (first
          | with_reducible refine Ok_g (by first | assumption | omega) ?_
          | with_reducible refine Ok_lt ?_
          | with_reducible refine Ok_t (by first | assumption | omega) ?_
          | with_reducible refine Ok_f (by first | assumption | omega) ?_
          | with_reducible refine Ok_be (e_hasF (by decide) (by assumption)) ?_
          | with_reducible refine Ok_be (e_hasT (by decide) (by assumption)) ?_
          | with_reducible refine Ok_be (e_hasP (by decide) (by assumption)) ?_
          | with_reducible refine Ok_be (e_isCell (by first | assumption | omega)) ?_
          | with_reducible refine Ok_be (e_oor (by assumption) (by decide) (by decide)) ?_
          | with_reducible refine Ok_be (r_isIn (by first | assumption | omega) (by first | decide | omega) (by first | decide | omega)) ?_
          | with_reducible refine Ok_be (r_bound (by assumption) (by decide) (by decide)) ?_
          | with_reducible refine Ok_be (r_isF (by assumption) (by assumption)) ?_
          | with_reducible refine Ok_be (r_isT (by assumption) (by assumption)) ?_
          | with_reducible refine Ok_be (r_isP (by assumption) (by assumption)) ?_
          | with_reducible refine Ok_be (r_isCell (by first | assumption | omega)) ?_)
      obtain ⟨p, rfl⟩ := Int.eq_ofNat_of_zero_le h.1
      have hp : p < 8 := by omega
      simp only [Int.toNat_natCast]
      refine Ok_mono (chg (u1 := uset (vw M 0) 5 p b) (r := rd M 5 p) (Kr := fun M11 => if 0 ≤ (p : Int) ∧ (p : Int) < 8 then (lt (rd M11 142 p) (fun x13 => wr M11 142 p b (fun M14 => some (x13, M14)))) else none) hn s (WF_set s.2.1 5 p (by show (0 : Int) ≤ _; omega) (by show _ ≤ (23 : Int); omega)) ?_ ?_) ?_
      · intro M1 h1 h2 h3
        repeat (first
            | with_reducible refine Ok_g (by first | assumption | omega) ?_
            | with_reducible refine Ok_lt ?_
            | with_reducible refine Ok_t (by first | assumption | omega) ?_
            | with_reducible refine Ok_f (by first | assumption | omega) ?_)
        refine Ok_wr (Ok_ret ⟨rd_of (h1 5 p (by decide)), ?_, SkyOk_keep h3 (fun q i _ _ => mup_n _ (by omega)), fun q i h => mup_n _ (by omega)⟩)
        rw [← h2]
        exact vw_set (w := 0) (k := 5) (by omega) (by decide) (by decide) (by decide) (show p < 8 by omega)
      · intro M2 h1 h2 h3
        repeat (first
            | with_reducible refine Ok_g (by first | assumption | omega) ?_
            | with_reducible refine Ok_lt ?_
            | with_reducible refine Ok_t (by first | assumption | omega) ?_
            | with_reducible refine Ok_f (by first | assumption | omega) ?_)
        refine Ok_wr (Ok_ret ⟨?_, ?_, fun q i h => mup_n _ (by omega)⟩)
        · have e := congrFun (congrFun h1 5) p
          rw [vw_5 _ _ hp, vw_5 _ _ hp] at e
          exact e
        · rw [← h1]
          exact vw_set (w := 137) (k := 5) (by omega) (by decide) (by decide) (by decide) (show p < 8 by omega)
      · rintro r Mc ⟨er, f, h⟩
        refine ⟨by rw [er]; exact rd_rng _ _ _, ?_⟩
        obtain ⟨wf1, rf1, rf2⟩ := sim_rf s (M1 := Mc) f
        unfold m_X6_carries m_X6_carries_15
        repeat (first
            | with_reducible refine Ok_g (by first | assumption | omega) ?_
            | with_reducible refine Ok_lt ?_
            | with_reducible refine Ok_t (by first | assumption | omega) ?_
            | with_reducible refine Ok_f (by first | assumption | omega) ?_
            | with_reducible refine Ok_be (e_hasF (by decide) (by assumption)) ?_
            | with_reducible refine Ok_be (e_hasT (by decide) (by assumption)) ?_
            | with_reducible refine Ok_be (e_hasP (by decide) (by assumption)) ?_
            | with_reducible refine Ok_be (e_isCell (by first | assumption | omega)) ?_
            | with_reducible refine Ok_be (e_oor (by assumption) (by decide) (by decide)) ?_
            | with_reducible refine Ok_be (r_isIn (by first | assumption | omega) (by first | decide | omega) (by first | decide | omega)) ?_
            | with_reducible refine Ok_be (r_bound (by assumption) (by decide) (by decide)) ?_
            | with_reducible refine Ok_be (r_isF (by assumption) (by assumption)) ?_
            | with_reducible refine Ok_be (r_isT (by assumption) (by assumption)) ?_
            | with_reducible refine Ok_be (r_isP (by assumption) (by assumption)) ?_
            | with_reducible refine Ok_be (r_isCell (by first | assumption | omega)) ?_)
        rw [er]
        exact h
    · repeat (first
          | with_reducible refine Ok_g (by first | assumption | omega) ?_
          | with_reducible refine Ok_lt ?_
          | with_reducible refine Ok_t (by first | assumption | omega) ?_
          | with_reducible refine Ok_f (by first | assumption | omega) ?_
          | with_reducible refine Ok_be (e_hasF (by decide) (by assumption)) ?_
          | with_reducible refine Ok_be (e_hasT (by decide) (by assumption)) ?_
          | with_reducible refine Ok_be (e_hasP (by decide) (by assumption)) ?_
          | with_reducible refine Ok_be (e_isCell (by first | assumption | omega)) ?_
          | with_reducible refine Ok_be (e_oor (by assumption) (by decide) (by decide)) ?_
          | with_reducible refine Ok_be (r_isIn (by first | assumption | omega) (by first | decide | omega) (by first | decide | omega)) ?_
          | with_reducible refine Ok_be (r_bound (by assumption) (by decide) (by decide)) ?_
          | with_reducible refine Ok_be (r_isF (by assumption) (by assumption)) ?_
          | with_reducible refine Ok_be (r_isT (by assumption) (by assumption)) ?_
          | with_reducible refine Ok_be (r_isP (by assumption) (by assumption)) ?_
          | with_reducible refine Ok_be (r_isCell (by first | assumption | omega)) ?_)
      refine Ok_be (e_refuse 1 (by omega) (by decide) (by decide)) (Ok_ret ⟨by decide, ?_⟩)
      obtain ⟨wf1, rf1, rf2⟩ := sim_rf s (M1 := bump 134 M 1) (fun q i h => bump_ne (by omega))
      unfold m_X6_carries m_X6_carries_15
      repeat (first
          | with_reducible refine Ok_g (by first | assumption | omega) ?_
          | with_reducible refine Ok_lt ?_
          | with_reducible refine Ok_t (by first | assumption | omega) ?_
          | with_reducible refine Ok_f (by first | assumption | omega) ?_
          | with_reducible refine Ok_be (e_hasF (by decide) (by assumption)) ?_
          | with_reducible refine Ok_be (e_hasT (by decide) (by assumption)) ?_
          | with_reducible refine Ok_be (e_hasP (by decide) (by assumption)) ?_
          | with_reducible refine Ok_be (e_isCell (by first | assumption | omega)) ?_
          | with_reducible refine Ok_be (e_oor (by assumption) (by decide) (by decide)) ?_
          | with_reducible refine Ok_be (r_isIn (by first | assumption | omega) (by first | decide | omega) (by first | decide | omega)) ?_
          | with_reducible refine Ok_be (r_bound (by assumption) (by decide) (by decide)) ?_
          | with_reducible refine Ok_be (r_isF (by assumption) (by assumption)) ?_
          | with_reducible refine Ok_be (r_isT (by assumption) (by assumption)) ?_
          | with_reducible refine Ok_be (r_isP (by assumption) (by assumption)) ?_
          | with_reducible refine Ok_be (r_isCell (by first | assumption | omega)) ?_)
      exact Ok_be (r_no 1 (by omega) (by decide) (by decide)) (Ok_ret ⟨rfl, sim_bump s 1⟩)
  · repeat (first
        | with_reducible refine Ok_g (by first | assumption | omega) ?_
        | with_reducible refine Ok_lt ?_
        | with_reducible refine Ok_t (by first | assumption | omega) ?_
        | with_reducible refine Ok_f (by first | assumption | omega) ?_
        | with_reducible refine Ok_be (e_hasF (by decide) (by assumption)) ?_
        | with_reducible refine Ok_be (e_hasT (by decide) (by assumption)) ?_
        | with_reducible refine Ok_be (e_hasP (by decide) (by assumption)) ?_
        | with_reducible refine Ok_be (e_isCell (by first | assumption | omega)) ?_
        | with_reducible refine Ok_be (e_oor (by assumption) (by decide) (by decide)) ?_
        | with_reducible refine Ok_be (r_isIn (by first | assumption | omega) (by first | decide | omega) (by first | decide | omega)) ?_
        | with_reducible refine Ok_be (r_bound (by assumption) (by decide) (by decide)) ?_
        | with_reducible refine Ok_be (r_isF (by assumption) (by assumption)) ?_
        | with_reducible refine Ok_be (r_isT (by assumption) (by assumption)) ?_
        | with_reducible refine Ok_be (r_isP (by assumption) (by assumption)) ?_
        | with_reducible refine Ok_be (r_isCell (by first | assumption | omega)) ?_)
    refine Ok_be (e_refuse 1 (by omega) (by decide) (by decide)) (Ok_ret ⟨by decide, ?_⟩)
    obtain ⟨wf1, rf1, rf2⟩ := sim_rf s (M1 := bump 134 M 1) (fun q i h => bump_ne (by omega))
    unfold m_X6_carries m_X6_carries_15
    repeat (first
        | with_reducible refine Ok_g (by first | assumption | omega) ?_
        | with_reducible refine Ok_lt ?_
        | with_reducible refine Ok_t (by first | assumption | omega) ?_
        | with_reducible refine Ok_f (by first | assumption | omega) ?_
        | with_reducible refine Ok_be (e_hasF (by decide) (by assumption)) ?_
        | with_reducible refine Ok_be (e_hasT (by decide) (by assumption)) ?_
        | with_reducible refine Ok_be (e_hasP (by decide) (by assumption)) ?_
        | with_reducible refine Ok_be (e_isCell (by first | assumption | omega)) ?_
        | with_reducible refine Ok_be (e_oor (by assumption) (by decide) (by decide)) ?_
        | with_reducible refine Ok_be (r_isIn (by first | assumption | omega) (by first | decide | omega) (by first | decide | omega)) ?_
        | with_reducible refine Ok_be (r_bound (by assumption) (by decide) (by decide)) ?_
        | with_reducible refine Ok_be (r_isF (by assumption) (by assumption)) ?_
        | with_reducible refine Ok_be (r_isT (by assumption) (by assumption)) ?_
        | with_reducible refine Ok_be (r_isP (by assumption) (by assumption)) ?_
        | with_reducible refine Ok_be (r_isCell (by first | assumption | omega)) ?_)
    exact Ok_be (r_no 1 (by omega) (by decide) (by decide)) (Ok_ret ⟨rfl, sim_bump s 1⟩)
theorem q_owns {n : Nat} {M : Mem} {a b : Int} (hn : 2000 ≤ n) (s : Sim M) (ha : I32 a) (hb : I32 b) : Agr (m_X5_owns n M a b) (fun M1 => m_X6_owns n M1 a b) := by
  obtain ⟨wf0, vv0, rf0⟩ := sim_rf s (M1 := M) (fun _ _ _ => rfl)
  unfold Agr m_X5_owns m_X5_owns_27
  by_cases h : 0 ≤ a ∧ a < rd M 0 7
  · by_cases h2 : b = -1 ∨ (0 ≤ b ∧ b < rd M 0 12)
    · have main : Ok (m_X5_owns_33 n M a b) (fun r M1 => I32 r ∧ Ok (m_X6_owns n M1 a b) (fun r' M2 => r' = r ∧ Sim M2)) := by
        obtain ⟨p, rfl⟩ := Int.eq_ofNat_of_zero_le h.1
        have hp : p < 8 := by omega
        have t := sim_t s hp
        have o := rd_rng M 6 p
        unfold m_X5_owns_33
        simp only [Int.toNat_natCast]
        refine Ok_mono (chg (u1 := uset (vw M 0) 6 p b) (r := rd M 143 p) (Kr := fun M13 => if 0 ≤ (p : Int) ∧ (p : Int) < 8 then (lt (rd M13 143 p) (fun x15 => if I32 b then (if 0 ≤ b then (m_X6_owns_54 n M13 x15 b (p : Int)) else (m_X6_owns_54 n M13 x15 (-9) (p : Int))) else none)) else none) hn s (WF_set s.2.1 6 p (by show (-1 : Int) ≤ _; omega) (by show _ ≤ (4 : Int); omega)) ?_ ?_) ?_
        · intro M1 h1 h2 h3
          repeat (first
              | with_reducible refine Ok_g (by first | assumption | omega) ?_
              | with_reducible refine Ok_lt ?_
              | with_reducible refine Ok_t (by first | assumption | omega) ?_
              | with_reducible refine Ok_f (by first | assumption | omega) ?_)
          refine Ok_wr ?_
          refine Ok_be (e_orNone (rd_rng _ _ _)) (Ok_ret ⟨?_, ?_, SkyOk_keep h3 (fun q i _ _ => mup_n _ (by omega)), fun q i h => mup_n _ (by omega)⟩)
          · rw [rd_of (h1 6 p (by decide))]
            exact t.2.2.symm
          · rw [← h2]
            exact vw_set (w := 0) (k := 6) (by omega) (by decide) (by decide) (by decide) (show p < 8 by omega)
        · intro M2 h1 h2 h3
          unfold m_X6_owns_54
          simp only [Int.toNat_natCast]
          repeat (first
              | with_reducible refine Ok_g (by first | assumption | omega) ?_
              | with_reducible refine Ok_lt ?_
              | with_reducible refine Ok_t (by first | assumption | omega) ?_
              | with_reducible refine Ok_f (by first | assumption | omega) ?_)
          by_cases c : 0 ≤ b
          · repeat (first
                | with_reducible refine Ok_g (by first | assumption | omega) ?_
                | with_reducible refine Ok_lt ?_
                | with_reducible refine Ok_t (by first | assumption | omega) ?_
                | with_reducible refine Ok_f (by first | assumption | omega) ?_)
            refine Ok_wr (Ok_ret ⟨rd_of (h2 143 p (by decide) (by decide)), ?_, fun q i h => mup_n _ (by omega)⟩)
            rw [← h1]
            have := vw_set (M := M2) (w := 137) (k := 6) (i := p) (v := b) (by omega) (by decide) (by decide) (by decide) (show p < 8 by omega)
            rw [if_pos rfl, show ow 137 b = b by unfold ow; omega] at this
            exact this
          · repeat (first
                | with_reducible refine Ok_g (by first | assumption | omega) ?_
                | with_reducible refine Ok_lt ?_
                | with_reducible refine Ok_t (by first | assumption | omega) ?_
                | with_reducible refine Ok_f (by first | assumption | omega) ?_)
            refine Ok_wr (Ok_ret ⟨rd_of (h2 143 p (by decide) (by decide)), ?_, fun q i h => mup_n _ (by omega)⟩)
            rw [← h1, show b = -1 by omega]
            exact vw_set (w := 137) (k := 6) (by decide) (by decide) (by decide) (by decide) (show p < 8 by omega)
        · rintro r Mc ⟨er, f, h⟩
          refine ⟨by rw [er]; exact rd_rng _ _ _, ?_⟩
          obtain ⟨wf1, rf1, rf2⟩ := sim_rf s (M1 := Mc) f
          unfold m_X6_owns m_X6_owns_22
          repeat (first
              | with_reducible refine Ok_g (by first | assumption | omega) ?_
              | with_reducible refine Ok_lt ?_
              | with_reducible refine Ok_t (by first | assumption | omega) ?_
              | with_reducible refine Ok_f (by first | assumption | omega) ?_
              | with_reducible refine Ok_be (e_hasF (by decide) (by assumption)) ?_
              | with_reducible refine Ok_be (e_hasT (by decide) (by assumption)) ?_
              | with_reducible refine Ok_be (e_hasP (by decide) (by assumption)) ?_
              | with_reducible refine Ok_be (e_isCell (by first | assumption | omega)) ?_
              | with_reducible refine Ok_be (e_oor (by assumption) (by decide) (by decide)) ?_
              | with_reducible refine Ok_be (r_isIn (by first | assumption | omega) (by first | decide | omega) (by first | decide | omega)) ?_
              | with_reducible refine Ok_be (r_bound (by assumption) (by decide) (by decide)) ?_
              | with_reducible refine Ok_be (r_isF (by assumption) (by assumption)) ?_
              | with_reducible refine Ok_be (r_isT (by assumption) (by assumption)) ?_
              | with_reducible refine Ok_be (r_isP (by assumption) (by assumption)) ?_
              | with_reducible refine Ok_be (r_isCell (by first | assumption | omega)) ?_)
          rw [er]
          simp only [Int.toNat_natCast]
          exact h
      repeat (first
          | with_reducible refine Ok_g (by first | assumption | omega) ?_
          | with_reducible refine Ok_lt ?_
          | with_reducible refine Ok_t (by first | assumption | omega) ?_
          | with_reducible refine Ok_f (by first | assumption | omega) ?_
          | with_reducible refine Ok_be (e_hasF (by decide) (by assumption)) ?_
          | with_reducible refine Ok_be (e_hasT (by decide) (by assumption)) ?_
          | with_reducible refine Ok_be (e_hasP (by decide) (by assumption)) ?_
          | with_reducible refine Ok_be (e_isCell (by first | assumption | omega)) ?_
          | with_reducible refine Ok_be (e_oor (by assumption) (by decide) (by decide)) ?_
          | with_reducible refine Ok_be (r_isIn (by first | assumption | omega) (by first | decide | omega) (by first | decide | omega)) ?_
          | with_reducible refine Ok_be (r_bound (by assumption) (by decide) (by decide)) ?_
          | with_reducible refine Ok_be (r_isF (by assumption) (by assumption)) ?_
          | with_reducible refine Ok_be (r_isT (by assumption) (by assumption)) ?_
          | with_reducible refine Ok_be (r_isP (by assumption) (by assumption)) ?_
          | with_reducible refine Ok_be (r_isCell (by first | assumption | omega)) ?_)
      refine Ok_if (fun g => main) (fun g => ?_)
      repeat (first
          | with_reducible refine Ok_g (by first | assumption | omega) ?_
          | with_reducible refine Ok_lt ?_
          | with_reducible refine Ok_t (by first | assumption | omega) ?_
          | with_reducible refine Ok_f (by first | assumption | omega) ?_
          | with_reducible refine Ok_be (e_hasF (by decide) (by assumption)) ?_
          | with_reducible refine Ok_be (e_hasT (by decide) (by assumption)) ?_
          | with_reducible refine Ok_be (e_hasP (by decide) (by assumption)) ?_
          | with_reducible refine Ok_be (e_isCell (by first | assumption | omega)) ?_
          | with_reducible refine Ok_be (e_oor (by assumption) (by decide) (by decide)) ?_
          | with_reducible refine Ok_be (r_isIn (by first | assumption | omega) (by first | decide | omega) (by first | decide | omega)) ?_
          | with_reducible refine Ok_be (r_bound (by assumption) (by decide) (by decide)) ?_
          | with_reducible refine Ok_be (r_isF (by assumption) (by assumption)) ?_
          | with_reducible refine Ok_be (r_isT (by assumption) (by assumption)) ?_
          | with_reducible refine Ok_be (r_isP (by assumption) (by assumption)) ?_
          | with_reducible refine Ok_be (r_isCell (by first | assumption | omega)) ?_)
      exact main
    · repeat (first
          | with_reducible refine Ok_g (by first | assumption | omega) ?_
          | with_reducible refine Ok_lt ?_
          | with_reducible refine Ok_t (by first | assumption | omega) ?_
          | with_reducible refine Ok_f (by first | assumption | omega) ?_
          | with_reducible refine Ok_be (e_hasF (by decide) (by assumption)) ?_
          | with_reducible refine Ok_be (e_hasT (by decide) (by assumption)) ?_
          | with_reducible refine Ok_be (e_hasP (by decide) (by assumption)) ?_
          | with_reducible refine Ok_be (e_isCell (by first | assumption | omega)) ?_
          | with_reducible refine Ok_be (e_oor (by assumption) (by decide) (by decide)) ?_
          | with_reducible refine Ok_be (r_isIn (by first | assumption | omega) (by first | decide | omega) (by first | decide | omega)) ?_
          | with_reducible refine Ok_be (r_bound (by assumption) (by decide) (by decide)) ?_
          | with_reducible refine Ok_be (r_isF (by assumption) (by assumption)) ?_
          | with_reducible refine Ok_be (r_isT (by assumption) (by assumption)) ?_
          | with_reducible refine Ok_be (r_isP (by assumption) (by assumption)) ?_
          | with_reducible refine Ok_be (r_isCell (by first | assumption | omega)) ?_)
      refine Ok_be (e_refuse 1 (by omega) (by decide) (by decide)) (Ok_ret ⟨by decide, ?_⟩)
      obtain ⟨wf1, rf1, rf2⟩ := sim_rf s (M1 := bump 134 M 1) (fun q i h => bump_ne (by omega))
      unfold m_X6_owns m_X6_owns_22
      repeat (first
          | with_reducible refine Ok_g (by first | assumption | omega) ?_
          | with_reducible refine Ok_lt ?_
          | with_reducible refine Ok_t (by first | assumption | omega) ?_
          | with_reducible refine Ok_f (by first | assumption | omega) ?_
          | with_reducible refine Ok_be (e_hasF (by decide) (by assumption)) ?_
          | with_reducible refine Ok_be (e_hasT (by decide) (by assumption)) ?_
          | with_reducible refine Ok_be (e_hasP (by decide) (by assumption)) ?_
          | with_reducible refine Ok_be (e_isCell (by first | assumption | omega)) ?_
          | with_reducible refine Ok_be (e_oor (by assumption) (by decide) (by decide)) ?_
          | with_reducible refine Ok_be (r_isIn (by first | assumption | omega) (by first | decide | omega) (by first | decide | omega)) ?_
          | with_reducible refine Ok_be (r_bound (by assumption) (by decide) (by decide)) ?_
          | with_reducible refine Ok_be (r_isF (by assumption) (by assumption)) ?_
          | with_reducible refine Ok_be (r_isT (by assumption) (by assumption)) ?_
          | with_reducible refine Ok_be (r_isP (by assumption) (by assumption)) ?_
          | with_reducible refine Ok_be (r_isCell (by first | assumption | omega)) ?_)
      exact Ok_be (r_no 1 (by omega) (by decide) (by decide)) (Ok_ret ⟨rfl, sim_bump s 1⟩)
  · repeat (first
        | with_reducible refine Ok_g (by first | assumption | omega) ?_
        | with_reducible refine Ok_lt ?_
        | with_reducible refine Ok_t (by first | assumption | omega) ?_
        | with_reducible refine Ok_f (by first | assumption | omega) ?_
        | with_reducible refine Ok_be (e_hasF (by decide) (by assumption)) ?_
        | with_reducible refine Ok_be (e_hasT (by decide) (by assumption)) ?_
        | with_reducible refine Ok_be (e_hasP (by decide) (by assumption)) ?_
        | with_reducible refine Ok_be (e_isCell (by first | assumption | omega)) ?_
        | with_reducible refine Ok_be (e_oor (by assumption) (by decide) (by decide)) ?_
        | with_reducible refine Ok_be (r_isIn (by first | assumption | omega) (by first | decide | omega) (by first | decide | omega)) ?_
        | with_reducible refine Ok_be (r_bound (by assumption) (by decide) (by decide)) ?_
        | with_reducible refine Ok_be (r_isF (by assumption) (by assumption)) ?_
        | with_reducible refine Ok_be (r_isT (by assumption) (by assumption)) ?_
        | with_reducible refine Ok_be (r_isP (by assumption) (by assumption)) ?_
        | with_reducible refine Ok_be (r_isCell (by first | assumption | omega)) ?_)
    refine Ok_be (e_refuse 1 (by omega) (by decide) (by decide)) (Ok_ret ⟨by decide, ?_⟩)
    obtain ⟨wf1, rf1, rf2⟩ := sim_rf s (M1 := bump 134 M 1) (fun q i h => bump_ne (by omega))
    unfold m_X6_owns m_X6_owns_22
    repeat (first
        | with_reducible refine Ok_g (by first | assumption | omega) ?_
        | with_reducible refine Ok_lt ?_
        | with_reducible refine Ok_t (by first | assumption | omega) ?_
        | with_reducible refine Ok_f (by first | assumption | omega) ?_
        | with_reducible refine Ok_be (e_hasF (by decide) (by assumption)) ?_
        | with_reducible refine Ok_be (e_hasT (by decide) (by assumption)) ?_
        | with_reducible refine Ok_be (e_hasP (by decide) (by assumption)) ?_
        | with_reducible refine Ok_be (e_isCell (by first | assumption | omega)) ?_
        | with_reducible refine Ok_be (e_oor (by assumption) (by decide) (by decide)) ?_
        | with_reducible refine Ok_be (r_isIn (by first | assumption | omega) (by first | decide | omega) (by first | decide | omega)) ?_
        | with_reducible refine Ok_be (r_bound (by assumption) (by decide) (by decide)) ?_
        | with_reducible refine Ok_be (r_isF (by assumption) (by assumption)) ?_
        | with_reducible refine Ok_be (r_isT (by assumption) (by assumption)) ?_
        | with_reducible refine Ok_be (r_isP (by assumption) (by assumption)) ?_
        | with_reducible refine Ok_be (r_isCell (by first | assumption | omega)) ?_)
    exact Ok_be (r_no 1 (by omega) (by decide) (by decide)) (Ok_ret ⟨rfl, sim_bump s 1⟩)
theorem q_hours {n : Nat} {M : Mem} {a : Int} (hn : 2000 ≤ n) (s : Sim M) (ha : I32 a) : Agr (m_X5_hours n M a) (fun M1 => m_X6_hours n M1 a) := by
  have bs := sW s.2.1
  obtain ⟨wf0, vv0, rf0⟩ := sim_rf s (M1 := M) (fun _ _ _ => rfl)
  unfold Agr m_X5_hours
  by_cases h0 : a < 1
  · repeat (first
        | with_reducible refine Ok_g (by first | assumption | omega) ?_
        | with_reducible refine Ok_lt ?_
        | with_reducible refine Ok_t (by first | assumption | omega) ?_
        | with_reducible refine Ok_f (by first | assumption | omega) ?_
        | with_reducible refine Ok_be (e_hasF (by decide) (by assumption)) ?_
        | with_reducible refine Ok_be (e_hasT (by decide) (by assumption)) ?_
        | with_reducible refine Ok_be (e_hasP (by decide) (by assumption)) ?_
        | with_reducible refine Ok_be (e_isCell (by first | assumption | omega)) ?_
        | with_reducible refine Ok_be (e_oor (by assumption) (by decide) (by decide)) ?_
        | with_reducible refine Ok_be (r_isIn (by first | assumption | omega) (by first | decide | omega) (by first | decide | omega)) ?_
        | with_reducible refine Ok_be (r_bound (by assumption) (by decide) (by decide)) ?_
        | with_reducible refine Ok_be (r_isF (by assumption) (by assumption)) ?_
        | with_reducible refine Ok_be (r_isT (by assumption) (by assumption)) ?_
        | with_reducible refine Ok_be (r_isP (by assumption) (by assumption)) ?_
        | with_reducible refine Ok_be (r_isCell (by first | assumption | omega)) ?_)
    refine Ok_be (e_refuse 4 (by omega) (by decide) (by decide)) (Ok_ret ⟨by decide, ?_⟩)
    obtain ⟨wf1, rf1, rf2⟩ := sim_rf s (M1 := bump 134 M 4) (fun q i h => bump_ne (by omega))
    unfold m_X6_hours m_X6_hours_27
    repeat (first
        | with_reducible refine Ok_g (by first | assumption | omega) ?_
        | with_reducible refine Ok_lt ?_
        | with_reducible refine Ok_t (by first | assumption | omega) ?_
        | with_reducible refine Ok_f (by first | assumption | omega) ?_
        | with_reducible refine Ok_be (e_hasF (by decide) (by assumption)) ?_
        | with_reducible refine Ok_be (e_hasT (by decide) (by assumption)) ?_
        | with_reducible refine Ok_be (e_hasP (by decide) (by assumption)) ?_
        | with_reducible refine Ok_be (e_isCell (by first | assumption | omega)) ?_
        | with_reducible refine Ok_be (e_oor (by assumption) (by decide) (by decide)) ?_
        | with_reducible refine Ok_be (r_isIn (by first | assumption | omega) (by first | decide | omega) (by first | decide | omega)) ?_
        | with_reducible refine Ok_be (r_bound (by assumption) (by decide) (by decide)) ?_
        | with_reducible refine Ok_be (r_isF (by assumption) (by assumption)) ?_
        | with_reducible refine Ok_be (r_isT (by assumption) (by assumption)) ?_
        | with_reducible refine Ok_be (r_isP (by assumption) (by assumption)) ?_
        | with_reducible refine Ok_be (r_isCell (by first | assumption | omega)) ?_)
    exact Ok_be (r_no 4 (by omega) (by decide) (by decide)) (Ok_ret ⟨rfl, sim_bump s 4⟩)
  by_cases h9 : 60 < a
  · repeat (first
        | with_reducible refine Ok_g (by first | assumption | omega) ?_
        | with_reducible refine Ok_lt ?_
        | with_reducible refine Ok_t (by first | assumption | omega) ?_
        | with_reducible refine Ok_f (by first | assumption | omega) ?_
        | with_reducible refine Ok_be (e_hasF (by decide) (by assumption)) ?_
        | with_reducible refine Ok_be (e_hasT (by decide) (by assumption)) ?_
        | with_reducible refine Ok_be (e_hasP (by decide) (by assumption)) ?_
        | with_reducible refine Ok_be (e_isCell (by first | assumption | omega)) ?_
        | with_reducible refine Ok_be (e_oor (by assumption) (by decide) (by decide)) ?_
        | with_reducible refine Ok_be (r_isIn (by first | assumption | omega) (by first | decide | omega) (by first | decide | omega)) ?_
        | with_reducible refine Ok_be (r_bound (by assumption) (by decide) (by decide)) ?_
        | with_reducible refine Ok_be (r_isF (by assumption) (by assumption)) ?_
        | with_reducible refine Ok_be (r_isT (by assumption) (by assumption)) ?_
        | with_reducible refine Ok_be (r_isP (by assumption) (by assumption)) ?_
        | with_reducible refine Ok_be (r_isCell (by first | assumption | omega)) ?_)
    refine Ok_be (e_refuse 6 (by omega) (by decide) (by decide)) (Ok_ret ⟨by decide, ?_⟩)
    obtain ⟨wf1, rf1, rf2⟩ := sim_rf s (M1 := bump 134 M 6) (fun q i h => bump_ne (by omega))
    unfold m_X6_hours m_X6_hours_27
    repeat (first
        | with_reducible refine Ok_g (by first | assumption | omega) ?_
        | with_reducible refine Ok_lt ?_
        | with_reducible refine Ok_t (by first | assumption | omega) ?_
        | with_reducible refine Ok_f (by first | assumption | omega) ?_
        | with_reducible refine Ok_be (e_hasF (by decide) (by assumption)) ?_
        | with_reducible refine Ok_be (e_hasT (by decide) (by assumption)) ?_
        | with_reducible refine Ok_be (e_hasP (by decide) (by assumption)) ?_
        | with_reducible refine Ok_be (e_isCell (by first | assumption | omega)) ?_
        | with_reducible refine Ok_be (e_oor (by assumption) (by decide) (by decide)) ?_
        | with_reducible refine Ok_be (r_isIn (by first | assumption | omega) (by first | decide | omega) (by first | decide | omega)) ?_
        | with_reducible refine Ok_be (r_bound (by assumption) (by decide) (by decide)) ?_
        | with_reducible refine Ok_be (r_isF (by assumption) (by assumption)) ?_
        | with_reducible refine Ok_be (r_isT (by assumption) (by assumption)) ?_
        | with_reducible refine Ok_be (r_isP (by assumption) (by assumption)) ?_
        | with_reducible refine Ok_be (r_isCell (by first | assumption | omega)) ?_)
    exact Ok_be (r_no 6 (by omega) (by decide) (by decide)) (Ok_ret ⟨rfl, sim_bump s 6⟩)
  by_cases hl : 999 < rd M 0 13 + a
  · repeat (first
        | with_reducible refine Ok_g (by first | assumption | omega) ?_
        | with_reducible refine Ok_lt ?_
        | with_reducible refine Ok_t (by first | assumption | omega) ?_
        | with_reducible refine Ok_f (by first | assumption | omega) ?_
        | with_reducible refine Ok_be (e_hasF (by decide) (by assumption)) ?_
        | with_reducible refine Ok_be (e_hasT (by decide) (by assumption)) ?_
        | with_reducible refine Ok_be (e_hasP (by decide) (by assumption)) ?_
        | with_reducible refine Ok_be (e_isCell (by first | assumption | omega)) ?_
        | with_reducible refine Ok_be (e_oor (by assumption) (by decide) (by decide)) ?_
        | with_reducible refine Ok_be (r_isIn (by first | assumption | omega) (by first | decide | omega) (by first | decide | omega)) ?_
        | with_reducible refine Ok_be (r_bound (by assumption) (by decide) (by decide)) ?_
        | with_reducible refine Ok_be (r_isF (by assumption) (by assumption)) ?_
        | with_reducible refine Ok_be (r_isT (by assumption) (by assumption)) ?_
        | with_reducible refine Ok_be (r_isP (by assumption) (by assumption)) ?_
        | with_reducible refine Ok_be (r_isCell (by first | assumption | omega)) ?_)
    refine Ok_be (e_refuse 6 (by omega) (by decide) (by decide)) (Ok_ret ⟨by decide, ?_⟩)
    obtain ⟨wf1, rf1, rf2⟩ := sim_rf s (M1 := bump 134 M 6) (fun q i h => bump_ne (by omega))
    unfold m_X6_hours m_X6_hours_27
    repeat (first
        | with_reducible refine Ok_g (by first | assumption | omega) ?_
        | with_reducible refine Ok_lt ?_
        | with_reducible refine Ok_t (by first | assumption | omega) ?_
        | with_reducible refine Ok_f (by first | assumption | omega) ?_
        | with_reducible refine Ok_be (e_hasF (by decide) (by assumption)) ?_
        | with_reducible refine Ok_be (e_hasT (by decide) (by assumption)) ?_
        | with_reducible refine Ok_be (e_hasP (by decide) (by assumption)) ?_
        | with_reducible refine Ok_be (e_isCell (by first | assumption | omega)) ?_
        | with_reducible refine Ok_be (e_oor (by assumption) (by decide) (by decide)) ?_
        | with_reducible refine Ok_be (r_isIn (by first | assumption | omega) (by first | decide | omega) (by first | decide | omega)) ?_
        | with_reducible refine Ok_be (r_bound (by assumption) (by decide) (by decide)) ?_
        | with_reducible refine Ok_be (r_isF (by assumption) (by assumption)) ?_
        | with_reducible refine Ok_be (r_isT (by assumption) (by assumption)) ?_
        | with_reducible refine Ok_be (r_isP (by assumption) (by assumption)) ?_
        | with_reducible refine Ok_be (r_isCell (by first | assumption | omega)) ?_)
    exact Ok_be (r_no 6 (by omega) (by decide) (by decide)) (Ok_ret ⟨rfl, sim_bump s 6⟩)
  repeat (first
      | with_reducible refine Ok_g (by first | assumption | omega) ?_
      | with_reducible refine Ok_lt ?_
      | with_reducible refine Ok_t (by first | assumption | omega) ?_
      | with_reducible refine Ok_f (by first | assumption | omega) ?_
      | with_reducible refine Ok_be (e_hasF (by decide) (by assumption)) ?_
      | with_reducible refine Ok_be (e_hasT (by decide) (by assumption)) ?_
      | with_reducible refine Ok_be (e_hasP (by decide) (by assumption)) ?_
      | with_reducible refine Ok_be (e_isCell (by first | assumption | omega)) ?_
      | with_reducible refine Ok_be (e_oor (by assumption) (by decide) (by decide)) ?_
      | with_reducible refine Ok_be (r_isIn (by first | assumption | omega) (by first | decide | omega) (by first | decide | omega)) ?_
      | with_reducible refine Ok_be (r_bound (by assumption) (by decide) (by decide)) ?_
      | with_reducible refine Ok_be (r_isF (by assumption) (by assumption)) ?_
      | with_reducible refine Ok_be (r_isT (by assumption) (by assumption)) ?_
      | with_reducible refine Ok_be (r_isP (by assumption) (by assumption)) ?_
      | with_reducible refine Ok_be (r_isCell (by first | assumption | omega)) ?_)
  have wu : WF 999 (hoursS a.toNat (vw M 0)) := by
    refine WF_hour (hoursS_wf a.toNat 0 _ s.2.1) ?_
    show frm (fun _ u => hourS u) a.toNat 0 (vw M 0) 0 13 ≤ 999
    rw [hoursS_h, bs.1.2.2.2.1]
    omega
  have kk : ∀ N : Nat, hoursS N (vw M 0) 0 20 = -1 ∧ hoursS N (vw M 0) 0 21 = 0 := by
    intro N
    have k0 := w_ket M (w := 0) (by decide) (by decide)
    unfold hoursS
    rw [hoursS_o _ _ _ (by decide) (by decide) (by omega), hoursS_o _ _ _ (by decide) (by decide) (by omega)]
    exact k0
  have wb := manyS_b wu
  refine Ok_mono (chg (u1 := hoursS a.toNat (vw M 0)) (r := manyS (hoursS a.toNat (vw M 0))) (Kr := fun M3 => bd (m_X6_goes n M3 a) (fun _ M4 => bd (m_X6_manyOwned n M4) (fun r6 M5 => some (r6, M5)))) hn s wu ?_ ?_) ?_
  · intro M1 h1 h2 h3
    have w1 : WF 999 (vw M1 0) := by rw [h2]; exact s.2.1
    unfold m_X5_thinkOn
    refine Ok_bd (Ok_bd (e_begin hn h3 w1 (by decide)) (P := fun _ M3 => vw M3 22 = hoursS a.toNat (vw M 0) ∧ SkyOk M3 ∧ ∀ q i, (q < 22 ∨ 32 < q ∧ q < 121 ∨ 129 < q) → M3 q i = M1 q i) ?_) ?_
    · rintro _ M2 ⟨v2, k2, l2, f2⟩
      refine Ok_bd (e_goOn (N := a) (H := 999) hn (by omega) (by omega) k2 (by rw [v2]; exact w1)) ?_
      rintro _ M3 ⟨v3, k3, l3, f3⟩
      refine Ok_ret ⟨by rw [v3, v2, h2], k3, fun q i hq => by rw [f3 q i (by omega) (by omega), f2 q i (by omega)]⟩
    · rintro _ M3 ⟨v3, k3, km⟩
      refine Ok_bd (e_bec (w := 0) (w' := 22) (by decide) (by decide) (by decide) (by decide) (by rw [v3]; exact (kk _).1) (by rw [v3]; exact (kk _).2)) ?_
      rintro _ M4 ⟨v4, f4⟩
      have v5 : vw M4 0 = hoursS a.toNat (vw M 0) := by rw [v4, v3]
      refine Ok_be (e_owned hn (by decide) (by rw [v5]; exact wu)) (Ok_ret ⟨by rw [v5], v5, SkyOk_keep k3 (fun q i _ _ => f4 q i (by omega)), ?_⟩)
      intro q i h
      rw [f4 q i (by omega), km q i (by omega)]
  · intro M2 h1 h2 h3
    have w2 : WF 999 (vw M2 137) := by rw [h1]; exact s.2.1
    refine Ok_bd (r_goes (N := a) (H := 999) hn (by omega) (by omega) w2) ?_
    rintro _ M3 ⟨v3, k3⟩
    have v4 : vw M3 137 = hoursS a.toNat (vw M 0) := by rw [v3, h1]
    refine Ok_be (r_many hn (by rw [v4]; exact wu)) (Ok_ret ⟨by rw [v4], v4, ?_⟩)
    intro q i h
    exact k3 q i (by omega) (by omega) (by omega) (by omega) (by omega)
  · rintro r Mc ⟨er, f, h⟩
    refine ⟨by rw [er]; omega, ?_⟩
    obtain ⟨wf1, rf1, rf2⟩ := sim_rf s (M1 := Mc) f
    unfold m_X6_hours m_X6_hours_27
    repeat (first
        | with_reducible refine Ok_g (by first | assumption | omega) ?_
        | with_reducible refine Ok_lt ?_
        | with_reducible refine Ok_t (by first | assumption | omega) ?_
        | with_reducible refine Ok_f (by first | assumption | omega) ?_
        | with_reducible refine Ok_be (e_hasF (by decide) (by assumption)) ?_
        | with_reducible refine Ok_be (e_hasT (by decide) (by assumption)) ?_
        | with_reducible refine Ok_be (e_hasP (by decide) (by assumption)) ?_
        | with_reducible refine Ok_be (e_isCell (by first | assumption | omega)) ?_
        | with_reducible refine Ok_be (e_oor (by assumption) (by decide) (by decide)) ?_
        | with_reducible refine Ok_be (r_isIn (by first | assumption | omega) (by first | decide | omega) (by first | decide | omega)) ?_
        | with_reducible refine Ok_be (r_bound (by assumption) (by decide) (by decide)) ?_
        | with_reducible refine Ok_be (r_isF (by assumption) (by assumption)) ?_
        | with_reducible refine Ok_be (r_isT (by assumption) (by assumption)) ?_
        | with_reducible refine Ok_be (r_isP (by assumption) (by assumption)) ?_
        | with_reducible refine Ok_be (r_isCell (by first | assumption | omega)) ?_)
    rw [er]
    exact h
