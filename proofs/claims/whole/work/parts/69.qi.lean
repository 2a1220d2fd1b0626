/-! back, the image, letters, the row -/
theorem giv_eq {M M' : Mem} {x : Nat} (h1 : ∀ k i, ¬ (k = 0 ∧ (i = 20 ∨ i = 21)) → vw M' 137 k i = kv M x k i) (hk : vw M' 137 0 20 = -1) (hy : vw M' 137 0 21 = 0) : vw M' 137 = kv M x := by
  funext k i
  by_cases c : k = 0 ∧ (i = 20 ∨ i = 21)
  · obtain ⟨rfl, c | c⟩ := c
    · subst c
      rw [hk]; rfl
    · subst c
      rw [hy]; rfl
  · exact h1 k i c
theorem r_giv {n x : Nat} {M : Mem} (hn : 2000 ≤ n) (hx : x ≤ 10) (hk : vw M 137 0 20 = -1) (hy : vw M 137 0 21 = 0) : Ok (m_X6_passesAll n M (x : Int) 0) (fun _ M' => vw M' 137 = kv M x ∧ (∀ a b, ¬ (138 ≤ a ∧ a ≤ 147) → ¬ (a = 137 ∧ (b = 3 ∨ b = 7 ∨ b = 12 ∨ b = 13 ∨ b = 14 ∨ b = 27 ∨ b = 28)) → M' a b = M a b)) := by
  refine Ok_mono (r_givev hn hx) ?_
  rintro _ M' ⟨h1, h2⟩
  refine ⟨giv_eq h1 ?_ ?_, h2⟩
  · rw [v137k, rd_of (h2 _ _ (by omega) (by omega))]; exact hk
  · rw [v137s, rd_of (h2 _ _ (by omega) (by omega))]; exact hy
theorem q_back {n : Nat} {M : Mem} (hn : 2000 ≤ n) (s : Sim M) : Agr (m_X5_back n M) (fun M1 => m_X6_back n M1) := by
  obtain ⟨b, fb, hb8, hf8, h4, h30, h29, hold⟩ := s.2.2.2.2.1
  have hk : vw M 137 0 20 = -1 := by rw [s.1]; rfl
  have hy : vw M 137 0 21 = 0 := by rw [s.1]; rfl
  unfold Agr m_X5_back m_X5_back_16
  by_cases b0 : b = 0
  · repeat (first
        | with_reducible refine Ok_g (by first | assumption | omega) ?_
        | with_reducible refine Ok_lt ?_
        | with_reducible refine Ok_t (by first | assumption | omega) ?_
        | with_reducible refine Ok_f (by first | assumption | omega) ?_)
    refine Ok_be (e_refuse 3 (by omega) (by decide) (by decide)) (Ok_ret ⟨by decide, ?_⟩)
    show Ok (m_X6_back n _) _
    unfold m_X6_back
    rw [rd_of (bump_ne (q := 134) (a := 137) (by decide)), h30]
    repeat (first
        | with_reducible refine Ok_g (by first | assumption | omega) ?_
        | with_reducible refine Ok_lt ?_
        | with_reducible refine Ok_t (by first | assumption | omega) ?_
        | with_reducible refine Ok_f (by first | assumption | omega) ?_)
    exact Ok_be (r_no 3 (by omega) (by decide) (by decide)) (Ok_ret ⟨rfl, sim_bump s 3⟩)
  · obtain ⟨c, rfl⟩ : ∃ c, b = c + 1 := ⟨b - 1, by omega⟩
    repeat (first
        | with_reducible refine Ok_g (by first | assumption | omega) ?_
        | with_reducible refine Ok_lt ?_
        | with_reducible refine Ok_t (by first | assumption | omega) ?_
        | with_reducible refine Ok_f (by first | assumption | omega) ?_)
    refine Ok_wr ?_
    have e4 : rd (mup M 130 4 (rd M 130 4 - 1)) 130 4 = (c : Int) := by
      rw [rd_ups _ _ _ (by omega)]; omega
    rw [e4, rd_upne _ _ _ 131 _ _ (by omega)]
    simp only [Int.toNat_natCast]
    repeat (first
        | with_reducible refine Ok_g (by first | assumption | omega) ?_
        | with_reducible refine Ok_lt ?_
        | with_reducible refine Ok_t (by first | assumption | omega) ?_
        | with_reducible refine Ok_f (by first | assumption | omega) ?_)
    have w := ea_W s.2.2.2.1 (j := c) (by omega)
    have k0 := w_ket (mup M 130 4 (rd M 130 4 - 1)) (w := ea M c) (by omega) (by omega)
    refine Ok_bd (e_bec (w := 0) (w' := ea M c) (by decide) w.1 (by omega) (by decide) k0.1 k0.2) ?_
    rintro _ M1 ⟨v1, f1⟩
    have fr : ∀ q i, 10 < q → ¬ (q = 130 ∧ i = 4) → M1 q i = M q i := fun q i h h2 => by rw [f1 q i (by omega), mup_n _ h2]
    have e41 : rd M1 130 4 = (c : Int) := by rw [rd_of (f1 _ _ (by omega))]; exact e4
    have v2 : vw M1 0 = vw M (ea M c) := by
      rw [v1]
      exact vwE_congr (by omega) (fun q i _ _ => mup_n _ (by omega))
    have hc := hold c (by omega)
    refine Ok_ret ⟨by omega, ?_⟩
    have z29 : rd M1 137 29 = fb := by rw [rd_of (fr _ _ (by omega) (by omega))]; exact h29
    have z30 : rd M1 137 30 = ((c + 1 : Nat) : Int) := by rw [rd_of (fr _ _ (by omega) (by omega))]; exact h30
    have ev : vw M1 137 = vw M 137 := vw_congr (fun i _ => fr _ _ (by omega) (by omega)) (fun a i _ _ => fr _ _ (by omega) (by omega)) (fun z => absurd z (by decide)) (fun _ => ⟨fr _ _ (by omega) (by omega), fr _ _ (by omega) (by omega)⟩)
    show Ok (m_X6_back n _) _
    unfold m_X6_back
    rw [z29, z30, tm (by omega)]
    repeat (first
        | with_reducible refine Ok_g (by first | assumption | omega) ?_
        | with_reducible refine Ok_lt ?_
        | with_reducible refine Ok_t (by first | assumption | omega) ?_
        | with_reducible refine Ok_f (by first | assumption | omega) ?_)
    rw [show 3 + ((fb : Int) + ((c + 1 : Nat) : Int) - 1) % 8 = ((3 + (fb + c) % 8 : Nat) : Int) by omega]
    refine Ok_bd (r_giv hn (by omega) (by rw [ev]; exact hk) (by rw [ev]; exact hy)) ?_
    rintro _ M2 ⟨v3, f2⟩
    have z302 : rd M2 137 30 = ((c + 1 : Nat) : Int) := by rw [rd_of (f2 _ _ (by omega) (by omega))]; exact z30
    refine Ok_wr (Ok_ret ⟨?_, ?_⟩)
    · rw [rd_ups _ _ _ (by omega)]; omega
    have kk : kv M1 (3 + (fb + c) % 8) = kv M (3 + (fb + c) % 8) := kv_congr (fun x _ _ => fr _ _ (by omega) (by omega))
    have fm : ∀ q i, 10 < q → ¬ (138 ≤ q ∧ q ≤ 147) → ¬ (q = 130 ∧ i = 4) → ¬ (q = 137 ∧ (i = 3 ∨ i = 7 ∨ i = 12 ∨ i = 13 ∨ i = 14 ∨ i = 27 ∨ i = 28 ∨ i = 30)) → mup M2 137 30 (rd M2 137 30 - 1) q i = M q i := fun q i a b c d => by rw [mup_n _ (by omega), f2 q i b (by omega), fr q i a c]
    have e0 : vw (mup M2 137 30 (rd M2 137 30 - 1)) 0 = vw M (ea M c) := by
      rw [← v2]
      exact vwW_congr (by decide) (fun q i _ _ => by rw [mup_n _ (by omega), f2 q i (by omega) (by omega)])
    obtain ⟨s1, s2, s3, s4, s5, s6, s7, s8, s9⟩ := s
    refine ⟨?_, by rw [e0]; exact hc.2, SkyOk_keep s3 (fun q i _ _ => fm q i (by omega) (by omega) (by omega) (by omega)), early_keep s4 (fun i => fm _ _ (by omega) (by omega) (by omega) (by omega)), ⟨c, fb, by omega, hf8, ?_, ?_, ?_, ?_⟩, img_keep s6 (fun q i g => fm q i (by omega) (by omega) (by omega) (by omega)), let_keep s7 (fun q i g => fm q i (by omega) (by omega) (by omega) (by omega)), row_keep s8 (fun q i g => fm q i (by omega) (by omega) (by omega) (by omega)), ?_⟩
    · rw [vw_30, v3, kk, e0]; exact hc.1.symm
    · rw [rd_upne _ _ _ _ _ _ (by omega), rd_of (f2 _ _ (by omega) (by omega))]; exact e41
    · rw [rd_ups _ _ _ (by omega)]; omega
    · rw [rd_of (fm _ _ (by omega) (by omega) (by omega) (by omega))]; exact h29
    · intro j hj
      have wj := ea_W s4 (j := j) (by omega)
      have ej : ea (mup M2 137 30 (rd M2 137 30 - 1)) j = ea M j := by unfold ea; rw [rd_of (fm _ _ (by omega) (by omega) (by omega) (by omega))]
      rw [ej, vwE_congr (M := M) (by omega) (fun q i _ _ => fm q i (by omega) (by omega) (by omega) (by omega)), kv_congr (M := M) (fun x _ _ => fm _ _ (by omega) (by omega) (by omega) (by omega))]
      exact hold j (by omega)
    · intro i
      rw [fm _ _ (by omega) (by omega) (by omega) (by omega), fm _ _ (by omega) (by omega) (by omega) (by omega)]
      exact s9 i
theorem q_image {n : Nat} {M : Mem} (hn : 2000 ≤ n) (s : Sim M) : Agr (m_X5_image n M) (fun M1 => m_X6_image n M1) := by
  have hk : vw M 137 0 20 = -1 := by rw [s.1]; rfl
  have hy : vw M 137 0 21 = 0 := by rw [s.1]; rfl
  have k0 := w_ket M (w := 0) (by decide) (by decide)
  obtain ⟨wf0, vv0, rf0⟩ := sim_rf s (M1 := M) (fun _ _ _ => rfl)
  unfold Agr m_X5_image
  refine Ok_bd (e_bec (w := 11) (w' := 0) (by decide) (by decide) (by decide) (by decide) k0.1 k0.2) ?_
  rintro _ M1 ⟨v1, f1⟩
  refine Ok_wr (Ok_ret ⟨rd_rng _ _ _, ?_⟩)
  have fr : ∀ q i, (q < 11 ∨ 21 < q) → ¬ (q = 130 ∧ i = 2) → mup M1 130 2 1 q i = M q i := fun q i h h2 => by rw [mup_n _ h2, f1 q i (by omega)]
  unfold m_X6_image
  refine Ok_wr ?_
  have ev : vw (mup (mup M1 130 2 1) 137 26 1) 137 = vw M 137 := vw_congr (fun i _ => by rw [mup_n _ (by omega), fr _ _ (by omega) (by omega)]) (fun a i _ _ => by rw [mup_n _ (by omega), fr _ _ (by omega) (by omega)]) (fun z => absurd z (by decide)) (fun _ => ⟨by rw [mup_n _ (by omega), fr _ _ (by omega) (by omega)], by rw [mup_n _ (by omega), fr _ _ (by omega) (by omega)]⟩)
  refine Ok_bd (r_keepv (s := 0) hn (by decide) (by rw [ev]; exact hk) (by rw [ev]; exact hy)) ?_
  rintro _ M2 ⟨k2, f2⟩
  have fm : ∀ q i, (q < 11 ∨ 21 < q) → ¬ (q = 130 ∧ i = 2) → ¬ (q = 155 ∧ i < 67) → ¬ (q = 137 ∧ (i = 26 ∨ i = 27 ∨ i = 28)) → M2 q i = M q i := fun q i a b c d => by rw [f2 q i (by omega) (by omega), mup_n _ (by omega), fr q i a b]
  refine Ok_ret ⟨?_, ?_⟩
  · rw [rd_of (fm _ _ (by omega) (by omega) (by omega) (by omega)), rd_of (fr _ _ (by omega) (by omega))]
    exact rf0.1.2.2.2.1
  have e137 : vw M2 137 = vw M 137 := vw_congr (fun i _ => fm _ _ (by omega) (by omega) (by omega) (by omega)) (fun a i _ _ => fm _ _ (by omega) (by omega) (by omega) (by omega)) (fun z => absurd z (by decide)) (fun _ => ⟨fm _ _ (by omega) (by omega) (by omega) (by omega), fm _ _ (by omega) (by omega) (by omega) (by omega)⟩)
  have e0 : vw M2 0 = vw M 0 := vwW_congr (by decide) (fun q i _ _ => fm q i (by omega) (by omega) (by omega) (by omega))
  have e11 : vw M2 11 = vw M 0 := by
    rw [← v1]
    exact vwW_congr (by decide) (fun q i _ _ => by rw [f2 q i (by omega) (by omega), mup_n _ (by omega), mup_n _ (by omega)])
  obtain ⟨s1, s2, s3, s4, s5, s6, s7, s8, s9⟩ := s
  refine ⟨by rw [e137, e0, s1], by rw [e0]; exact s2, SkyOk_keep s3 (fun q i _ _ => fm q i (by omega) (by omega) (by omega) (by omega)), early_keep s4 (fun i => fm _ _ (by omega) (by omega) (by omega) (by omega)), back_keep s4 s5 (fun q i g => fm q i (by omega) (by omega) (by omega) (by omega)), ?_, let_keep s7 (fun q i g => fm q i (by omega) (by omega) (by omega) (by omega)), row_keep s8 (fun q i g => fm q i (by omega) (by omega) (by omega) (by omega)), ?_⟩
  · refine ⟨?_, .inr ⟨?_, ?_, ?_⟩⟩
    · rw [rd_of (f2 137 26 (by omega) (by omega)), rd_ups _ _ _ (by decide), rd_of (f2 130 2 (by omega) (by omega)), rd_upne _ _ _ _ _ _ (by omega), rd_ups _ _ _ (by decide)]
    · rw [rd_of (f2 130 2 (by omega) (by omega)), rd_upne _ _ _ _ _ _ (by omega), rd_ups _ _ _ (by decide)]
    · rw [e11, k2, ev, s1]
    · rw [e11]; exact s2
  · intro i
    rw [fm _ _ (by omega) (by omega) (by omega) (by omega), fm _ _ (by omega) (by omega) (by omega) (by omega)]
    exact s9 i
theorem q_restore {n : Nat} {M : Mem} (hn : 2000 ≤ n) (s : Sim M) : Agr (m_X5_restore n M) (fun M1 => m_X6_restore n M1) := by
  have hk : vw M 137 0 20 = -1 := by rw [s.1]; rfl
  have hy : vw M 137 0 21 = 0 := by rw [s.1]; rfl
  have k0 := w_ket M (w := 11) (by decide) (by decide)
  obtain ⟨i1, i2⟩ := s.2.2.2.2.2.1
  unfold Agr m_X5_restore
  rcases i2 with i2 | ⟨i2, i3, i4⟩
  · repeat (first
        | with_reducible refine Ok_g (by first | assumption | omega) ?_
        | with_reducible refine Ok_lt ?_
        | with_reducible refine Ok_t (by first | assumption | omega) ?_
        | with_reducible refine Ok_f (by first | assumption | omega) ?_)
    refine Ok_be (e_refuse 3 (by omega) (by decide) (by decide)) (Ok_ret ⟨by decide, ?_⟩)
    show Ok (m_X6_restore n _) _
    unfold m_X6_restore
    rw [rd_of (bump_ne (q := 134) (a := 137) (by decide)), i1]
    repeat (first
        | with_reducible refine Ok_g (by first | assumption | omega) ?_
        | with_reducible refine Ok_lt ?_
        | with_reducible refine Ok_t (by first | assumption | omega) ?_
        | with_reducible refine Ok_f (by first | assumption | omega) ?_)
    exact Ok_be (r_no 3 (by omega) (by decide) (by decide)) (Ok_ret ⟨rfl, sim_bump s 3⟩)
  · repeat (first
        | with_reducible refine Ok_g (by first | assumption | omega) ?_
        | with_reducible refine Ok_lt ?_
        | with_reducible refine Ok_t (by first | assumption | omega) ?_
        | with_reducible refine Ok_f (by first | assumption | omega) ?_)
    refine Ok_bd (e_bec (w := 0) (w' := 11) (by decide) (by decide) (by decide) (by decide) k0.1 k0.2) ?_
    rintro _ M1 ⟨v1, f1⟩
    obtain ⟨d1, d2, d3, d4, d5⟩ := sim_b4 s v1 (fun q i h => f1 q i (by omega))
    refine Ok_wr (Ok_ret ⟨rd_rng _ _ _, ?_⟩)
    show Ok (m_X6_restore n _) _
    unfold m_X6_restore
    rw [rd_of (d5 137 26 (by decide)), i1]
    repeat (first
        | with_reducible refine Ok_g (by first | assumption | omega) ?_
        | with_reducible refine Ok_lt ?_
        | with_reducible refine Ok_t (by first | assumption | omega) ?_
        | with_reducible refine Ok_f (by first | assumption | omega) ?_)
    have ev : vw (mup M1 130 4 0) 137 = vw M 137 := vw_congr (fun i _ => d5 _ _ (by omega)) (fun a i _ _ => d5 _ _ (by omega)) (fun z => absurd z (by decide)) (fun _ => ⟨d5 _ _ (by omega), d5 _ _ (by omega)⟩)
    refine Ok_bd (r_giv (x := 0) hn (by decide) (by rw [ev]; exact hk) (by rw [ev]; exact hy)) ?_
    rintro _ M2 ⟨v2, f2⟩
    have e2 : vw M2 137 = vw M 11 := by rw [v2, kv_congr (M := M) (fun x _ _ => d5 _ _ (by omega)), i3]
    refine Ok_wr (Ok_ret ⟨?_, ?_⟩)
    · rw [rd_upne _ _ _ _ _ _ (by omega), ← vw_s (w := 137) (by omega), e2, ← d3, vw_s (by omega)]
    · exact sim_new s i4 d1 d2 d3 d4 (rd_ups _ _ _ (by decide)) (by rw [vw_30, e2]) (fun q i h => by rw [mup_n _ (by omega), f2 q i (by omega) (by omega)])
theorem sim_out {M Mr : Mem} (s : Sim M) (fm : ∀ q i, ¬ (q = 130 ∧ (i = 6 ∨ i = 8)) → ¬ (q = 137 ∧ (i = 22 ∨ i = 31)) → q ≠ 132 → q ≠ 133 → q ≠ 151 → q ≠ 156 → Mr q i = M q i) (l : LetOk Mr) (r : RowOk Mr) : Sim Mr := by
  obtain ⟨s1, s2, s3, s4, s5, s6, s7, s8, s9⟩ := s
  have e137 : vw Mr 137 = vw M 137 := vw_congr (fun i _ => fm _ _ (by omega) (by omega) (by omega) (by omega) (by omega) (by omega)) (fun a i _ _ => fm _ _ (by omega) (by omega) (by omega) (by omega) (by omega) (by omega)) (fun z => absurd z (by decide)) (fun _ => ⟨fm _ _ (by omega) (by omega) (by omega) (by omega) (by omega) (by omega), fm _ _ (by omega) (by omega) (by omega) (by omega) (by omega) (by omega)⟩)
  have e0 : vw Mr 0 = vw M 0 := vwW_congr (by decide) (fun q i _ _ => fm q i (by omega) (by omega) (by omega) (by omega) (by omega) (by omega))
  refine ⟨by rw [e137, e0, s1], by rw [e0]; exact s2, SkyOk_keep s3 (fun q i _ _ => fm q i (by omega) (by omega) (by omega) (by omega) (by omega) (by omega)), early_keep s4 (fun i => fm _ _ (by omega) (by omega) (by omega) (by omega) (by omega) (by omega)), ?_, img_keep s6 (fun q i g => fm q i (by omega) (by omega) (by omega) (by omega) (by omega) (by omega)), l, r, ?_⟩
  · obtain ⟨b, fb, h1, h2, h3, h4, h5, h6⟩ := s5
    refine ⟨b, fb, h1, h2, ?_, ?_, ?_, ?_⟩
    · rw [rd_of (fm _ _ (by omega) (by omega) (by omega) (by omega) (by omega) (by omega))]; exact h3
    · rw [rd_of (fm _ _ (by omega) (by omega) (by omega) (by omega) (by omega) (by omega))]; exact h4
    · rw [rd_of (fm _ _ (by omega) (by omega) (by omega) (by omega) (by omega) (by omega))]; exact h5
    · intro j hj
      have wj := ea_W s4 (j := j) (by omega)
      have ej : ea Mr j = ea M j := by unfold ea; rw [rd_of (fm _ _ (by omega) (by omega) (by omega) (by omega) (by omega) (by omega))]
      rw [ej, vwE_congr (M := M) (by omega) (fun q i _ _ => fm q i (by omega) (by omega) (by omega) (by omega) (by omega) (by omega)), kv_congr (M := M) (fun x _ _ => fm _ _ (by omega) (by omega) (by omega) (by omega) (by omega) (by omega))]
      exact h6 j hj
  · intro i
    rw [fm _ _ (by omega) (by omega) (by omega) (by omega) (by omega) (by omega), fm _ _ (by omega) (by omega) (by omega) (by omega) (by omega) (by omega)]
    exact s9 i
theorem q_feed {n : Nat} {M : Mem} {a : Int} (s : Sim M) (ha : I32 a) : Agr (m_X5_feed n M a) (fun M1 => m_X6_feed n M1 a) := by
  obtain ⟨l1, l2, l3, l4⟩ := s.2.2.2.2.2.2.1
  have bm : ∀ k i, rd (bump 134 M k) 137 i = rd M 137 i := fun k i => rd_of (bump_ne (by decide))
  unfold Agr m_X5_feed m_X5_feed_27
  by_cases h0 : a < 0
  · repeat (first
        | with_reducible refine Ok_g (by first | assumption | omega) ?_
        | with_reducible refine Ok_lt ?_
        | with_reducible refine Ok_t (by first | assumption | omega) ?_
        | with_reducible refine Ok_f (by first | assumption | omega) ?_
        | with_reducible refine Ok_be (e_hasF (by decide) (by assumption)) ?_
        | with_reducible refine Ok_be (e_hasT (by decide) (by assumption)) ?_
        | with_reducible refine Ok_be (e_hasP (by decide) (by assumption)) ?_
        | with_reducible refine Ok_be (e_isCell (by first | assumption | omega)) ?_
        | with_reducible refine Ok_be (e_oor (by assumption) (by decide) (by decide)) ?_
        | with_reducible refine Ok_be (r_isIn (by first | assumption | omega) (by first | decide | omega) (by first | decide | omega)) ?_
        | with_reducible refine Ok_be (r_bound (by assumption) (by decide) (by decide)) ?_
        | with_reducible refine Ok_be (r_isF (by assumption) (by assumption)) ?_
        | with_reducible refine Ok_be (r_isT (by assumption) (by assumption)) ?_
        | with_reducible refine Ok_be (r_isP (by assumption) (by assumption)) ?_
        | with_reducible refine Ok_be (r_isCell (by first | assumption | omega)) ?_)
    refine Ok_be (e_refuse 4 (by omega) (by decide) (by decide)) (Ok_ret ⟨by decide, ?_⟩)
    obtain ⟨wf1, rf1, rf2⟩ := sim_rf s (M1 := bump 134 M 4) (fun q i h => bump_ne (by omega))
    unfold m_X6_feed m_X6_feed_25
    repeat (first
        | with_reducible refine Ok_g (by first | assumption | omega) ?_
        | with_reducible refine Ok_lt ?_
        | with_reducible refine Ok_t (by first | assumption | omega) ?_
        | with_reducible refine Ok_f (by first | assumption | omega) ?_
        | with_reducible refine Ok_be (e_hasF (by decide) (by assumption)) ?_
        | with_reducible refine Ok_be (e_hasT (by decide) (by assumption)) ?_
        | with_reducible refine Ok_be (e_hasP (by decide) (by assumption)) ?_
        | with_reducible refine Ok_be (e_isCell (by first | assumption | omega)) ?_
        | with_reducible refine Ok_be (e_oor (by assumption) (by decide) (by decide)) ?_
        | with_reducible refine Ok_be (r_isIn (by first | assumption | omega) (by first | decide | omega) (by first | decide | omega)) ?_
        | with_reducible refine Ok_be (r_bound (by assumption) (by decide) (by decide)) ?_
        | with_reducible refine Ok_be (r_isF (by assumption) (by assumption)) ?_
        | with_reducible refine Ok_be (r_isT (by assumption) (by assumption)) ?_
        | with_reducible refine Ok_be (r_isP (by assumption) (by assumption)) ?_
        | with_reducible refine Ok_be (r_isCell (by first | assumption | omega)) ?_)
    exact Ok_be (r_no 4 (by omega) (by decide) (by decide)) (Ok_ret ⟨rfl, sim_bump s 4⟩)
  by_cases h255 : 255 < a
  · repeat (first
        | with_reducible refine Ok_g (by first | assumption | omega) ?_
        | with_reducible refine Ok_lt ?_
        | with_reducible refine Ok_t (by first | assumption | omega) ?_
        | with_reducible refine Ok_f (by first | assumption | omega) ?_
        | with_reducible refine Ok_be (e_hasF (by decide) (by assumption)) ?_
        | with_reducible refine Ok_be (e_hasT (by decide) (by assumption)) ?_
        | with_reducible refine Ok_be (e_hasP (by decide) (by assumption)) ?_
        | with_reducible refine Ok_be (e_isCell (by first | assumption | omega)) ?_
        | with_reducible refine Ok_be (e_oor (by assumption) (by decide) (by decide)) ?_
        | with_reducible refine Ok_be (r_isIn (by first | assumption | omega) (by first | decide | omega) (by first | decide | omega)) ?_
        | with_reducible refine Ok_be (r_bound (by assumption) (by decide) (by decide)) ?_
        | with_reducible refine Ok_be (r_isF (by assumption) (by assumption)) ?_
        | with_reducible refine Ok_be (r_isT (by assumption) (by assumption)) ?_
        | with_reducible refine Ok_be (r_isP (by assumption) (by assumption)) ?_
        | with_reducible refine Ok_be (r_isCell (by first | assumption | omega)) ?_)
    refine Ok_be (e_refuse 6 (by omega) (by decide) (by decide)) (Ok_ret ⟨by decide, ?_⟩)
    obtain ⟨wf1, rf1, rf2⟩ := sim_rf s (M1 := bump 134 M 6) (fun q i h => bump_ne (by omega))
    unfold m_X6_feed m_X6_feed_25
    repeat (first
        | with_reducible refine Ok_g (by first | assumption | omega) ?_
        | with_reducible refine Ok_lt ?_
        | with_reducible refine Ok_t (by first | assumption | omega) ?_
        | with_reducible refine Ok_f (by first | assumption | omega) ?_
        | with_reducible refine Ok_be (e_hasF (by decide) (by assumption)) ?_
        | with_reducible refine Ok_be (e_hasT (by decide) (by assumption)) ?_
        | with_reducible refine Ok_be (e_hasP (by decide) (by assumption)) ?_
        | with_reducible refine Ok_be (e_isCell (by first | assumption | omega)) ?_
        | with_reducible refine Ok_be (e_oor (by assumption) (by decide) (by decide)) ?_
        | with_reducible refine Ok_be (r_isIn (by first | assumption | omega) (by first | decide | omega) (by first | decide | omega)) ?_
        | with_reducible refine Ok_be (r_bound (by assumption) (by decide) (by decide)) ?_
        | with_reducible refine Ok_be (r_isF (by assumption) (by assumption)) ?_
        | with_reducible refine Ok_be (r_isT (by assumption) (by assumption)) ?_
        | with_reducible refine Ok_be (r_isP (by assumption) (by assumption)) ?_
        | with_reducible refine Ok_be (r_isCell (by first | assumption | omega)) ?_)
    exact Ok_be (r_no 6 (by omega) (by decide) (by decide)) (Ok_ret ⟨rfl, sim_bump s 6⟩)
  by_cases h96 : 96 ≤ rd M 130 6
  · repeat (first
        | with_reducible refine Ok_g (by first | assumption | omega) ?_
        | with_reducible refine Ok_lt ?_
        | with_reducible refine Ok_t (by first | assumption | omega) ?_
        | with_reducible refine Ok_f (by first | assumption | omega) ?_
        | with_reducible refine Ok_be (e_hasF (by decide) (by assumption)) ?_
        | with_reducible refine Ok_be (e_hasT (by decide) (by assumption)) ?_
        | with_reducible refine Ok_be (e_hasP (by decide) (by assumption)) ?_
        | with_reducible refine Ok_be (e_isCell (by first | assumption | omega)) ?_
        | with_reducible refine Ok_be (e_oor (by assumption) (by decide) (by decide)) ?_
        | with_reducible refine Ok_be (r_isIn (by first | assumption | omega) (by first | decide | omega) (by first | decide | omega)) ?_
        | with_reducible refine Ok_be (r_bound (by assumption) (by decide) (by decide)) ?_
        | with_reducible refine Ok_be (r_isF (by assumption) (by assumption)) ?_
        | with_reducible refine Ok_be (r_isT (by assumption) (by assumption)) ?_
        | with_reducible refine Ok_be (r_isP (by assumption) (by assumption)) ?_
        | with_reducible refine Ok_be (r_isCell (by first | assumption | omega)) ?_)
    refine Ok_be (e_refuse 6 (by omega) (by decide) (by decide)) (Ok_ret ⟨by decide, ?_⟩)
    unfold m_X6_feed m_X6_feed_25
    repeat (first
        | with_reducible refine Ok_g (by first | assumption | omega) ?_
        | with_reducible refine Ok_lt ?_
        | with_reducible refine Ok_t (by first | assumption | omega) ?_
        | with_reducible refine Ok_f (by first | assumption | omega) ?_
        | with_reducible refine Ok_be (e_hasF (by decide) (by assumption)) ?_
        | with_reducible refine Ok_be (e_hasT (by decide) (by assumption)) ?_
        | with_reducible refine Ok_be (e_hasP (by decide) (by assumption)) ?_
        | with_reducible refine Ok_be (e_isCell (by first | assumption | omega)) ?_
        | with_reducible refine Ok_be (e_oor (by assumption) (by decide) (by decide)) ?_
        | with_reducible refine Ok_be (r_isIn (by first | assumption | omega) (by first | decide | omega) (by first | decide | omega)) ?_
        | with_reducible refine Ok_be (r_bound (by assumption) (by decide) (by decide)) ?_
        | with_reducible refine Ok_be (r_isF (by assumption) (by assumption)) ?_
        | with_reducible refine Ok_be (r_isT (by assumption) (by assumption)) ?_
        | with_reducible refine Ok_be (r_isP (by assumption) (by assumption)) ?_
        | with_reducible refine Ok_be (r_isCell (by first | assumption | omega)) ?_)
    rw [bm]
    repeat (first
        | with_reducible refine Ok_g (by first | assumption | omega) ?_
        | with_reducible refine Ok_lt ?_
        | with_reducible refine Ok_t (by first | assumption | omega) ?_
        | with_reducible refine Ok_f (by first | assumption | omega) ?_
        | with_reducible refine Ok_be (e_hasF (by decide) (by assumption)) ?_
        | with_reducible refine Ok_be (e_hasT (by decide) (by assumption)) ?_
        | with_reducible refine Ok_be (e_hasP (by decide) (by assumption)) ?_
        | with_reducible refine Ok_be (e_isCell (by first | assumption | omega)) ?_
        | with_reducible refine Ok_be (e_oor (by assumption) (by decide) (by decide)) ?_
        | with_reducible refine Ok_be (r_isIn (by first | assumption | omega) (by first | decide | omega) (by first | decide | omega)) ?_
        | with_reducible refine Ok_be (r_bound (by assumption) (by decide) (by decide)) ?_
        | with_reducible refine Ok_be (r_isF (by assumption) (by assumption)) ?_
        | with_reducible refine Ok_be (r_isT (by assumption) (by assumption)) ?_
        | with_reducible refine Ok_be (r_isP (by assumption) (by assumption)) ?_
        | with_reducible refine Ok_be (r_isCell (by first | assumption | omega)) ?_)
    exact Ok_be (r_no 6 (by omega) (by decide) (by decide)) (Ok_ret ⟨rfl, sim_bump s 6⟩)
  repeat (first
      | with_reducible refine Ok_g (by first | assumption | omega) ?_
      | with_reducible refine Ok_lt ?_
      | with_reducible refine Ok_wr ?_
      | with_reducible refine Ok_t (by first | assumption | omega) ?_
      | with_reducible refine Ok_f (by first | assumption | omega) ?_)
  have e6 : rd (mup M 132 (rd M 130 6).toNat a) 130 6 = rd M 130 6 := rd_upne _ _ _ _ _ _ (by omega)
  rw [e6, rd_ups _ _ _ (by omega)]
  refine Ok_ret ⟨by omega, ?_⟩
  have e22 : rd (mup (mup M 132 (rd M 130 6).toNat a) 130 6 (rd M 130 6 + 1)) 137 22 = rd M 130 6 := by
    rw [rd_upne _ _ _ _ _ _ (by omega), rd_upne _ _ _ _ _ _ (by omega), l1]
  unfold m_X6_feed m_X6_feed_25
  repeat (first
      | with_reducible refine Ok_g (by first | assumption | omega) ?_
      | with_reducible refine Ok_lt ?_
      | with_reducible refine Ok_t (by first | assumption | omega) ?_
      | with_reducible refine Ok_f (by first | assumption | omega) ?_
      | with_reducible refine Ok_be (e_hasF (by decide) (by assumption)) ?_
      | with_reducible refine Ok_be (e_hasT (by decide) (by assumption)) ?_
      | with_reducible refine Ok_be (e_hasP (by decide) (by assumption)) ?_
      | with_reducible refine Ok_be (e_isCell (by first | assumption | omega)) ?_
      | with_reducible refine Ok_be (e_oor (by assumption) (by decide) (by decide)) ?_
      | with_reducible refine Ok_be (r_isIn (by first | assumption | omega) (by first | decide | omega) (by first | decide | omega)) ?_
      | with_reducible refine Ok_be (r_bound (by assumption) (by decide) (by decide)) ?_
      | with_reducible refine Ok_be (r_isF (by assumption) (by assumption)) ?_
      | with_reducible refine Ok_be (r_isT (by assumption) (by assumption)) ?_
      | with_reducible refine Ok_be (r_isP (by assumption) (by assumption)) ?_
      | with_reducible refine Ok_be (r_isCell (by first | assumption | omega)) ?_)
  rw [e22]
  repeat (first
      | with_reducible refine Ok_g (by first | assumption | omega) ?_
      | with_reducible refine Ok_lt ?_
      | with_reducible refine Ok_wr ?_
      | with_reducible refine Ok_t (by first | assumption | omega) ?_
      | with_reducible refine Ok_f (by first | assumption | omega) ?_)
  have e23 : rd (mup (mup (mup M 132 (rd M 130 6).toNat a) 130 6 (rd M 130 6 + 1)) 151 (rd M 130 6).toNat a) 137 22 = rd M 130 6 := by rw [rd_upne _ _ _ _ _ _ (by omega), e22]
  rw [e23, rd_ups _ _ _ (by omega)]
  refine Ok_ret ⟨rfl, ?_⟩
  refine sim_out s (fun q i h1 h2 h3 h4 h5 h6 => by rw [mup_n _ (by omega), mup_n _ (by omega), mup_n _ (by omega), mup_n _ (by omega)]) ?_ ?_
  · refine ⟨?_, ?_, ?_, ?_⟩
    · rw [rd_ups _ _ _ (by omega), rd_upne _ _ _ 130 6 _ (by omega), rd_upne _ _ _ 130 6 _ (by omega), rd_ups _ _ _ (by omega)]
    · rw [rd_upne _ _ _ 130 6 _ (by omega), rd_upne _ _ _ 130 6 _ (by omega), rd_ups _ _ _ (by omega)]; omega
    · rw [rd_upne _ _ _ 130 6 _ (by omega), rd_upne _ _ _ 130 6 _ (by omega), rd_ups _ _ _ (by omega)]; omega
    · intro i hi
      rw [rd_upne _ _ _ 130 6 _ (by omega), rd_upne _ _ _ 130 6 _ (by omega), rd_ups _ _ _ (by omega)] at hi
      rw [rd_upne _ _ _ 151 _ _ (by omega), rd_up _ _ _ 151 _ (by omega), rd_upne _ _ _ 132 _ _ (by omega), rd_upne _ _ _ 132 _ _ (by omega), rd_upne _ _ _ 132 _ _ (by omega), rd_up _ _ _ 132 _ (by omega)]
      by_cases c : i = (rd M 130 6).toNat
      · rw [if_pos ⟨rfl, c⟩, if_pos ⟨rfl, c⟩]
        omega
      · rw [if_neg (by omega), if_neg (by omega), rd_upne _ _ _ 151 _ _ (by omega), rd_upne _ _ _ 151 _ _ (by omega)]
        exact l4 i (by omega)
  · exact row_keep s.2.2.2.2.2.2.2.1 (fun q i g => by rw [mup_n _ (by omega), mup_n _ (by omega), mup_n _ (by omega), mup_n _ (by omega)])
theorem q_row {n : Nat} {M : Mem} {a : Int} (s : Sim M) (ha : I32 a) : Agr (m_X5_row n M a) (fun M1 => m_X6_row n M1 a) := by
  obtain ⟨l1, l2, l3, l4⟩ := s.2.2.2.2.2.2.2.1
  have bm : ∀ k i, rd (bump 134 M k) 137 i = rd M 137 i := fun k i => rd_of (bump_ne (by decide))
  unfold Agr m_X5_row
  by_cases h0 : a < 0
  · repeat (first
        | with_reducible refine Ok_g (by first | assumption | omega) ?_
        | with_reducible refine Ok_lt ?_
        | with_reducible refine Ok_t (by first | assumption | omega) ?_
        | with_reducible refine Ok_f (by first | assumption | omega) ?_
        | with_reducible refine Ok_be (e_hasF (by decide) (by assumption)) ?_
        | with_reducible refine Ok_be (e_hasT (by decide) (by assumption)) ?_
        | with_reducible refine Ok_be (e_hasP (by decide) (by assumption)) ?_
        | with_reducible refine Ok_be (e_isCell (by first | assumption | omega)) ?_
        | with_reducible refine Ok_be (e_oor (by assumption) (by decide) (by decide)) ?_
        | with_reducible refine Ok_be (r_isIn (by first | assumption | omega) (by first | decide | omega) (by first | decide | omega)) ?_
        | with_reducible refine Ok_be (r_bound (by assumption) (by decide) (by decide)) ?_
        | with_reducible refine Ok_be (r_isF (by assumption) (by assumption)) ?_
        | with_reducible refine Ok_be (r_isT (by assumption) (by assumption)) ?_
        | with_reducible refine Ok_be (r_isP (by assumption) (by assumption)) ?_
        | with_reducible refine Ok_be (r_isCell (by first | assumption | omega)) ?_)
    refine Ok_be (e_refuse 4 (by omega) (by decide) (by decide)) (Ok_ret ⟨by decide, ?_⟩)
    obtain ⟨wf1, rf1, rf2⟩ := sim_rf s (M1 := bump 134 M 4) (fun q i h => bump_ne (by omega))
    unfold m_X6_row m_X6_row_24
    repeat (first
        | with_reducible refine Ok_g (by first | assumption | omega) ?_
        | with_reducible refine Ok_lt ?_
        | with_reducible refine Ok_t (by first | assumption | omega) ?_
        | with_reducible refine Ok_f (by first | assumption | omega) ?_
        | with_reducible refine Ok_be (e_hasF (by decide) (by assumption)) ?_
        | with_reducible refine Ok_be (e_hasT (by decide) (by assumption)) ?_
        | with_reducible refine Ok_be (e_hasP (by decide) (by assumption)) ?_
        | with_reducible refine Ok_be (e_isCell (by first | assumption | omega)) ?_
        | with_reducible refine Ok_be (e_oor (by assumption) (by decide) (by decide)) ?_
        | with_reducible refine Ok_be (r_isIn (by first | assumption | omega) (by first | decide | omega) (by first | decide | omega)) ?_
        | with_reducible refine Ok_be (r_bound (by assumption) (by decide) (by decide)) ?_
        | with_reducible refine Ok_be (r_isF (by assumption) (by assumption)) ?_
        | with_reducible refine Ok_be (r_isT (by assumption) (by assumption)) ?_
        | with_reducible refine Ok_be (r_isP (by assumption) (by assumption)) ?_
        | with_reducible refine Ok_be (r_isCell (by first | assumption | omega)) ?_)
    exact Ok_be (r_no 4 (by omega) (by decide) (by decide)) (Ok_ret ⟨rfl, sim_bump s 4⟩)
  by_cases h255 : 99 < a
  · repeat (first
        | with_reducible refine Ok_g (by first | assumption | omega) ?_
        | with_reducible refine Ok_lt ?_
        | with_reducible refine Ok_t (by first | assumption | omega) ?_
        | with_reducible refine Ok_f (by first | assumption | omega) ?_
        | with_reducible refine Ok_be (e_hasF (by decide) (by assumption)) ?_
        | with_reducible refine Ok_be (e_hasT (by decide) (by assumption)) ?_
        | with_reducible refine Ok_be (e_hasP (by decide) (by assumption)) ?_
        | with_reducible refine Ok_be (e_isCell (by first | assumption | omega)) ?_
        | with_reducible refine Ok_be (e_oor (by assumption) (by decide) (by decide)) ?_
        | with_reducible refine Ok_be (r_isIn (by first | assumption | omega) (by first | decide | omega) (by first | decide | omega)) ?_
        | with_reducible refine Ok_be (r_bound (by assumption) (by decide) (by decide)) ?_
        | with_reducible refine Ok_be (r_isF (by assumption) (by assumption)) ?_
        | with_reducible refine Ok_be (r_isT (by assumption) (by assumption)) ?_
        | with_reducible refine Ok_be (r_isP (by assumption) (by assumption)) ?_
        | with_reducible refine Ok_be (r_isCell (by first | assumption | omega)) ?_)
    refine Ok_be (e_refuse 6 (by omega) (by decide) (by decide)) (Ok_ret ⟨by decide, ?_⟩)
    obtain ⟨wf1, rf1, rf2⟩ := sim_rf s (M1 := bump 134 M 6) (fun q i h => bump_ne (by omega))
    unfold m_X6_row m_X6_row_24
    repeat (first
        | with_reducible refine Ok_g (by first | assumption | omega) ?_
        | with_reducible refine Ok_lt ?_
        | with_reducible refine Ok_t (by first | assumption | omega) ?_
        | with_reducible refine Ok_f (by first | assumption | omega) ?_
        | with_reducible refine Ok_be (e_hasF (by decide) (by assumption)) ?_
        | with_reducible refine Ok_be (e_hasT (by decide) (by assumption)) ?_
        | with_reducible refine Ok_be (e_hasP (by decide) (by assumption)) ?_
        | with_reducible refine Ok_be (e_isCell (by first | assumption | omega)) ?_
        | with_reducible refine Ok_be (e_oor (by assumption) (by decide) (by decide)) ?_
        | with_reducible refine Ok_be (r_isIn (by first | assumption | omega) (by first | decide | omega) (by first | decide | omega)) ?_
        | with_reducible refine Ok_be (r_bound (by assumption) (by decide) (by decide)) ?_
        | with_reducible refine Ok_be (r_isF (by assumption) (by assumption)) ?_
        | with_reducible refine Ok_be (r_isT (by assumption) (by assumption)) ?_
        | with_reducible refine Ok_be (r_isP (by assumption) (by assumption)) ?_
        | with_reducible refine Ok_be (r_isCell (by first | assumption | omega)) ?_)
    exact Ok_be (r_no 6 (by omega) (by decide) (by decide)) (Ok_ret ⟨rfl, sim_bump s 6⟩)
  by_cases h96 : 12 ≤ rd M 130 8
  · repeat (first
        | with_reducible refine Ok_g (by first | assumption | omega) ?_
        | with_reducible refine Ok_lt ?_
        | with_reducible refine Ok_t (by first | assumption | omega) ?_
        | with_reducible refine Ok_f (by first | assumption | omega) ?_
        | with_reducible refine Ok_be (e_hasF (by decide) (by assumption)) ?_
        | with_reducible refine Ok_be (e_hasT (by decide) (by assumption)) ?_
        | with_reducible refine Ok_be (e_hasP (by decide) (by assumption)) ?_
        | with_reducible refine Ok_be (e_isCell (by first | assumption | omega)) ?_
        | with_reducible refine Ok_be (e_oor (by assumption) (by decide) (by decide)) ?_
        | with_reducible refine Ok_be (r_isIn (by first | assumption | omega) (by first | decide | omega) (by first | decide | omega)) ?_
        | with_reducible refine Ok_be (r_bound (by assumption) (by decide) (by decide)) ?_
        | with_reducible refine Ok_be (r_isF (by assumption) (by assumption)) ?_
        | with_reducible refine Ok_be (r_isT (by assumption) (by assumption)) ?_
        | with_reducible refine Ok_be (r_isP (by assumption) (by assumption)) ?_
        | with_reducible refine Ok_be (r_isCell (by first | assumption | omega)) ?_)
    refine Ok_be (e_refuse 6 (by omega) (by decide) (by decide)) (Ok_ret ⟨by decide, ?_⟩)
    unfold m_X6_row m_X6_row_24
    repeat (first
        | with_reducible refine Ok_g (by first | assumption | omega) ?_
        | with_reducible refine Ok_lt ?_
        | with_reducible refine Ok_t (by first | assumption | omega) ?_
        | with_reducible refine Ok_f (by first | assumption | omega) ?_
        | with_reducible refine Ok_be (e_hasF (by decide) (by assumption)) ?_
        | with_reducible refine Ok_be (e_hasT (by decide) (by assumption)) ?_
        | with_reducible refine Ok_be (e_hasP (by decide) (by assumption)) ?_
        | with_reducible refine Ok_be (e_isCell (by first | assumption | omega)) ?_
        | with_reducible refine Ok_be (e_oor (by assumption) (by decide) (by decide)) ?_
        | with_reducible refine Ok_be (r_isIn (by first | assumption | omega) (by first | decide | omega) (by first | decide | omega)) ?_
        | with_reducible refine Ok_be (r_bound (by assumption) (by decide) (by decide)) ?_
        | with_reducible refine Ok_be (r_isF (by assumption) (by assumption)) ?_
        | with_reducible refine Ok_be (r_isT (by assumption) (by assumption)) ?_
        | with_reducible refine Ok_be (r_isP (by assumption) (by assumption)) ?_
        | with_reducible refine Ok_be (r_isCell (by first | assumption | omega)) ?_)
    rw [bm]
    repeat (first
        | with_reducible refine Ok_g (by first | assumption | omega) ?_
        | with_reducible refine Ok_lt ?_
        | with_reducible refine Ok_t (by first | assumption | omega) ?_
        | with_reducible refine Ok_f (by first | assumption | omega) ?_
        | with_reducible refine Ok_be (e_hasF (by decide) (by assumption)) ?_
        | with_reducible refine Ok_be (e_hasT (by decide) (by assumption)) ?_
        | with_reducible refine Ok_be (e_hasP (by decide) (by assumption)) ?_
        | with_reducible refine Ok_be (e_isCell (by first | assumption | omega)) ?_
        | with_reducible refine Ok_be (e_oor (by assumption) (by decide) (by decide)) ?_
        | with_reducible refine Ok_be (r_isIn (by first | assumption | omega) (by first | decide | omega) (by first | decide | omega)) ?_
        | with_reducible refine Ok_be (r_bound (by assumption) (by decide) (by decide)) ?_
        | with_reducible refine Ok_be (r_isF (by assumption) (by assumption)) ?_
        | with_reducible refine Ok_be (r_isT (by assumption) (by assumption)) ?_
        | with_reducible refine Ok_be (r_isP (by assumption) (by assumption)) ?_
        | with_reducible refine Ok_be (r_isCell (by first | assumption | omega)) ?_)
    exact Ok_be (r_no 6 (by omega) (by decide) (by decide)) (Ok_ret ⟨rfl, sim_bump s 6⟩)
  repeat (first
      | with_reducible refine Ok_g (by first | assumption | omega) ?_
      | with_reducible refine Ok_lt ?_
      | with_reducible refine Ok_t (by first | assumption | omega) ?_
      | with_reducible refine Ok_f (by first | assumption | omega) ?_
      | with_reducible refine Ok_be (e_hasF (by decide) (by assumption)) ?_
      | with_reducible refine Ok_be (e_hasT (by decide) (by assumption)) ?_
      | with_reducible refine Ok_be (e_hasP (by decide) (by assumption)) ?_
      | with_reducible refine Ok_be (e_isCell (by first | assumption | omega)) ?_
      | with_reducible refine Ok_be (e_oor (by assumption) (by decide) (by decide)) ?_
      | with_reducible refine Ok_be (r_isIn (by first | assumption | omega) (by first | decide | omega) (by first | decide | omega)) ?_
      | with_reducible refine Ok_be (r_bound (by assumption) (by decide) (by decide)) ?_
      | with_reducible refine Ok_be (r_isF (by assumption) (by assumption)) ?_
      | with_reducible refine Ok_be (r_isT (by assumption) (by assumption)) ?_
      | with_reducible refine Ok_be (r_isP (by assumption) (by assumption)) ?_
      | with_reducible refine Ok_be (r_isCell (by first | assumption | omega)) ?_)
  refine Ok_wr (Ok_wr ?_)
  have e6 : rd (mup M 133 (rd M 130 8).toNat a) 130 8 = rd M 130 8 := rd_upne _ _ _ _ _ _ (by omega)
  rw [e6, rd_ups _ _ _ (by omega)]
  refine Ok_ret ⟨by omega, ?_⟩
  have e22 : rd (mup (mup M 133 (rd M 130 8).toNat a) 130 8 (rd M 130 8 + 1)) 137 31 = rd M 130 8 := by
    rw [rd_upne _ _ _ _ _ _ (by omega), rd_upne _ _ _ _ _ _ (by omega), l1]
  unfold m_X6_row m_X6_row_24
  repeat (first
      | with_reducible refine Ok_g (by first | assumption | omega) ?_
      | with_reducible refine Ok_lt ?_
      | with_reducible refine Ok_t (by first | assumption | omega) ?_
      | with_reducible refine Ok_f (by first | assumption | omega) ?_
      | with_reducible refine Ok_be (e_hasF (by decide) (by assumption)) ?_
      | with_reducible refine Ok_be (e_hasT (by decide) (by assumption)) ?_
      | with_reducible refine Ok_be (e_hasP (by decide) (by assumption)) ?_
      | with_reducible refine Ok_be (e_isCell (by first | assumption | omega)) ?_
      | with_reducible refine Ok_be (e_oor (by assumption) (by decide) (by decide)) ?_
      | with_reducible refine Ok_be (r_isIn (by first | assumption | omega) (by first | decide | omega) (by first | decide | omega)) ?_
      | with_reducible refine Ok_be (r_bound (by assumption) (by decide) (by decide)) ?_
      | with_reducible refine Ok_be (r_isF (by assumption) (by assumption)) ?_
      | with_reducible refine Ok_be (r_isT (by assumption) (by assumption)) ?_
      | with_reducible refine Ok_be (r_isP (by assumption) (by assumption)) ?_
      | with_reducible refine Ok_be (r_isCell (by first | assumption | omega)) ?_)
  rw [e22]
  repeat (first
      | with_reducible refine Ok_g (by first | assumption | omega) ?_
      | with_reducible refine Ok_lt ?_
      | with_reducible refine Ok_wr ?_
      | with_reducible refine Ok_t (by first | assumption | omega) ?_
      | with_reducible refine Ok_f (by first | assumption | omega) ?_)
  have e23 : rd (mup (mup (mup M 133 (rd M 130 8).toNat a) 130 8 (rd M 130 8 + 1)) 156 (rd M 130 8).toNat a) 137 31 = rd M 130 8 := by rw [rd_upne _ _ _ _ _ _ (by omega), e22]
  rw [e23, rd_ups _ _ _ (by omega)]
  refine Ok_ret ⟨rfl, ?_⟩
  refine sim_out s (fun q i h1 h2 h3 h4 h5 h6 => by rw [mup_n _ (by omega), mup_n _ (by omega), mup_n _ (by omega), mup_n _ (by omega)]) ?_ ?_
  · exact let_keep s.2.2.2.2.2.2.1 (fun q i g => by rw [mup_n _ (by omega), mup_n _ (by omega), mup_n _ (by omega), mup_n _ (by omega)])
  · refine ⟨?_, ?_, ?_, ?_⟩
    · rw [rd_ups _ _ _ (by omega), rd_upne _ _ _ 130 8 _ (by omega), rd_upne _ _ _ 130 8 _ (by omega), rd_ups _ _ _ (by omega)]
    · rw [rd_upne _ _ _ 130 8 _ (by omega), rd_upne _ _ _ 130 8 _ (by omega), rd_ups _ _ _ (by omega)]; omega
    · rw [rd_upne _ _ _ 130 8 _ (by omega), rd_upne _ _ _ 130 8 _ (by omega), rd_ups _ _ _ (by omega)]; omega
    · intro i hi
      rw [rd_upne _ _ _ 130 8 _ (by omega), rd_upne _ _ _ 130 8 _ (by omega), rd_ups _ _ _ (by omega)] at hi
      rw [rd_upne _ _ _ 156 _ _ (by omega), rd_up _ _ _ 156 _ (by omega), rd_upne _ _ _ 133 _ _ (by omega), rd_upne _ _ _ 133 _ _ (by omega), rd_upne _ _ _ 133 _ _ (by omega), rd_up _ _ _ 133 _ (by omega)]
      by_cases c : i = (rd M 130 8).toNat
      · rw [if_pos ⟨rfl, c⟩, if_pos ⟨rfl, c⟩]
        omega
      · rw [if_neg (by omega), if_neg (by omega), rd_upne _ _ _ 156 _ _ (by omega), rd_upne _ _ _ 156 _ _ (by omega)]
        exact l4 i (by omega)
theorem sim_row0 {M M1 : Mem} (s : Sim M) (h : M1 = mup M 130 8 0) : Sim (mup M1 137 31 0) := by
  subst h
  refine sim_out s (fun q i h1 h2 h3 h4 h5 h6 => by rw [mup_n _ (by omega), mup_n _ (by omega)]) (let_keep s.2.2.2.2.2.2.1 (fun q i g => by rw [mup_n _ (by omega), mup_n _ (by omega)])) ⟨?_, ?_, ?_, ?_⟩
  · rw [rd_ups _ _ _ (by decide), rd_upne _ _ _ _ _ _ (by omega), rd_ups _ _ _ (by decide)]
  · rw [rd_upne _ _ _ _ _ _ (by omega), rd_ups _ _ _ (by decide)]; decide
  · rw [rd_upne _ _ _ _ _ _ (by omega), rd_ups _ _ _ (by decide)]; decide
  · intro i hi
    rw [rd_upne _ _ _ _ _ _ (by omega), rd_ups _ _ _ (by decide)] at hi
    omega
theorem q_clear {n : Nat} {M : Mem} (s : Sim M) : Agr (m_X5_clear n M) (fun M1 => m_X6_clear n M1) := by
  have l1 := s.2.2.2.2.2.2.2.1.1
  unfold Agr m_X5_clear
  refine Ok_wr (Ok_ret ⟨rd_rng _ _ _, ?_⟩)
  unfold m_X6_clear
  refine Ok_wr (Ok_ret ⟨?_, sim_row0 s rfl⟩)
  rw [rd_upne _ _ _ 137 31 _ (by omega)]
  exact l1
/-- the first in the row that isn't so -/
def juS (own : Nat → Int) (T : Nat) (rw : Nat → Int) : Nat → Nat → Int
  | 0, _ => -9
  | k + 1, i => if i < T then (if rw i = own i then juS own T rw k (i + 1) else (i : Int)) else (i : Int)
theorem juS_b (own : Nat → Int) (T : Nat) (rw : Nat → Int) : ∀ k i, -9 ≤ juS own T rw k i ∧ juS own T rw k i ≤ i + k
  | 0, i => by
    show -9 ≤ (-9 : Int) ∧ (-9 : Int) ≤ _
    omega
  | k + 1, i => by
    have := juS_b own T rw k (i + 1)
    simp only [juS]
    split
    · split <;> omega
    · omega
theorem e_judge_12 {n T R : Nat} {own rw : Nat → Int} {M : Mem} (hR : R ≤ 12) (hT : rd M 0 7 = T) (hT8 : T ≤ 8) (ho : ∀ i, i < T → own i = (if rd M 6 i = -1 then 9 else rd M 6 i)) (hr : ∀ i, i < R → rd M 133 i = rw i) : ∀ k t (i : Nat), i + k = R → k < t →
    m_X5_judge_12 n t M (R : Int) (i : Int) = some (juS own T rw k i, M) := by
  intro k
  induction k with
  | zero =>
    intro t i hi ht
    cases t with
    | zero => omega
    | succ t =>
      refine Ok_eq ?_
      rw [m_X5_judge_12]
      repeat (first
          | with_reducible refine Ok_g (by first | assumption | omega) ?_
          | with_reducible refine Ok_lt ?_
          | with_reducible refine Ok_t (by first | assumption | omega) ?_
          | with_reducible refine Ok_f (by first | assumption | omega) ?_)
      exact Ok_ret ⟨rfl, rfl⟩
  | succ k ih =>
    intro t i hi ht
    cases t with
    | zero => omega
    | succ t =>
      have hri := hr i (by omega)
      have hro := rd_rng M 6 i
      have hor : ∀ i, i < T → own i = (if rd M 6 i = -1 then 9 else rd M 6 i) := ho
      refine Ok_eq ?_
      rw [m_X5_judge_12]
      unfold m_X5_judge_57
      simp only [juS, Int.toNat_natCast, hri]
      by_cases c : i < T
      · have hoi := ho i c
        rw [if_pos c]
        repeat (first
            | with_reducible refine Ok_g (by first | assumption | omega) ?_
            | with_reducible refine Ok_lt ?_
            | with_reducible refine Ok_t (by first | assumption | omega) ?_
            | with_reducible refine Ok_f (by first | assumption | omega) ?_)
        refine Ok_if (fun g => ?_) (fun g => ?_)
        · repeat (first
              | with_reducible refine Ok_g (by first | assumption | omega) ?_
              | with_reducible refine Ok_lt ?_
              | with_reducible refine Ok_t (by first | assumption | omega) ?_
              | with_reducible refine Ok_f (by first | assumption | omega) ?_)
          refine Ok_if (fun g2 => ?_) (fun g2 => ?_)
          · rw [if_pos (by omega)]
            exact Ok_of (ih t (i + 1) (by omega) (by omega)) ⟨rfl, rfl⟩
          · rw [if_neg (by omega)]
            exact Ok_ret ⟨rfl, rfl⟩
        · repeat (first
              | with_reducible refine Ok_g (by first | assumption | omega) ?_
              | with_reducible refine Ok_lt ?_
              | with_reducible refine Ok_t (by first | assumption | omega) ?_
              | with_reducible refine Ok_f (by first | assumption | omega) ?_)
          refine Ok_if (fun g2 => ?_) (fun g2 => ?_)
          · rw [if_pos (by omega)]
            exact Ok_of (ih t (i + 1) (by omega) (by omega)) ⟨rfl, rfl⟩
          · rw [if_neg (by omega)]
            exact Ok_ret ⟨rfl, rfl⟩
      · rw [if_neg c]
        repeat (first
            | with_reducible refine Ok_g (by first | assumption | omega) ?_
            | with_reducible refine Ok_lt ?_
            | with_reducible refine Ok_t (by first | assumption | omega) ?_
            | with_reducible refine Ok_f (by first | assumption | omega) ?_)
        exact Ok_ret ⟨rfl, rfl⟩
theorem r_judge_12 {n T R : Nat} {own rw : Nat → Int} {M : Mem} (wf : WF 999 (vw M 137)) (hR : R ≤ 12) (hT : rd M 137 7 = T) (hT8 : T ≤ 8) (ho : ∀ i, i < T → own i = (if rd M 143 i < 0 then 9 else rd M 143 i)) (hr : ∀ i, i < R → rd M 156 i = rw i) : ∀ k t (i : Nat), i + k = R → k < t →
    m_X6_judge_12 n t M (R : Int) (i : Int) = some (juS own T rw k i, M) := by
  intro k
  induction k with
  | zero =>
    intro t i hi ht
    cases t with
    | zero => omega
    | succ t =>
      refine Ok_eq ?_
      rw [m_X6_judge_12]
      repeat (first
          | with_reducible refine Ok_g (by first | assumption | omega) ?_
          | with_reducible refine Ok_lt ?_
          | with_reducible refine Ok_t (by first | assumption | omega) ?_
          | with_reducible refine Ok_f (by first | assumption | omega) ?_)
      exact Ok_ret ⟨rfl, rfl⟩
  | succ k ih =>
    intro t i hi ht
    cases t with
    | zero => omega
    | succ t =>
      have hri := hr i (by omega)
      have hro := rd_rng M 143 i
      refine Ok_eq ?_
      rw [m_X6_judge_12]
      unfold m_X6_judge_45
      simp only [juS, Int.toNat_natCast, hri]
      repeat (first
          | with_reducible refine Ok_g (by first | assumption | omega) ?_
          | with_reducible refine Ok_lt ?_
          | with_reducible refine Ok_t (by first | assumption | omega) ?_
          | with_reducible refine Ok_f (by first | assumption | omega) ?_)
      refine Ok_be (r_isT (by omega) wf) ?_
      by_cases c : i < T
      · have hoi := ho i c
        rw [if_pos (show 0 ≤ (i : Int) ∧ (i : Int) < rd M 137 7 by omega), if_pos c]
        repeat (first
            | with_reducible refine Ok_g (by first | assumption | omega) ?_
            | with_reducible refine Ok_lt ?_
            | with_reducible refine Ok_t (by first | assumption | omega) ?_
            | with_reducible refine Ok_f (by first | assumption | omega) ?_)
        refine Ok_if (fun g => ?_) (fun g => ?_)
        · repeat (first
              | with_reducible refine Ok_g (by first | assumption | omega) ?_
              | with_reducible refine Ok_lt ?_
              | with_reducible refine Ok_t (by first | assumption | omega) ?_
              | with_reducible refine Ok_f (by first | assumption | omega) ?_)
          refine Ok_if (fun g2 => ?_) (fun g2 => ?_)
          · rw [if_pos (by omega)]
            exact Ok_of (ih t (i + 1) (by omega) (by omega)) ⟨rfl, rfl⟩
          · rw [if_neg (by omega)]
            exact Ok_ret ⟨rfl, rfl⟩
        · repeat (first
              | with_reducible refine Ok_g (by first | assumption | omega) ?_
              | with_reducible refine Ok_lt ?_
              | with_reducible refine Ok_t (by first | assumption | omega) ?_
              | with_reducible refine Ok_f (by first | assumption | omega) ?_)
          refine Ok_if (fun g2 => ?_) (fun g2 => ?_)
          · rw [if_pos (by omega)]
            exact Ok_of (ih t (i + 1) (by omega) (by omega)) ⟨rfl, rfl⟩
          · rw [if_neg (by omega)]
            exact Ok_ret ⟨rfl, rfl⟩
      · rw [if_neg (show ¬ (0 ≤ (i : Int) ∧ (i : Int) < rd M 137 7) by omega), if_neg c]
        repeat (first
            | with_reducible refine Ok_g (by first | assumption | omega) ?_
            | with_reducible refine Ok_lt ?_
            | with_reducible refine Ok_t (by first | assumption | omega) ?_
            | with_reducible refine Ok_f (by first | assumption | omega) ?_)
        exact Ok_ret ⟨rfl, rfl⟩
theorem q_judge {n : Nat} {M : Mem} (hn : 2000 ≤ n) (s : Sim M) : Agr (m_X5_judge n M) (fun M1 => m_X6_judge n M1) := by
  obtain ⟨l1, l2, l3, l4⟩ := s.2.2.2.2.2.2.2.1
  obtain ⟨wf0, vv0, rf0⟩ := sim_rf s (M1 := M) (fun _ _ _ => rfl)
  have jb := juS_b (fun i => if rd M 6 i = -1 then 9 else rd M 6 i) (rd M 0 7).toNat (fun i => rd M 133 i) (rd M 130 8).toNat 0
  unfold Agr m_X5_judge
  refine Ok_wr ?_
  have e1 := e_judge_12 (n := n) (M := mup M 130 8 0) (T := (rd M 0 7).toNat) (R := (rd M 130 8).toNat) (own := fun i => if rd M 6 i = -1 then 9 else rd M 6 i) (rw := fun i => rd M 133 i) (by omega) (by rw [rd_upne _ _ _ _ _ _ (by omega)]; omega) (by omega) (fun i _ => by rw [rd_upne _ _ _ _ _ _ (by omega)]) (fun i _ => rd_upne _ _ _ _ _ _ (by omega)) (rd M 130 8).toNat n 0 (by omega) (by omega)
  rw [show (((rd M 130 8).toNat : Nat) : Int) = rd M 130 8 by omega] at e1
  refine Ok_of e1 ⟨by omega, ?_⟩
  unfold m_X6_judge
  refine Ok_wr ?_
  have s2 := sim_row0 s rfl
  obtain ⟨wf2, vv2, rf2⟩ := sim_rf s2 (M1 := mup (mup M 130 8 0) 137 31 0) (fun _ _ _ => rfl)
  have g : ∀ q i, ¬ (q = 130 ∧ i = 8) → ¬ (q = 137 ∧ i = 31) → rd (mup (mup M 130 8 0) 137 31 0) q i = rd M q i := fun q i a b => by rw [rd_upne _ _ _ _ _ _ (by omega), rd_upne _ _ _ _ _ _ (by omega)]
  have e31 : rd (mup M 130 8 0) 137 31 = rd M 130 8 := by rw [rd_upne _ _ _ _ _ _ (by omega)]; exact l1
  rw [e31]
  have e2 := r_judge_12 (n := n) (M := mup (mup M 130 8 0) 137 31 0) (T := (rd M 0 7).toNat) (R := (rd M 130 8).toNat) (own := fun i => if rd M 6 i = -1 then 9 else rd M 6 i) (rw := fun i => rd M 133 i) wf2 (by omega) (by rw [g 137 7 (by omega) (by omega)]; omega) (by omega) (fun i hi => by
    rw [g 143 i (by omega) (by omega)]
    have t := sim_t s (i := i) (by omega)
    have p := tW (w := 0) (by decide) s.2.1 (i := i) (by omega)
    simp only [Nat.reduceAdd] at p
    show (if rd M 6 i = -1 then 9 else rd M 6 i) = _
    omega) (fun i hi => by rw [g 156 i (by omega) (by omega)]; exact (l4 i (by omega)).1) (rd M 130 8).toNat n 0 (by omega) (by omega)
  rw [show (((rd M 130 8).toNat : Nat) : Int) = rd M 130 8 by omega] at e2
  exact Ok_of e2 ⟨rfl, s2⟩
