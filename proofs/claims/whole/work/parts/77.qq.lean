/-! the last call -/
theorem rd_inj {M M' : Mem} {q i q' i' : Nat} (h : rd M' q' i' = rd M q i) : M' q' i' = M q i := Int32.toInt_inj.mp h
theorem sim_cf {M Mr : Mem} (s : Sim M) (sk : SkyOk Mr) (hv : vw Mr 137 = vw M 137) (h1 : rd Mr 130 6 = 0) (h2 : rd Mr 137 22 = 0)
    (f : ∀ q i, ¬ (22 ≤ q ∧ q ≤ 32) → ¬ (121 ≤ q ∧ q ≤ 129) → ¬ (q = 130 ∧ i = 6) → ¬ (138 ≤ q ∧ q ≤ 147) → q ≠ 149 → q ≠ 150 → ¬ (152 ≤ q ∧ q ≤ 154) → ¬ (q = 155 ∧ 68 ≤ i ∧ i < 136) → ¬ (q = 137 ∧ (i = 3 ∨ i = 7 ∨ i = 12 ∨ i = 13 ∨ i = 14 ∨ i = 22 ∨ i = 23 ∨ i = 24 ∨ i = 25 ∨ i = 27 ∨ i = 28)) → q ≠ 135 → q ≠ 136 → Mr q i = M q i) : Sim Mr := by
  have sz : Sim (mup (mup M 130 6 0) 137 22 0) := by
    refine sim_out s (fun q i h1 h2 h3 h4 h5 h6 => by rw [mup_n _ (by omega), mup_n _ (by omega)]) ?_ ?_
    · have e1 : rd (mup (mup M 130 6 0) 137 22 0) 137 22 = 0 := rd_ups _ _ _ (by decide)
      have e2 : rd (mup (mup M 130 6 0) 137 22 0) 130 6 = 0 := by rw [rd_upne _ _ _ _ _ _ (by omega), rd_ups _ _ _ (by decide)]
      unfold LetOk
      rw [e1, e2]
      exact ⟨rfl, by decide, by decide, fun i hi => absurd hi (by omega)⟩
    · exact row_keep s.2.2.2.2.2.2.2.1 (fun q i g => by rw [mup_n _ (by omega), mup_n _ (by omega)])
  have vz : vw (mup (mup M 130 6 0) 137 22 0) 137 = vw M 137 := vw_congr (fun i _ => by rw [mup_n _ (by omega), mup_n _ (by omega)]) (fun a i _ _ => by rw [mup_n _ (by omega), mup_n _ (by omega)]) (fun z => absurd z (by decide)) (fun _ => ⟨by rw [mup_n _ (by omega), mup_n _ (by omega)], by rw [mup_n _ (by omega), mup_n _ (by omega)]⟩)
  refine sim_keep sz sk (by rw [hv, vz]) ?_ ?_
  · intro i
    rw [f 148 i (by omega) (by omega) (by omega) (by omega) (by omega) (by omega) (by omega) (by omega) (by omega) (by omega) (by omega), f 134 i (by omega) (by omega) (by omega) (by omega) (by omega) (by omega) (by omega) (by omega) (by omega) (by omega) (by omega)]
    exact s.2.2.2.2.2.2.2.2 i
  · intro q i g
    by_cases c1 : q = 130 ∧ i = 6
    · obtain ⟨rfl, rfl⟩ := c1
      refine rd_inj ?_
      rw [h1, rd_upne _ _ _ _ _ _ (by omega), rd_ups _ _ _ (by decide)]
    · by_cases c2 : q = 137 ∧ i = 22
      · obtain ⟨rfl, rfl⟩ := c2
        refine rd_inj ?_
        rw [h2, rd_ups _ _ _ (by decide)]
      · rw [mup_n _ c2, mup_n _ c1]
        unfold Kp at g
        exact f q i (by omega) (by omega) (by omega) (by omega) (by omega) (by omega) (by omega) (by omega) (by omega) (by omega) (by omega)
theorem sim_cs {M Mc Mr : Mem} {u1 : US} (s : Sim M) (wu : WF 999 u1) (c1 : rd Mc 130 4 = 0) (c4 : SkyOk Mc) (c5 : vw Mc 0 = u1) (c2 : rd Mc 130 6 = 0) (c6 : ∀ q i, (11 ≤ q ∧ q < 22) ∨ (130 ≤ q ∧ ¬ (q = 130 ∧ (i = 4 ∨ i = 6))) → Mc q i = M q i)
    (r1 : rd Mr 137 30 = 0) (r2 : rd Mr 137 22 = 0) (r4 : vw Mr 137 = u1) (r5 : ∀ q i, (q < 137 ∨ q = 148 ∨ q = 151 ∨ q = 156 ∨ (q = 137 ∧ (i = 26 ∨ i = 29 ∨ i = 31)) ∨ (q = 155 ∧ i < 68)) → Mr q i = Mc q i) : Sim Mr := by
  have sz : Sim (mup (mup M 130 6 0) 137 22 0) := by
    refine sim_out s (fun q i h1 h2 h3 h4 h5 h6 => by rw [mup_n _ (by omega), mup_n _ (by omega)]) ?_ ?_
    · have e1 : rd (mup (mup M 130 6 0) 137 22 0) 137 22 = 0 := rd_ups _ _ _ (by decide)
      have e2 : rd (mup (mup M 130 6 0) 137 22 0) 130 6 = 0 := by rw [rd_upne _ _ _ _ _ _ (by omega), rd_ups _ _ _ (by decide)]
      unfold LetOk
      rw [e1, e2]
      exact ⟨rfl, by decide, by decide, fun i hi => absurd hi (by omega)⟩
    · exact row_keep s.2.2.2.2.2.2.2.1 (fun q i g => by rw [mup_n _ (by omega), mup_n _ (by omega)])
  refine sim_new (Mc := mup Mc 137 22 0) sz wu (by rw [rd_upne _ _ _ _ _ _ (by omega)]; exact c1) (SkyOk_keep c4 (fun q i _ _ => mup_n _ (by omega))) (by rw [← c5]; exact vwW_congr (by decide) (fun q i _ _ => mup_n _ (by omega))) ?_ r1 r4 ?_
  · intro q i h
    by_cases g2 : q = 137 ∧ i = 22
    · obtain ⟨rfl, rfl⟩ := g2
      refine rd_inj ?_
      rw [rd_ups _ _ _ (by decide), rd_ups _ _ _ (by decide)]
    · rw [mup_n _ g2, mup_n _ g2]
      by_cases g1 : q = 130 ∧ i = 6
      · obtain ⟨rfl, rfl⟩ := g1
        refine rd_inj ?_
        rw [c2, rd_ups _ _ _ (by decide)]
      · rw [mup_n _ g1]
        exact c6 q i (by omega)
  · intro q i h
    by_cases g2 : q = 137 ∧ i = 22
    · obtain ⟨rfl, rfl⟩ := g2
      refine rd_inj ?_
      rw [r2, rd_ups _ _ _ (by decide)]
    · rw [mup_n _ g2]
      exact r5 q i (by omega)
theorem wrS_le {L : Nat → Int} {len : Nat} : ∀ k p x, wrS L len k p = some x → x ≤ len := by
  intro k
  induction k with
  | zero => intro p x h; cases h
  | succ k ih =>
    intro p x h
    rw [wrS] at h
    by_cases c : p < len
    · rw [if_pos c] at h
      cases e : stm L len p with
      | some y =>
        rw [e] at h
        cases h
        exact stm_le (by omega) e
      | none => rw [e] at h; exact ih _ _ h
    · rw [if_neg c] at h; cases h
theorem S_uniq {L : Nat → Int} {len S S' : Nat} (h : AllT L len S) (h' : AllT L len S') (e : pos L S = len) (e' : pos L S' = len) : S = S' := by
  by_cases c : S < S'
  · have := pos_lt h' c
    omega
  · by_cases d : S' < S
    · have := pos_lt h d
      omega
    · omega
theorem cx_b {L : Nat → Int} {len S : Nat} (hl : len ≤ 96) (h : AllT L len S) (hS : pos L S = len) : ∀ (k j : Nat) (u : US), j + k = S → -3000 ≤ (cx L k j u).1 ∧ (cx L k j u).1 ≤ 96 := by
  intro k
  induction k with
  | zero =>
    intro j u hj
    have := pos_ge h S (Nat.le_refl _)
    show -3000 ≤ (j : Int) ∧ (j : Int) ≤ 96
    omega
  | succ k ih =>
    intro j u hj
    have := pos_lt h (j := j) (by omega)
    rw [cx]
    cases exL L (pos L j) u with
    | none =>
      show -3000 ≤ -2000 - (pos L j : Int) ∧ -2000 - (pos L j : Int) ≤ 96
      omega
    | some u' => exact ih (j + 1) u' (by omega)
