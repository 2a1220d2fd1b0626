theorem hours_wf {u : US} (h : WF 999 u) {N : Int} (hN : 0 ≤ N ∧ N ≤ 100) : WF 1200 (hoursS N.toNat u) := WF_le (hoursS_wf N.toNat 0 _ h) (by omega)
/-! looking for an hour -/
def srch (Q : US → Prop) (d : ∀ u, Decidable (Q u)) : Nat → Nat → US → Int
  | 0, _, _ => -9
  | k + 1, i, u => if Q u then (i : Int) else srch Q d k (i + 1) (hourS u)
theorem srch_b (Q : US → Prop) (d : ∀ u, Decidable (Q u)) : ∀ k i u, -9 ≤ srch Q d k i u ∧ srch Q d k i u ≤ i + k
  | 0, i, u => by
    show -9 ≤ (-9 : Int) ∧ (-9 : Int) ≤ _
    omega
  | k + 1, i, u => by
    have := srch_b Q d k (i + 1) (hourS u)
    simp only [srch]
    split <;> omega
theorem e_goOn1 {n : Nat} {H : Int} {M : Mem} (hn : 2000 ≤ n) (hH : H + 1 ≤ 1000000) (sk : SkyOk M) (wf : WF H (vw M 22)) :
    Ok (m_X0_goOn n M 1) (fun _ M' => vw M' 22 = hourS (vw M 22) ∧ WF (H + 1) (vw M' 22) ∧ SkyOk M' ∧ Lk M' ∧ KM M M') := by
  refine Ok_mono (e_goOn (N := 1) hn (by decide) hH sk wf) ?_
  rintro _ M' ⟨v, k, l, f⟩
  have e : vw M' 22 = hourS (vw M 22) := v
  exact ⟨e, by rw [e]; exact hourS_wf wf, k, l, fun q i hq => f q i (by omega) (by omega)⟩
theorem e_clears_26 {n : Nat} {c : Int} (hn : 2000 ≤ n) (hc : 0 ≤ c ∧ c ≤ 23) : ∀ k t (i : Nat) (H : Int) M, i + k = 61 → k < t → H + k ≤ 100000 → SkyOk M → Lk M → WF H (vw M 22) →
    Ok (m_X5_clears_26 n t M c (i : Int)) (fun r M' => r = srch (fun u => fogS u c < u 0 14) (fun _ => inferInstance) k i (vw M 22) ∧ SkyOk M' ∧ KM M M') := by
  intro k
  induction k with
  | zero =>
    intro t i H M hi ht hH sk lk wf
    cases t with
    | zero => omega
    | succ t =>
      rw [m_X5_clears_26]
      repeat (first
          | with_reducible refine Ok_g (by first | assumption | omega) ?_
          | with_reducible refine Ok_lt ?_
          | with_reducible refine Ok_t (by first | assumption | omega) ?_
          | with_reducible refine Ok_f (by first | assumption | omega) ?_)
      exact Ok_ret ⟨rfl, sk, KM_refl M⟩
  | succ k ih =>
    intro t i H M hi ht hH sk lk wf
    cases t with
    | zero => omega
    | succ t =>
      rw [m_X5_clears_26]
      simp only [srch]
      repeat (first
          | with_reducible refine Ok_g (by first | assumption | omega) ?_
          | with_reducible refine Ok_lt ?_
          | with_reducible refine Ok_t (by first | assumption | omega) ?_
          | with_reducible refine Ok_f (by first | assumption | omega) ?_)
      refine Ok_be (e_isInFog hn wf lk hc) ?_
      by_cases g : vw M 22 0 14 ≤ fogS (vw M 22) c
      · rw [if_pos g]
        repeat (first
            | with_reducible refine Ok_g (by first | assumption | omega) ?_
            | with_reducible refine Ok_lt ?_
            | with_reducible refine Ok_t (by first | assumption | omega) ?_
            | with_reducible refine Ok_f (by first | assumption | omega) ?_)
        refine Ok_bd (e_goOn1 hn (by omega) sk wf) ?_
        rintro _ M1 ⟨v1, w1, k1, l1, km⟩
        refine Ok_mono (ih t (i + 1) (H + 1) M1 (by omega) (by omega) (by omega) k1 l1 w1) ?_
        rintro r M2 ⟨h1, h2, h3⟩
        exact ⟨by rw [h1, v1, if_neg (by omega)], h2, KM_trans km h3⟩
      · rw [if_neg g]
        repeat (first
            | with_reducible refine Ok_g (by first | assumption | omega) ?_
            | with_reducible refine Ok_lt ?_
            | with_reducible refine Ok_t (by first | assumption | omega) ?_
            | with_reducible refine Ok_f (by first | assumption | omega) ?_)
        exact Ok_ret ⟨by rw [if_pos (by omega)], sk, KM_refl M⟩
