/-! clear runs, sights -/
def crS : Nat → US → Int → Int → Int
  | 0, _, most, _ => most
  | k + 1, u, most, run => crS k (hourS u) (mx most (if cellsN (hourS u) = 0 then run + 1 else 0)) (if cellsN (hourS u) = 0 then run + 1 else 0)
theorem crS_b : ∀ k u (m r B : Int), 0 ≤ m → 0 ≤ r → m ≤ B → r ≤ B → 0 ≤ crS k u m r ∧ crS k u m r ≤ B + k
  | 0, _, m, r, B, h, h', h2, h3 => by
    show 0 ≤ m ∧ m ≤ B + 0
    omega
  | k + 1, u, m, r, B, h, h', h2, h3 => by
    have := crS_b k (hourS u) (mx m (if cellsN (hourS u) = 0 then r + 1 else 0)) (if cellsN (hourS u) = 0 then r + 1 else 0) (B + 1) (by unfold mx; omega) (by omega) (by unfold mx; omega) (by omega)
    simp only [crS]
    omega
theorem e_clearRun_17 {n : Nat} (hn : 2000 ≤ n) : ∀ k t (i : Nat) (H m r : Int) M, i + k = 60 → k < t → H + k ≤ 100000 → SkyOk M → WF H (vw M 22) → 0 ≤ m ∧ m ≤ 100 → 0 ≤ r ∧ r ≤ i →
    Ok (m_X5_clearRun_17 n t M m r (i : Int)) (fun x M' => x = crS k (vw M 22) m r ∧ SkyOk M' ∧ KM M M') := by
  intro k
  induction k with
  | zero =>
    intro t i H m r M hi ht hH sk wf hm hr
    cases t with
    | zero => omega
    | succ t =>
      rw [m_X5_clearRun_17]
      repeat (first
          | with_reducible refine Ok_g (by first | assumption | omega) ?_
          | with_reducible refine Ok_lt ?_
          | with_reducible refine Ok_t (by first | assumption | omega) ?_
          | with_reducible refine Ok_f (by first | assumption | omega) ?_)
      exact Ok_ret ⟨rfl, sk, KM_refl M⟩
  | succ k ih =>
    intro t i H m r M hi ht hH sk wf hm hr
    cases t with
    | zero => omega
    | succ t =>
      rw [m_X5_clearRun_17]
      simp only [crS]
      unfold m_X5_clearRun_48
      repeat (first
          | with_reducible refine Ok_g (by first | assumption | omega) ?_
          | with_reducible refine Ok_lt ?_
          | with_reducible refine Ok_t (by first | assumption | omega) ?_
          | with_reducible refine Ok_f (by first | assumption | omega) ?_)
      refine Ok_bd (e_goOn1 hn (by omega) sk wf) ?_
      rintro _ M1 ⟨v1, w1, k1, l1, km⟩
      obtain ⟨ec, hc⟩ := cells_N (vw M1 22)
      refine Ok_be (e_foggyCells hn w1 l1) ?_
      rw [ec, v1]
      rw [v1] at hc
      have fin : ∀ y : Int, y = (if cellsN (hourS (vw M 22)) = 0 then r + 1 else 0) → Ok (m_X5_clearRun_17 n t M1 (mxZ m y) y ((i : Int) + 1)) (fun x M' => x = crS k (hourS (vw M 22)) (mx m (if cellsN (hourS (vw M 22)) = 0 then r + 1 else 0)) (if cellsN (hourS (vw M 22)) = 0 then r + 1 else 0) ∧ SkyOk M' ∧ KM M M') := by
        intro y hy
        rw [← hy, show mxZ m y = mx m y by unfold mxZ mx; omega]
        refine Ok_mono (ih t (i + 1) (H + 1) (mx m y) y M1 (by omega) (by omega) (by omega) k1 w1 (by unfold mx; omega) (by omega)) ?_
        rintro x M2 ⟨h1, h2, h3⟩
        exact ⟨by rw [h1, v1], h2, KM_trans km h3⟩
      by_cases g : cellsN (hourS (vw M 22)) = 0
      · repeat (first
            | with_reducible refine Ok_g (by first | assumption | omega) ?_
            | with_reducible refine Ok_lt ?_
            | with_reducible refine Ok_t (by first | assumption | omega) ?_
            | with_reducible refine Ok_f (by first | assumption | omega) ?_)
        exact fin _ (by rw [if_pos g])
      · repeat (first
            | with_reducible refine Ok_g (by first | assumption | omega) ?_
            | with_reducible refine Ok_lt ?_
            | with_reducible refine Ok_t (by first | assumption | omega) ?_
            | with_reducible refine Ok_f (by first | assumption | omega) ?_)
        exact fin _ (by rw [if_neg g])
theorem r_clearRun_10 {n : Nat} {M0 M1 : Mem} (hn : 2000 ≤ n) (s : Sim M0) (md : Md M0 M1) : ∀ k t (i : Nat) (H m r : Int) M, i + k = 60 → k < t → H + k ≤ 100000 → WF H (vw M 137) → KX M1 M → 0 ≤ m ∧ m ≤ 100 → 0 ≤ r ∧ r ≤ i →
    Ok (m_X6_clearRun_10 n t M m r (i : Int)) (fun x M' => x = crS k (vw M 137) m r ∧ Sim M') := by
  intro k
  induction k with
  | zero =>
    intro t i H m r M hi ht hH wf kx hm hr
    cases t with
    | zero => omega
    | succ t =>
      rw [m_X6_clearRun_10]
      repeat (first
          | with_reducible refine Ok_g (by first | assumption | omega) ?_
          | with_reducible refine Ok_lt ?_
          | with_reducible refine Ok_t (by first | assumption | omega) ?_
          | with_reducible refine Ok_f (by first | assumption | omega) ?_)
      exact r_fin hn s md kx rfl
  | succ k ih =>
    intro t i H m r M hi ht hH wf kx hm hr
    cases t with
    | zero => omega
    | succ t =>
      rw [m_X6_clearRun_10]
      simp only [crS]
      unfold m_X6_clearRun_34
      repeat (first
          | with_reducible refine Ok_g (by first | assumption | omega) ?_
          | with_reducible refine Ok_lt ?_
          | with_reducible refine Ok_t (by first | assumption | omega) ?_
          | with_reducible refine Ok_f (by first | assumption | omega) ?_)
      refine Ok_bd (r_goesHour hn wf (by omega)) ?_
      rintro _ M2 ⟨v2, k2⟩
      have w2 : WF (H + 1) (vw M2 137) := by rw [v2]; exact hourS_wf wf
      obtain ⟨ec, hc⟩ := cells_N (vw M2 137)
      refine Ok_bd (r_foggyCells hn w2 (by omega)) ?_
      rintro x M3 ⟨ex, k3⟩
      rw [ec, v2] at ex
      rw [v2] at hc
      have e3 := vwA k3
      subst ex
      have fin : ∀ y : Int, y = (if cellsN (hourS (vw M 137)) = 0 then r + 1 else 0) → Ok (bd (m_X6_greater n M3 m y) (fun r2 M1 => m_X6_clearRun_10 n t M1 r2 y ((i : Int) + 1))) (fun x M' => x = crS k (hourS (vw M 137)) (mx m (if cellsN (hourS (vw M 137)) = 0 then r + 1 else 0)) (if cellsN (hourS (vw M 137)) = 0 then r + 1 else 0) ∧ Sim M') := by
        intro y hy
        rw [← hy]
        refine Ok_be (r_greater (by omega) (by omega)) ?_
        refine Ok_mono (ih t (i + 1) (H + 1) (mx m y) y M3 (by omega) (by omega) (by omega) (by rw [e3]; exact w2) (KX_trans kx (KX_trans (KX_G k2) (KX_A k3))) (by unfold mx; omega) (by omega)) ?_
        rintro x M4 ⟨h1, h2⟩
        exact ⟨by rw [h1, e3, v2], h2⟩
      by_cases g : cellsN (hourS (vw M 137)) = 0
      · repeat (first
            | with_reducible refine Ok_g (by first | assumption | omega) ?_
            | with_reducible refine Ok_lt ?_
            | with_reducible refine Ok_t (by first | assumption | omega) ?_
            | with_reducible refine Ok_f (by first | assumption | omega) ?_)
        exact fin _ (by rw [if_pos g])
      · repeat (first
            | with_reducible refine Ok_g (by first | assumption | omega) ?_
            | with_reducible refine Ok_lt ?_
            | with_reducible refine Ok_t (by first | assumption | omega) ?_
            | with_reducible refine Ok_f (by first | assumption | omega) ?_)
        exact fin _ (by rw [if_neg g])
theorem q_clearRun {n : Nat} {M : Mem} (hn : 2000 ≤ n) (s : Sim M) : Agr (m_X5_clearRun n M) (fun M1 => m_X6_clearRun n M1) := by
  unfold Agr m_X5_clearRun
  refine Ok_bd (e_begin hn s.2.2.1 s.2.1 (by decide)) ?_
  rintro _ M1 ⟨v1, k1, l1, f1⟩
  have km : KM M M1 := fun q i hq => f1 q i (by omega)
  refine Ok_mono (e_clearRun_17 hn 60 n 0 999 0 0 M1 (by omega) (by omega) (by omega) k1 (by rw [v1]; exact s.2.1) (by omega) (by omega)) ?_
  rintro r M2 ⟨er, k2, km2⟩
  have km3 := KM_trans km km2
  have s2 := sim_KM s k2 km3
  have bb := crS_b 60 (vw M1 22) 0 0 0 (by omega) (by omega) (by omega) (by omega)
  refine ⟨by rw [er]; omega, ?_⟩
  obtain ⟨wf2, vv2, rf2⟩ := sim_rf s2 (M1 := M2) (fun _ _ _ => rfl)
  unfold m_X6_clearRun
  refine Ok_bd (r_minds hn s2) ?_
  rintro _ M3 ⟨v3, md, _⟩
  refine Ok_mono (r_clearRun_10 hn s2 md 60 n 0 999 0 0 M3 (by omega) (by omega) (by omega) (by rw [v3]; exact wf2) (KX_refl M3) (by omega) (by omega)) ?_
  rintro r' M4 ⟨e4, s4⟩
  exact ⟨by rw [e4, er, v3, vv2, vw0_KM km3, v1], s4⟩
def alS (now : Nat) : Nat → US → Int → Int
  | 0, _, acc => acc
  | k + 1, u, acc => alS now k (hourS u) (if pcN 31 (cellsN (hourS u)) = now then acc + 1 else acc)
theorem alS_b (now : Nat) : ∀ k u (a : Int), a ≤ alS now k u a ∧ alS now k u a ≤ a + k
  | 0, _, a => by
    show a ≤ a ∧ a ≤ a + 0
    omega
  | k + 1, u, a => by
    have := alS_b now k (hourS u) (if pcN 31 (cellsN (hourS u)) = now then a + 1 else a)
    simp only [alS]
    omega
theorem e_alike_26 {n now : Nat} (hn : 2000 ≤ n) (hnow : now ≤ 31) : ∀ k t (i : Nat) (H a : Int) M, i + k = 60 → k < t → H + k ≤ 100000 → SkyOk M → WF H (vw M 22) → 0 ≤ a ∧ a ≤ i →
    Ok (m_X5_hoursAlike_26 n t M (now : Int) a (i : Int)) (fun x M' => x = alS now k (vw M 22) a ∧ SkyOk M' ∧ KM M M') := by
  intro k
  induction k with
  | zero =>
    intro t i H a M hi ht hH sk wf ha
    cases t with
    | zero => omega
    | succ t =>
      rw [m_X5_hoursAlike_26]
      repeat (first
          | with_reducible refine Ok_g (by first | assumption | omega) ?_
          | with_reducible refine Ok_lt ?_
          | with_reducible refine Ok_t (by first | assumption | omega) ?_
          | with_reducible refine Ok_f (by first | assumption | omega) ?_)
      exact Ok_ret ⟨rfl, sk, KM_refl M⟩
  | succ k ih =>
    intro t i H a M hi ht hH sk wf ha
    cases t with
    | zero => omega
    | succ t =>
      rw [m_X5_hoursAlike_26]
      simp only [alS]
      repeat (first
          | with_reducible refine Ok_g (by first | assumption | omega) ?_
          | with_reducible refine Ok_lt ?_
          | with_reducible refine Ok_t (by first | assumption | omega) ?_
          | with_reducible refine Ok_f (by first | assumption | omega) ?_)
      refine Ok_bd (e_goOn1 hn (by omega) sk wf) ?_
      rintro _ M1 ⟨v1, w1, k1, l1, km⟩
      obtain ⟨ec, hc⟩ := cells_N (vw M1 22)
      refine Ok_be (e_foggyCells hn w1 l1) ?_
      rw [ec]
      refine Ok_be (e_bitCount hc) ?_
      rw [v1]
      have pl := pcN_le 31 (cellsN (hourS (vw M 22)))
      repeat (first
          | with_reducible refine Ok_g (by first | assumption | omega) ?_
          | with_reducible refine Ok_lt ?_
          | with_reducible refine Ok_t (by first | assumption | omega) ?_
          | with_reducible refine Ok_f (by first | assumption | omega) ?_)
      refine Ok_if (fun g => ?_) (fun g => ?_)
      · rw [if_pos (by omega)]
        refine Ok_mono (ih t (i + 1) (H + 1) (a + 1) M1 (by omega) (by omega) (by omega) k1 w1 (by omega)) ?_
        rintro x M2 ⟨h1, h2, h3⟩
        exact ⟨by rw [h1, v1], h2, KM_trans km h3⟩
      · rw [if_neg (by omega)]
        refine Ok_mono (ih t (i + 1) (H + 1) a M1 (by omega) (by omega) (by omega) k1 w1 (by omega)) ?_
        rintro x M2 ⟨h1, h2, h3⟩
        exact ⟨by rw [h1, v1], h2, KM_trans km h3⟩
theorem r_alike_16 {n now : Nat} {M0 M1 : Mem} (hn : 2000 ≤ n) (s : Sim M0) (md : Md M0 M1) (hnow : now ≤ 31) : ∀ k t (i : Nat) (H a : Int) M, i + k = 60 → k < t → H + k ≤ 100000 → WF H (vw M 137) → KX M1 M → 0 ≤ a ∧ a ≤ i →
    Ok (m_X6_alike_16 n t M (now : Int) a (i : Int)) (fun x M' => x = alS now k (vw M 137) a ∧ Sim M') := by
  intro k
  induction k with
  | zero =>
    intro t i H a M hi ht hH wf kx ha
    cases t with
    | zero => omega
    | succ t =>
      rw [m_X6_alike_16]
      repeat (first
          | with_reducible refine Ok_g (by first | assumption | omega) ?_
          | with_reducible refine Ok_lt ?_
          | with_reducible refine Ok_t (by first | assumption | omega) ?_
          | with_reducible refine Ok_f (by first | assumption | omega) ?_)
      exact r_fin hn s md kx rfl
  | succ k ih =>
    intro t i H a M hi ht hH wf kx ha
    cases t with
    | zero => omega
    | succ t =>
      rw [m_X6_alike_16]
      simp only [alS]
      unfold m_X6_alike_43
      repeat (first
          | with_reducible refine Ok_g (by first | assumption | omega) ?_
          | with_reducible refine Ok_lt ?_
          | with_reducible refine Ok_t (by first | assumption | omega) ?_
          | with_reducible refine Ok_f (by first | assumption | omega) ?_)
      refine Ok_bd (r_goesHour hn wf (by omega)) ?_
      rintro _ M2 ⟨v2, k2⟩
      have w2 : WF (H + 1) (vw M2 137) := by rw [v2]; exact hourS_wf wf
      obtain ⟨ec, hc⟩ := cells_N (vw M2 137)
      refine Ok_bd (r_foggyCells hn w2 (by omega)) ?_
      rintro x M3 ⟨ex, k3⟩
      rw [ec] at ex
      have e3 := vwA k3
      subst ex
      refine Ok_be (r_bits hn (by omega)) ?_
      rw [v2]
      have pl := pcN_le 31 (cellsN (hourS (vw M 137)))
      repeat (first
          | with_reducible refine Ok_g (by first | assumption | omega) ?_
          | with_reducible refine Ok_lt ?_
          | with_reducible refine Ok_t (by first | assumption | omega) ?_
          | with_reducible refine Ok_f (by first | assumption | omega) ?_)
      refine Ok_if (fun g => ?_) (fun g => ?_)
      · rw [if_pos (by omega)]
        refine Ok_mono (ih t (i + 1) (H + 1) (a + 1) M3 (by omega) (by omega) (by omega) (by rw [e3]; exact w2) (KX_trans kx (KX_trans (KX_G k2) (KX_A k3))) (by omega)) ?_
        rintro x M4 ⟨h1, h2⟩
        exact ⟨by rw [h1, e3, v2], h2⟩
      · rw [if_neg (by omega), show a + 0 = a by omega]
        refine Ok_mono (ih t (i + 1) (H + 1) a M3 (by omega) (by omega) (by omega) (by rw [e3]; exact w2) (KX_trans kx (KX_trans (KX_G k2) (KX_A k3))) (by omega)) ?_
        rintro x M4 ⟨h1, h2⟩
        exact ⟨by rw [h1, e3, v2], h2⟩
theorem q_alike {n : Nat} {M : Mem} (hn : 2000 ≤ n) (s : Sim M) : Ok (m_X5_hoursAlike n M) (fun r M1 => I32 r ∧ Ok (m_X6_alike n M1) (fun r' M2 => r' = r ∧ Sim M2)) := by
  unfold m_X5_hoursAlike
  refine Ok_bd (e_begin hn s.2.2.1 s.2.1 (by decide)) ?_
  rintro _ M1 ⟨v1, k1, l1, f1⟩
  have km : KM M M1 := fun q i hq => f1 q i (by omega)
  have w1 : WF 999 (vw M1 22) := by rw [v1]; exact s.2.1
  obtain ⟨ec, hc⟩ := cells_N (vw M1 22)
  refine Ok_be (e_foggyCells hn w1 l1) ?_
  rw [ec]
  refine Ok_be (e_bitCount hc) ?_
  have pl := pcN_le 31 (cellsN (vw M1 22))
  refine Ok_mono (e_alike_26 hn pl 60 n 0 999 0 M1 (by omega) (by omega) (by omega) k1 w1 (by omega)) ?_
  rintro r M2 ⟨er, k2, km2⟩
  have km3 := KM_trans km km2
  have s2 := sim_KM s k2 km3
  have bb := alS_b (pcN 31 (cellsN (vw M1 22))) 60 (vw M1 22) 0
  refine ⟨by rw [er]; omega, ?_⟩
  obtain ⟨wf2, vv2, rf2⟩ := sim_rf s2 (M1 := M2) (fun _ _ _ => rfl)
  unfold m_X6_alike
  refine Ok_bd (r_foggyCells hn wf2 (by decide)) ?_
  rintro x M3 ⟨ex, k3⟩
  have e3 : vw M2 137 = vw M1 22 := by rw [vv2, vw0_KM km3, v1]
  rw [e3, ec] at ex
  subst ex
  refine Ok_be (r_bits hn (by omega)) ?_
  have s3 := sim_KR s2 (fun q i _ a b _ _ _ => k3 q i a b) (vwA k3)
  refine Ok_bd (r_minds hn s3) ?_
  rintro _ M4 ⟨v4, md, _⟩
  have e4 : vw M4 137 = vw M1 22 := by rw [v4, vwA k3, e3]
  refine Ok_mono (r_alike_16 hn s3 md pl 60 n 0 999 0 M4 (by omega) (by omega) (by omega) (by rw [e4]; exact w1) (KX_refl M4) (by omega)) ?_
  rintro r' M5 ⟨e5, s5⟩
  exact ⟨by rw [e5, er, e4], s5⟩
/-- the richest -/
def rcF (u : US) : Nat → Int → Int := fun p best => if best < 0 ∨ worthsS u best < worthsS u (p : Int) then (p : Int) else best
theorem e_richest_7 {n P : Nat} {M : Mem} (hn : 2000 ≤ n) (wf : WF 999 (vw M 0)) (hP : rd M 0 12 = P) : ∀ k t (i : Nat) (best most : Int), i + k = P → k < t → (best = -9 ∧ most = -1 ∨ 0 ≤ best ∧ best < i ∧ most = worthsS (vw M 0) best) →
    Ok (m_X5_richest_7 n t M best most (i : Int)) (fun r M' => r = frm (rcF (vw M 0)) k i best ∧ I32 r ∧ M' = M) := by
  have b0 := sW wf
  intro k
  induction k with
  | zero =>
    intro t i best most hi ht hb
    cases t with
    | zero => omega
    | succ t =>
      rw [m_X5_richest_7]
      repeat (first
          | with_reducible refine Ok_g (by first | assumption | omega) ?_
          | with_reducible refine Ok_lt ?_
          | with_reducible refine Ok_t (by first | assumption | omega) ?_
          | with_reducible refine Ok_f (by first | assumption | omega) ?_)
      exact Ok_ret ⟨rfl, by omega, rfl⟩
  | succ k ih =>
    intro t i best most hi ht hb
    cases t with
    | zero => omega
    | succ t =>
      have wb := worthsS_b wf (i : Int)
      have wc := worthsS_b wf best
      rw [m_X5_richest_7]
      simp only [frm]
      repeat (first
          | with_reducible refine Ok_g (by first | assumption | omega) ?_
          | with_reducible refine Ok_lt ?_
          | with_reducible refine Ok_t (by first | assumption | omega) ?_
          | with_reducible refine Ok_f (by first | assumption | omega) ?_)
      refine Ok_be (e_worthsOf hn (by decide) wf (by omega)) ?_
      repeat (first
          | with_reducible refine Ok_g (by first | assumption | omega) ?_
          | with_reducible refine Ok_lt ?_
          | with_reducible refine Ok_t (by first | assumption | omega) ?_
          | with_reducible refine Ok_f (by first | assumption | omega) ?_)
      refine Ok_if (fun g => ?_) (fun g => ?_)
      · rw [show rcF (vw M 0) i best = best from if_neg (by omega)]
        exact ih t (i + 1) best most (by omega) (by omega) (by omega)
      · rw [show rcF (vw M 0) i best = (i : Int) from if_pos (by omega)]
        exact ih t (i + 1) (i : Int) _ (by omega) (by omega) (.inr ⟨by omega, by omega, rfl⟩)
theorem r_richest_5 {n P : Nat} {M : Mem} (hn : 2000 ≤ n) (wf : WF 999 (vw M 137)) (hP : rd M 137 12 = P) : ∀ k t (i : Nat) (best : Int), i + k = P → k < t → (best = -9 ∨ 0 ≤ best ∧ best < i) →
    m_X6_richest_5 n t M best (i : Int) = some (frm (rcF (vw M 137)) k i best, M) := by
  have b0 := sW wf
  intro k
  induction k with
  | zero =>
    intro t i best hi ht hb
    cases t with
    | zero => omega
    | succ t =>
      refine Ok_eq ?_
      rw [m_X6_richest_5]
      repeat (first
          | with_reducible refine Ok_g (by first | assumption | omega) ?_
          | with_reducible refine Ok_lt ?_
          | with_reducible refine Ok_t (by first | assumption | omega) ?_
          | with_reducible refine Ok_f (by first | assumption | omega) ?_)
      exact Ok_ret ⟨rfl, rfl⟩
  | succ k ih =>
    intro t i best hi ht hb
    cases t with
    | zero => omega
    | succ t =>
      have wb := worthsS_b wf (i : Int)
      have wc := worthsS_b wf best
      refine Ok_eq ?_
      rw [m_X6_richest_5]
      simp only [frm]
      unfold m_X6_richest_30 m_X6_richest_35
      repeat (first
          | with_reducible refine Ok_g (by first | assumption | omega) ?_
          | with_reducible refine Ok_lt ?_
          | with_reducible refine Ok_t (by first | assumption | omega) ?_
          | with_reducible refine Ok_f (by first | assumption | omega) ?_)
      refine Ok_if (fun g => ?_) (fun g => ?_)
      · rw [show rcF (vw M 137) i best = (i : Int) from if_pos (by omega)]
        exact Ok_of (ih t (i + 1) (i : Int) (by omega) (by omega) (by omega)) ⟨rfl, rfl⟩
      · refine Ok_be (r_worthsOf hn wf (by omega)) ?_
        refine Ok_be (r_worthsOf hn wf (by omega)) ?_
        repeat (first
            | with_reducible refine Ok_g (by first | assumption | omega) ?_
            | with_reducible refine Ok_lt ?_
            | with_reducible refine Ok_t (by first | assumption | omega) ?_
            | with_reducible refine Ok_f (by first | assumption | omega) ?_)
        refine Ok_if (fun g => ?_) (fun g => ?_)
        · rw [show rcF (vw M 137) i best = best from if_neg (by omega)]
          exact Ok_of (ih t (i + 1) best (by omega) (by omega) (by omega)) ⟨rfl, rfl⟩
        · rw [show rcF (vw M 137) i best = (i : Int) from if_pos (by omega)]
          exact Ok_of (ih t (i + 1) (i : Int) (by omega) (by omega) (by omega)) ⟨rfl, rfl⟩
/-- things in fog -/
theorem e_wet_15 {n T : Nat} {M : Mem} {u : US} (hn : 2000 ≤ n) (wf : WF 999 u) (e1 : vw M 22 = u) (e0 : vw M 0 = u) (lk : Lk M) (hT : rd M 0 7 = T) : ∀ k t (i : Nat) (v : Int), i + k = T → k < t →
    m_X5_wetThings_15 n t M v (i : Int) = some (frm (fun t s => if u 0 14 ≤ fogS u (u 5 t) then bOr s (bShl 1 t) else s) k i v, M) := by
  have b0 := sW (M := M) (w := 0) (H := 999) (by rw [e0]; exact wf)
  intro k
  induction k with
  | zero =>
    intro t i v hi ht
    cases t with
    | zero => omega
    | succ t =>
      refine Ok_eq ?_
      rw [m_X5_wetThings_15]
      repeat (first
          | with_reducible refine Ok_g (by first | assumption | omega) ?_
          | with_reducible refine Ok_lt ?_
          | with_reducible refine Ok_t (by first | assumption | omega) ?_
          | with_reducible refine Ok_f (by first | assumption | omega) ?_)
      exact Ok_ret ⟨rfl, rfl⟩
  | succ k ih =>
    intro t i v hi ht
    cases t with
    | zero => omega
    | succ t =>
      have p := tW (w := 0) (M := M) (H := 999) (by decide) (by rw [e0]; exact wf) (i := i) (by omega)
      simp only [Nat.reduceAdd, e0] at p
      refine Ok_eq ?_
      rw [m_X5_wetThings_15]
      simp only [frm, Int.toNat_natCast]
      repeat (first
          | with_reducible refine Ok_g (by first | assumption | omega) ?_
          | with_reducible refine Ok_lt ?_
          | with_reducible refine Ok_t (by first | assumption | omega) ?_
          | with_reducible refine Ok_f (by first | assumption | omega) ?_)
      refine Ok_be (e_isInFog (H := 999) hn (by rw [e1]; exact wf) lk p.2.2.1) ?_
      rw [e1, p.1.2.1]
      by_cases g : u 0 14 ≤ fogS u (rd M 5 i)
      · rw [if_pos g, if_pos g]
        repeat (first
            | with_reducible refine Ok_g (by first | assumption | omega) ?_
            | with_reducible refine Ok_lt ?_
            | with_reducible refine Ok_t (by first | assumption | omega) ?_
            | with_reducible refine Ok_f (by first | assumption | omega) ?_)
        exact Ok_of (ih t (i + 1) _ (by omega) (by omega)) ⟨rfl, rfl⟩
      · rw [if_neg g, if_neg g]
        repeat (first
            | with_reducible refine Ok_g (by first | assumption | omega) ?_
            | with_reducible refine Ok_lt ?_
            | with_reducible refine Ok_t (by first | assumption | omega) ?_
            | with_reducible refine Ok_f (by first | assumption | omega) ?_)
        exact Ok_of (ih t (i + 1) _ (by omega) (by omega)) ⟨rfl, rfl⟩
theorem r_wet_4 {n T : Nat} {u : US} (hn : 2000 ≤ n) (wf : WF 999 u) (hT : u 0 7 = T) : ∀ k t (i : Nat) (v : Int) M, i + k = T → k < t → vw M 137 = u → I32 v →
    Ok (m_X6_wet_4 n t M v (i : Int)) (fun r M' => r = frm (fun t s => if u 0 14 ≤ fogS u (u 5 t) then bOr s (bShl 1 t) else s) k i v ∧ KA M M') := by
  have b0 := wF wf
  intro k
  induction k with
  | zero =>
    intro t i v M hi ht hu hv
    cases t with
    | zero => omega
    | succ t =>
      have z : rd M 137 7 = T := by rw [← vw_s (w := 137) (by omega), hu]; exact hT
      rw [m_X6_wet_4]
      repeat (first
          | with_reducible refine Ok_g (by first | assumption | omega) ?_
          | with_reducible refine Ok_lt ?_
          | with_reducible refine Ok_t (by first | assumption | omega) ?_
          | with_reducible refine Ok_f (by first | assumption | omega) ?_)
      exact Ok_ret ⟨rfl, KA_refl M⟩
  | succ k ih =>
    intro t i v M hi ht hu hv
    cases t with
    | zero => omega
    | succ t =>
      have z : rd M 137 7 = T := by rw [← vw_s (w := 137) (by omega), hu]; exact hT
      have wm : WF 999 (vw M 137) := by rw [hu]; exact wf
      have p := tR wm (i := i) (by omega)
      simp only [hu] at p
      rw [m_X6_wet_4]
      simp only [frm, Int.toNat_natCast]
      unfold m_X6_wet_33
      repeat (first
          | with_reducible refine Ok_g (by first | assumption | omega) ?_
          | with_reducible refine Ok_lt ?_
          | with_reducible refine Ok_t (by first | assumption | omega) ?_
          | with_reducible refine Ok_f (by first | assumption | omega) ?_)
      refine Ok_bd (r_isFoggy hn wm (by decide) p.2.2.1) ?_
      rintro r M1 ⟨er, k1⟩
      have e1 : vw M1 137 = u := by rw [vwA k1, hu]
      rw [hu] at er
      subst er
      rw [p.1.2.1]
      by_cases g : u 0 14 ≤ fogS u (rd M 142 i)
      · rw [if_pos g, if_pos g]
        repeat (first
            | with_reducible refine Ok_g (by first | assumption | omega) ?_
            | with_reducible refine Ok_lt ?_
            | with_reducible refine Ok_t (by first | assumption | omega) ?_
            | with_reducible refine Ok_f (by first | assumption | omega) ?_)
        refine Ok_mono (ih t (i + 1) _ M1 (by omega) (by omega) e1 (i_rng _)) ?_
        rintro r M2 ⟨h1, h2⟩
        exact ⟨h1, KA_trans k1 h2⟩
      · rw [if_neg g, if_neg g, bOr0 hv]
        repeat (first
            | with_reducible refine Ok_g (by first | assumption | omega) ?_
            | with_reducible refine Ok_lt ?_
            | with_reducible refine Ok_t (by first | assumption | omega) ?_
            | with_reducible refine Ok_f (by first | assumption | omega) ?_)
        refine Ok_mono (ih t (i + 1) _ M1 (by omega) (by omega) e1 hv) ?_
        rintro r M2 ⟨h1, h2⟩
        exact ⟨h1, KA_trans k1 h2⟩
/-- the fullest cell -/
def nC (u : US) (c : Int) : Nat := cn (fun i => decide (u 10 i = c)) (u 0 12).toNat 0
theorem nC_le {u : US} (wf : WF 999 u) (c : Int) : nC u c ≤ 5 := by
  have := cn_le (fun i => decide (u 10 i = c)) (u 0 12).toNat 0
  have b := (wF wf).2.2.1
  unfold nC
  omega
def cwF (u : US) : Nat → Int × Nat → Int × Nat := fun c x => if x.2 < nC u c then ((c : Int), nC u c) else x
theorem e_crowd_7 {n : Nat} {M : Mem} (hn : 2000 ≤ n) (wf : WF 999 (vw M 0)) : ∀ k t (i : Nat) (x : Int × Nat), i + k = 24 → k < t → x.2 ≤ 5 → -9 ≤ x.1 ∧ x.1 ≤ 24 →
    Ok (m_X5_crowdedCell_7 n t M x.1 (x.2 : Int) (i : Int)) (fun r M' => r = (frm (cwF (vw M 0)) k i x).1 ∧ I32 r ∧ M' = M) := by
  have b0 := sW wf
  intro k
  induction k with
  | zero =>
    intro t i x hi ht hx hx1
    cases t with
    | zero => omega
    | succ t =>
      rw [m_X5_crowdedCell_7]
      repeat (first
          | with_reducible refine Ok_g (by first | assumption | omega) ?_
          | with_reducible refine Ok_lt ?_
          | with_reducible refine Ok_t (by first | assumption | omega) ?_
          | with_reducible refine Ok_f (by first | assumption | omega) ?_)
      exact Ok_ret ⟨rfl, by omega, rfl⟩
  | succ k ih =>
    intro t i x hi ht hx hx1
    cases t with
    | zero => omega
    | succ t =>
      have nb := nC_le wf (i : Int)
      rw [m_X5_crowdedCell_7]
      simp only [frm]
      repeat (first
          | with_reducible refine Ok_g (by first | assumption | omega) ?_
          | with_reducible refine Ok_lt ?_
          | with_reducible refine Ok_t (by first | assumption | omega) ?_
          | with_reducible refine Ok_f (by first | assumption | omega) ?_)
      obtain ⟨a1, a2, a3⟩ := at_N (vw M 0) 10 (N := (vw M 0 0 12).toNat) (by omega) (i : Int)
      refine Ok_be (e_peopleOn hn (by decide) wf (by omega)) ?_
      rw [a1]
      refine Ok_be (e_bitCount (by omega)) ?_
      rw [a3]
      show Ok (if I32 ((nC (vw M 0) (i : Int) : Nat) : Int) then _ else _) _
      repeat (first
          | with_reducible refine Ok_g (by first | assumption | omega) ?_
          | with_reducible refine Ok_lt ?_
          | with_reducible refine Ok_t (by first | assumption | omega) ?_
          | with_reducible refine Ok_f (by first | assumption | omega) ?_)
      refine Ok_if (fun g => ?_) (fun g => ?_)
      · rw [show cwF (vw M 0) i x = x from if_neg (by have : ((nC (vw M 0) (i : Int) : Nat) : Int) ≤ x.2 := g; omega)]
        exact ih t (i + 1) x (by omega) (by omega) hx hx1
      · rw [show cwF (vw M 0) i x = ((i : Int), nC (vw M 0) i) from if_pos (by have : ¬ ((nC (vw M 0) (i : Int) : Nat) : Int) ≤ x.2 := g; omega)]
        exact ih t (i + 1) ((i : Int), nC (vw M 0) i) (by omega) (by omega) nb (by show -9 ≤ (i : Int) ∧ (i : Int) ≤ 24; omega)
theorem r_crowd_14 {n : Nat} {M : Mem} (hn : 2000 ≤ n) (wf : WF 999 (vw M 137)) : ∀ k t (i : Nat) (best : Int), i + k = 24 → k < t → 0 ≤ best ∧ best ≤ 23 →
    m_X6_crowd_14 n t M best (i : Int) = some ((frm (cwF (vw M 137)) k i (best, nC (vw M 137) best)).1, M) := by
  have b0 := sW wf
  have ev : ∀ c : Int, I32 c → m_X6_setAt n M 147 (rd M 137 12) c = some (((atN (vw M 137) 10 (vw M 137 0 12).toNat c : Nat) : Int), M) := by
    intro c hc
    rw [r_setAt (k0 := 10) hn rfl (by decide) (by decide) (by decide) hc (by omega) (by show _ ≤ ((5 : Nat) : Int); omega) (by omega), b0.1.2.2.1, (at_N (vw M 137) 10 (N := (rd M 137 12).toNat) (by omega) c).1]
  have eb : ∀ c : Int, m_X6_bits n M ((atN (vw M 137) 10 (vw M 137 0 12).toNat c : Nat) : Int) = some (((nC (vw M 137) c : Nat) : Int), M) := by
    intro c
    have a := at_N (vw M 137) 10 (N := (vw M 137 0 12).toNat) (by omega) c
    rw [r_bits hn (by omega), a.2.2]
    rfl
  intro k
  induction k with
  | zero =>
    intro t i best hi ht hb
    cases t with
    | zero => omega
    | succ t =>
      refine Ok_eq ?_
      rw [m_X6_crowd_14]
      repeat (first
          | with_reducible refine Ok_g (by first | assumption | omega) ?_
          | with_reducible refine Ok_lt ?_
          | with_reducible refine Ok_t (by first | assumption | omega) ?_
          | with_reducible refine Ok_f (by first | assumption | omega) ?_)
      exact Ok_ret ⟨rfl, rfl⟩
  | succ k ih =>
    intro t i best hi ht hb
    cases t with
    | zero => omega
    | succ t =>
      have n1 := nC_le wf (i : Int)
      have n2 := nC_le wf best
      refine Ok_eq ?_
      rw [m_X6_crowd_14]
      simp only [frm]
      unfold m_X6_crowd_58
      repeat (first
          | with_reducible refine Ok_g (by first | assumption | omega) ?_
          | with_reducible refine Ok_lt ?_
          | with_reducible refine Ok_t (by first | assumption | omega) ?_
          | with_reducible refine Ok_f (by first | assumption | omega) ?_)
      refine Ok_be (ev _ (by omega)) ?_
      refine Ok_be (eb _) ?_
      refine Ok_be (ev _ (by omega)) ?_
      refine Ok_be (eb _) ?_
      repeat (first
          | with_reducible refine Ok_g (by first | assumption | omega) ?_
          | with_reducible refine Ok_lt ?_
          | with_reducible refine Ok_t (by first | assumption | omega) ?_
          | with_reducible refine Ok_f (by first | assumption | omega) ?_)
      refine Ok_if (fun g => ?_) (fun g => ?_)
      · rw [show cwF (vw M 137) i (best, nC (vw M 137) best) = (best, nC (vw M 137) best) from if_neg (by show ¬ nC (vw M 137) best < nC (vw M 137) i; omega)]
        exact Ok_of (ih t (i + 1) best (by omega) (by omega) hb) ⟨rfl, rfl⟩
      · rw [show cwF (vw M 137) i (best, nC (vw M 137) best) = ((i : Int), nC (vw M 137) i) from if_pos (by show nC (vw M 137) best < nC (vw M 137) i; omega)]
        exact Ok_of (ih t (i + 1) (i : Int) (by omega) (by omega) (by omega)) ⟨rfl, rfl⟩
/-- from nothing, and from the first cell -/
theorem cw_eq (u : US) : ∀ k i (x y : Int × Nat), x.2 = y.2 → (x = y ∨ ∃ c, i ≤ c ∧ c < i + k ∧ x.2 < nC u (c : Nat)) → (frm (cwF u) k i x).1 = (frm (cwF u) k i y).1
  | 0, i, x, y, h, h' => by
    rcases h' with rfl | ⟨c, h1, h2, _⟩
    · rfl
    · omega
  | k + 1, i, x, y, h, h' => by
    simp only [frm]
    by_cases g : x.2 < nC u (i : Nat)
    · rw [show cwF u i x = ((i : Int), nC u i) from if_pos g, show cwF u i y = ((i : Int), nC u i) from if_pos (by omega)]
    · rw [show cwF u i x = x from if_neg g, show cwF u i y = y from if_neg (by omega)]
      refine cw_eq u k (i + 1) x y h (h'.imp id ?_)
      rintro ⟨c, h1, h2, h3⟩
      by_cases e : c = i
      · subst e; omega
      · exact ⟨c, by omega, by omega, h3⟩
theorem cw_none (u : US) (h : ∀ c : Int, nC u c = 0) : ∀ k i (x : Int × Nat), frm (cwF u) k i x = x
  | 0, _, _ => rfl
  | k + 1, i, x => by
    simp only [frm]
    rw [show cwF u i x = x from if_neg (by rw [h]; omega), cw_none u h k (i + 1) x]
theorem cw_both {u : US} (wf : WF 999 u) (hp : 0 < u 0 12) : (frm (cwF u) 24 0 (-9, 0)).1 = (frm (cwF u) 23 1 (0, nC u 0)).1 := by
  have b := (wFp wf 0).2.2.2
  have n0 : 0 < nC u (u 10 0) := by
    unfold nC
    obtain ⟨k, hk⟩ : ∃ k, (u 0 12).toNat = k + 1 := ⟨(u 0 12).toNat - 1, by omega⟩
    rw [hk]
    simp only [cn, decide_true]
    simp
    omega
  have e : frm (cwF u) 24 0 (-9, 0) = frm (cwF u) 23 1 (cwF u 0 (-9, 0)) := rfl
  rw [e]
  by_cases z : nC u ((0 : Nat) : Int) = 0
  · rw [show cwF u 0 (-9, 0) = (-9, 0) from if_neg (by show ¬ 0 < nC u ((0 : Nat) : Int); omega)]
    refine cw_eq u 23 1 _ _ ?_ (.inr ⟨(u 10 0).toNat, ?_, by omega, ?_⟩)
    · exact z.symm
    · by_cases q : u 10 0 = 0
      · rw [q] at n0
        have : nC u ((0 : Nat) : Int) = nC u 0 := rfl
        omega
      · omega
    · show 0 < nC u (((u 10 0).toNat : Nat) : Int)
      rw [show (((u 10 0).toNat : Nat) : Int) = u 10 0 by omega]
      exact n0
  · rw [show cwF u 0 (-9, 0) = (((0 : Nat) : Int), nC u ((0 : Nat) : Int)) from if_pos (by show 0 < nC u ((0 : Nat) : Int); omega)]
    rfl
theorem q_sight {n : Nat} {M : Mem} {a : Int} (hn : 2000 ≤ n) (s : Sim M) (ha : I32 a) : Agr (m_X5_sight n M a) (fun M1 => m_X6_sight n M1 a) := by
  obtain ⟨wf0, vv0, rf0⟩ := sim_rf s (M1 := M) (fun _ _ _ => rfl)
  have b0 := sW s.2.1
  unfold Agr m_X5_sight
  repeat (first
      | with_reducible refine Ok_g (by first | assumption | omega) ?_
      | with_reducible refine Ok_lt ?_
      | with_reducible refine Ok_t (by first | assumption | omega) ?_
      | with_reducible refine Ok_f (by first | assumption | omega) ?_)
  refine Ok_if (fun g0 => ?_) (fun g0 => ?_)
  · unfold m_X5_richest
    refine Ok_bd (e_richest_7 (P := (rd M 0 12).toNat) hn s.2.1 (by omega) (rd M 0 12).toNat n 0 (-9) (-1) (by omega) (by omega) (by omega)) ?_
    rintro r M1 ⟨er, ir, rfl⟩
    refine Ok_ret ⟨ir, ?_⟩
    unfold m_X6_sight m_X6_richest
    repeat (first
        | with_reducible refine Ok_g (by first | assumption | omega) ?_
        | with_reducible refine Ok_lt ?_
        | with_reducible refine Ok_t (by first | assumption | omega) ?_
        | with_reducible refine Ok_f (by first | assumption | omega) ?_)
    refine Ok_be (r_richest_5 (P := (rd M1 0 12).toNat) hn wf0 (by omega) (rd M1 0 12).toNat n 0 (-9) (by omega) (by omega) (by omega)) (Ok_ret ⟨?_, s⟩)
    rw [er, vv0]
  refine Ok_if (fun g1 => ?_) (fun g1 => ?_)
  · obtain ⟨m, em, hm⟩ := noS_b s.2.1
    refine Ok_be (e_nobodys hn (by decide) s.2.1) (Ok_ret ⟨by omega, ?_⟩)
    unfold m_X6_sight
    repeat (first
        | with_reducible refine Ok_g (by first | assumption | omega) ?_
        | with_reducible refine Ok_lt ?_
        | with_reducible refine Ok_t (by first | assumption | omega) ?_
        | with_reducible refine Ok_f (by first | assumption | omega) ?_)
    exact Ok_be (r_dropped hn wf0) (Ok_ret ⟨by rw [vv0], s⟩)
  refine Ok_if (fun g2 => ?_) (fun g2 => ?_)
  · have w : Ok (m_X5_wetThings n M) (fun r M1 => r = frm (fun t s => if vw M 0 0 14 ≤ fogS (vw M 0) (vw M 0 5 t) then bOr s (bShl 1 t) else s) (rd M 0 7).toNat 0 0 ∧ SkyOk M1 ∧ KM M M1) := by
      unfold m_X5_wetThings
      refine Ok_bd (e_begin hn s.2.2.1 s.2.1 (by decide)) ?_
      rintro _ M1 ⟨v1, k1, l1, f1⟩
      have km : KM M M1 := fun q i hq => f1 q i (by omega)
      exact Ok_of (e_wet_15 (T := (rd M 0 7).toNat) hn s.2.1 v1 (vw0_KM km) l1 (by rw [rd_of (km _ _ (by omega))]; omega) _ n 0 0 (by omega) (by omega)) ⟨rfl, k1, km⟩
    refine Ok_bd w ?_
    rintro r M1 ⟨er, k1, km⟩
    have s1 := sim_KM s k1 km
    obtain ⟨wf2, vv2, rf2⟩ := sim_rf s1 (M1 := M1) (fun _ _ _ => rfl)
    have e0 := vw0_KM km
    have ir : I32 r := by
      rw [er, frm_set (by omega)]
      have l := bs_lt (fun t => decide (vw M 0 0 14 ≤ fogS (vw M 0) (vw M 0 5 t))) (rd M 0 7).toNat 0
      have : 2 ^ (rd M 0 7).toNat ≤ 2 ^ 8 := Nat.pow_le_pow_right (by decide) (by omega)
      omega
    refine Ok_ret ⟨ir, ?_⟩
    unfold m_X6_sight m_X6_wet
    repeat (first
        | with_reducible refine Ok_g (by first | assumption | omega) ?_
        | with_reducible refine Ok_lt ?_
        | with_reducible refine Ok_t (by first | assumption | omega) ?_
        | with_reducible refine Ok_f (by first | assumption | omega) ?_)
    refine Ok_bd (r_wet_4 (u := vw M 0) (T := (rd M 0 7).toNat) hn s.2.1 (by omega) (rd M 0 7).toNat n 0 0 M1 (by omega) (by omega) (by rw [vv2, e0]) (by decide)) ?_
    rintro r' M2 ⟨er', k2⟩
    exact Ok_ret ⟨by rw [er', er], sim_KR s1 (fun q i _ a b _ _ _ => k2 q i a b) (vwA k2)⟩
  refine Ok_if (fun g3 => ?_) (fun g3 => ?_)
  · unfold m_X5_crowdedCell
    refine Ok_bd (e_crowd_7 hn s.2.1 24 n 0 (-9, 0) (by omega) (by omega) (by decide) (by decide)) ?_
    rintro r M1 ⟨er, ir, rfl⟩
    refine Ok_ret ⟨ir, ?_⟩
    unfold m_X6_sight m_X6_crowd
    repeat (first
        | with_reducible refine Ok_g (by first | assumption | omega) ?_
        | with_reducible refine Ok_lt ?_
        | with_reducible refine Ok_t (by first | assumption | omega) ?_
        | with_reducible refine Ok_f (by first | assumption | omega) ?_)
    by_cases hp : rd M1 137 12 = 0
    · rw [if_pos hp]
      refine Ok_be rfl (Ok_ret ⟨?_, s⟩)
      have : ∀ c : Int, nC (vw M1 0) c = 0 := by
        intro c
        unfold nC
        rw [show (vw M1 0 0 12).toNat = 0 by omega]
        rfl
      rw [er, cw_none _ this]
    · rw [if_neg hp]
      refine Ok_be (r_crowd_14 hn wf0 23 n 1 0 (by omega) (by omega) (by omega)) (Ok_ret ⟨?_, s⟩)
      rw [er, vv0, cw_both s.2.1 (by omega)]
  refine Ok_if (fun g4 => ?_) (fun g4 => ?_)
  · refine Ok_bd (q_alike hn s) ?_
    rintro r M1 ⟨ir, h⟩
    refine Ok_ret ⟨ir, ?_⟩
    unfold m_X6_sight
    repeat (first
        | with_reducible refine Ok_g (by first | assumption | omega) ?_
        | with_reducible refine Ok_lt ?_
        | with_reducible refine Ok_t (by first | assumption | omega) ?_
        | with_reducible refine Ok_f (by first | assumption | omega) ?_)
    refine Ok_bd h ?_
    rintro r' M2 ⟨e, s2⟩
    exact Ok_ret ⟨e, s2⟩
  refine Ok_be (e_refuse 2 (by omega) (by decide) (by decide)) (Ok_ret ⟨by decide, ?_⟩)
  obtain ⟨wf1, rf1, rf2⟩ := sim_rf s (M1 := bump 134 M 2) (fun q i h => bump_ne (by omega))
  unfold m_X6_sight
  repeat (first
      | with_reducible refine Ok_g (by first | assumption | omega) ?_
      | with_reducible refine Ok_lt ?_
      | with_reducible refine Ok_t (by first | assumption | omega) ?_
      | with_reducible refine Ok_f (by first | assumption | omega) ?_
      | with_reducible refine Ok_be (e_hasF (by decide) (by assumption)) ?_
      | with_reducible refine Ok_be (e_hasT (by decide) (by assumption)) ?_
      | with_reducible refine Ok_be (e_hasP (by decide) (by assumption)) ?_
      | with_reducible refine Ok_be (e_isCell (by first | assumption | omega)) ?_
      | with_reducible refine Ok_be (e_oor (by assumption) (by decide) (by decide)) ?_
      | with_reducible refine Ok_be (r_isIn (by first | assumption | omega) (by first | decide | omega) (by first | decide | omega)) ?_
      | with_reducible refine Ok_be (r_bound (by assumption) (by decide) (by decide)) ?_
      | with_reducible refine Ok_be (r_isF (by assumption) (by assumption)) ?_
      | with_reducible refine Ok_be (r_isT (by assumption) (by assumption)) ?_
      | with_reducible refine Ok_be (r_isP (by assumption) (by assumption)) ?_
      | with_reducible refine Ok_be (r_isCell (by first | assumption | omega)) ?_)
  exact Ok_be (r_no 2 (by omega) (by decide) (by decide)) (Ok_ret ⟨rfl, sim_bump s 2⟩)
