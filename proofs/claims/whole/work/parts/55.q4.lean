/-! the first who has more, where to stand, where a kettle goes -/
def noN (u : US) : Nat := bs (fun t => decide (u 6 t < 0)) (u 0 7).toNat 0
def ltS (m : Nat) : Nat → Nat → Int
  | 0, _ => -9
  | k + 1, i => if m.testBit i = true then (i : Int) else ltS m k (i + 1)
theorem ltS_b (m : Nat) : ∀ k i, -9 ≤ ltS m k i ∧ ltS m k i ≤ i + k
  | 0, i => by
    show -9 ≤ (-9 : Int) ∧ (-9 : Int) ≤ _
    omega
  | k + 1, i => by
    have := ltS_b m k (i + 1)
    simp only [ltS]
    split <;> omega
theorem ltS_hi {m T : Nat} (h : m < 2 ^ T) : ∀ k i, T ≤ i → ltS m k i = -9
  | 0, _, _ => rfl
  | k + 1, i, hi => by
    have : m.testBit i = false := Nat.testBit_lt_two_pow (Nat.lt_of_lt_of_le h (Nat.pow_le_pow_right (by decide) hi))
    simp only [ltS]
    rw [this, ltS_hi h k (i + 1) (by omega)]
    rfl
theorem ltS_T {m T : Nat} (h : m < 2 ^ T) : ∀ k j i, i + k = T → ltS m (k + j) i = ltS m k i
  | 0, j, i, hi => by rw [ltS_hi h _ i (by omega)]; rfl
  | k + 1, j, i, hi => by
    rw [show k + 1 + j = (k + j) + 1 by omega]
    simp only [ltS]
    rw [ltS_T h k j (i + 1) (by omega)]
def frstN (w : Nat) : Nat → US → Nat
  | 0, _ => 0
  | k + 1, u => if w ^^^ (w &&& noN (hourS u)) = 0 then frstN w k (hourS u) else w ^^^ (w &&& noN (hourS u))
theorem but_lt {w x T : Nat} (h : w < 2 ^ T) : w ^^^ (w &&& x) < 2 ^ T := Nat.xor_lt_two_pow h (Nat.lt_of_le_of_lt Nat.and_le_left h)
theorem frstN_lt {w T : Nat} (h : w < 2 ^ T) : ∀ k u, frstN w k u < 2 ^ T
  | 0, _ => Nat.two_pow_pos T
  | k + 1, u => by
    simp only [frstN]
    split
    · exact frstN_lt h k _
    · exact but_lt h
theorem noN_b {H : Int} {u : US} (wf : WF H u) : noS u = ((noN u : Nat) : Int) ∧ noN u < 2 ^ (u 0 7).toNat ∧ noN u < 256 := by
  have b := (wF wf).2.1
  have l := bs_lt (fun t => decide (u 6 t < 0)) (u 0 7).toNat 0
  have : 2 ^ (u 0 7).toNat ≤ 2 ^ 8 := Nat.pow_le_pow_right (by decide) (by omega)
  exact ⟨noS_bs wf, l, Nat.lt_of_lt_of_le l this⟩
theorem e_least_2 {n : Nat} {M : Mem} {m : Nat} (hm : m < 256) : ∀ k t (i : Nat), i + k = 8 → k < t → m_X5_leastThing_2 n t M (m : Int) (i : Int) = some (ltS m k i, M) := by
  intro k
  induction k with
  | zero =>
    intro t i hi ht
    cases t with
    | zero => omega
    | succ t =>
      refine Ok_eq ?_
      rw [m_X5_leastThing_2]
      repeat (first
          | with_reducible refine Ok_g (by first | assumption | omega) ?_
          | with_reducible refine Ok_lt ?_
          | with_reducible refine Ok_t (by first | assumption | omega) ?_
          | with_reducible refine Ok_f (by first | assumption | omega) ?_)
      exact Ok_ret ⟨rfl, rfl⟩
  | succ k ih =>
    intro t i hi ht
    cases t with
    | zero => omega
    | succ t =>
      have p := pow31 (i := i) (by omega)
      have pp := Nat.two_pow_pos i
      refine Ok_eq ?_
      rw [m_X5_leastThing_2, bAnd_pow (by omega) (by omega)]
      simp only [ltS]
      by_cases g : m.testBit i = true
      · simp only [if_pos g]
        repeat (first
            | with_reducible refine Ok_g (by first | assumption | omega) ?_
            | with_reducible refine Ok_lt ?_
            | with_reducible refine Ok_t (by first | assumption | omega) ?_
            | with_reducible refine Ok_f (by first | assumption | omega) ?_)
        exact Ok_ret ⟨rfl, rfl⟩
      · simp only [if_neg g]
        repeat (first
            | with_reducible refine Ok_g (by first | assumption | omega) ?_
            | with_reducible refine Ok_lt ?_
            | with_reducible refine Ok_t (by first | assumption | omega) ?_
            | with_reducible refine Ok_f (by first | assumption | omega) ?_)
        exact Ok_of (ih t (i + 1) (by omega) (by omega)) ⟨rfl, rfl⟩
theorem e_first_21 {n w : Nat} (hn : 2000 ≤ n) (hw : w < 256) : ∀ k t (i : Nat) (H : Int) M, i + k = 60 → k < t → H + k ≤ 100000 → SkyOk M → WF H (vw M 22) →
    Ok (m_X5_first_21 n t M (w : Int) (i : Int)) (fun r M' => r = ltS (frstN w k (vw M 22)) 8 0 ∧ SkyOk M' ∧ KM M M') := by
  intro k
  induction k with
  | zero =>
    intro t i H M hi ht hH sk wf
    cases t with
    | zero => omega
    | succ t =>
      rw [m_X5_first_21]
      repeat (first
          | with_reducible refine Ok_g (by first | assumption | omega) ?_
          | with_reducible refine Ok_lt ?_
          | with_reducible refine Ok_t (by first | assumption | omega) ?_
          | with_reducible refine Ok_f (by first | assumption | omega) ?_)
      exact Ok_ret ⟨by show (-9 : Int) = ltS 0 8 0; decide, sk, KM_refl M⟩
  | succ k ih =>
    intro t i H M hi ht hH sk wf
    cases t with
    | zero => omega
    | succ t =>
      rw [m_X5_first_21]
      simp only [frstN]
      repeat (first
          | with_reducible refine Ok_g (by first | assumption | omega) ?_
          | with_reducible refine Ok_lt ?_
          | with_reducible refine Ok_t (by first | assumption | omega) ?_
          | with_reducible refine Ok_f (by first | assumption | omega) ?_)
      refine Ok_bd (e_goOn1 hn (by omega) sk wf) ?_
      rintro _ M1 ⟨v1, w1, k1, l1, km⟩
      obtain ⟨e1, _, e3⟩ := noN_b w1
      refine Ok_be (e_nobodys hn (by decide) w1) ?_
      rw [e1, nBut (by omega) (by omega), v1]
      have lt2 : w ^^^ (w &&& noN (hourS (vw M 22))) < 2 ^ 8 := but_lt hw
      by_cases g : w ^^^ (w &&& noN (hourS (vw M 22))) = 0
      · rw [if_pos g]
        repeat (first
            | with_reducible refine Ok_g (by first | assumption | omega) ?_
            | with_reducible refine Ok_lt ?_
            | with_reducible refine Ok_t (by first | assumption | omega) ?_
            | with_reducible refine Ok_f (by first | assumption | omega) ?_)
        refine Ok_mono (ih t (i + 1) (H + 1) M1 (by omega) (by omega) (by omega) k1 w1) ?_
        rintro r M2 ⟨h1, h2, h3⟩
        exact ⟨by rw [h1, v1], h2, KM_trans km h3⟩
      · rw [if_neg g]
        repeat (first
            | with_reducible refine Ok_g (by first | assumption | omega) ?_
            | with_reducible refine Ok_lt ?_
            | with_reducible refine Ok_t (by first | assumption | omega) ?_
            | with_reducible refine Ok_f (by first | assumption | omega) ?_)
        refine Ok_be (e_least_2 (by omega) 8 n 0 (by decide) (by omega)) (Ok_ret ⟨rfl, k1, km⟩)
theorem r_first_48 {n : Nat} {M : Mem} {m T : Nat} (hm : m < 256) (hT : rd M 137 7 = T) (hT8 : T ≤ 8) : ∀ k t (i : Nat), i + k = T → k < t → m_X6_first_48 n t M (m : Int) (i : Int) = some (ltS m k i, M) := by
  intro k
  induction k with
  | zero =>
    intro t i hi ht
    cases t with
    | zero => omega
    | succ t =>
      refine Ok_eq ?_
      rw [m_X6_first_48]
      repeat (first
          | with_reducible refine Ok_g (by first | assumption | omega) ?_
          | with_reducible refine Ok_lt ?_
          | with_reducible refine Ok_t (by first | assumption | omega) ?_
          | with_reducible refine Ok_f (by first | assumption | omega) ?_)
      exact Ok_ret ⟨rfl, rfl⟩
  | succ k ih =>
    intro t i hi ht
    cases t with
    | zero => omega
    | succ t =>
      refine Ok_eq ?_
      rw [m_X6_first_48]
      simp only [ltS]
      repeat (first
          | with_reducible refine Ok_g (by first | assumption | omega) ?_
          | with_reducible refine Ok_lt ?_
          | with_reducible refine Ok_t (by first | assumption | omega) ?_
          | with_reducible refine Ok_f (by first | assumption | omega) ?_)
      refine Ok_be (r_has (by omega) (by omega)) ?_
      by_cases g : m.testBit i = true
      · rw [if_pos g, if_pos g]
        repeat (first
            | with_reducible refine Ok_g (by first | assumption | omega) ?_
            | with_reducible refine Ok_lt ?_
            | with_reducible refine Ok_t (by first | assumption | omega) ?_
            | with_reducible refine Ok_f (by first | assumption | omega) ?_)
        exact Ok_ret ⟨rfl, rfl⟩
      · rw [if_neg g, if_neg g]
        repeat (first
            | with_reducible refine Ok_g (by first | assumption | omega) ?_
            | with_reducible refine Ok_lt ?_
            | with_reducible refine Ok_t (by first | assumption | omega) ?_
            | with_reducible refine Ok_f (by first | assumption | omega) ?_)
        exact Ok_of (ih t (i + 1) (by omega) (by omega)) ⟨rfl, rfl⟩
theorem r_first_42 {n m T : Nat} {M0 M1 M : Mem} (hn : 2000 ≤ n) (s : Sim M0) (md : Md M0 M1) (kx : KX M1 M) (hT : rd M0 0 7 = T) (hm : m < 256) : Ok (m_X6_first_42 n M (m : Int)) (fun r M' => r = ltS m T 0 ∧ Sim M') := by
  unfold m_X6_first_42
  refine Ok_bd (r_forgets hn s md kx) ?_
  rintro _ M3 ⟨s3, v3, _⟩
  obtain ⟨wf2, vv2, rf2⟩ := sim_rf s3 (M1 := M3) (fun _ _ _ => rfl)
  have e7 : rd M3 137 7 = T := by
    have := congrFun (congrFun (v3.trans s.1) 0) 7
    rw [vw_s (by omega), vw_s (by omega)] at this
    omega
  exact Ok_of (r_first_48 hm e7 (by omega) T n 0 (by omega) (by omega)) ⟨rfl, s3⟩
theorem r_first_13 {n w T : Nat} {M0 M1 : Mem} (hn : 2000 ≤ n) (s : Sim M0) (md : Md M0 M1) (hw : w < 256) (hT : rd M0 0 7 = T) : ∀ k t (i : Nat) (H : Int) M, i + k = 60 → k + 1 < t → H + k ≤ 100000 → WF H (vw M 137) → KX M1 M →
    Ok (m_X6_first_13 n t M (w : Int) 0 (i : Int)) (fun r M' => r = ltS (frstN w k (vw M 137)) T 0 ∧ Sim M') := by
  intro k
  induction k with
  | zero =>
    intro t i H M hi ht hH wf kx
    cases t with
    | zero => omega
    | succ t =>
      rw [m_X6_first_13]
      repeat (first
          | with_reducible refine Ok_g (by first | assumption | omega) ?_
          | with_reducible refine Ok_lt ?_
          | with_reducible refine Ok_t (by first | assumption | omega) ?_
          | with_reducible refine Ok_f (by first | assumption | omega) ?_)
      exact r_first_42 (m := 0) hn s md kx hT (by decide)
  | succ k ih =>
    intro t i H M hi ht hH wf kx
    cases t with
    | zero => omega
    | succ t =>
      rw [m_X6_first_13, frstN]
      repeat (first
          | with_reducible refine Ok_g (by first | assumption | omega) ?_
          | with_reducible refine Ok_lt ?_
          | with_reducible refine Ok_t (by first | assumption | omega) ?_
          | with_reducible refine Ok_f (by first | assumption | omega) ?_)
      refine Ok_bd (r_goesHour hn wf (by omega)) ?_
      rintro _ M2 ⟨v2, k2⟩
      have w2 : WF (H + 1) (vw M2 137) := by rw [v2]; exact hourS_wf wf
      obtain ⟨e1, _, e3⟩ := noN_b w2
      refine Ok_be (r_dropped hn w2) ?_
      rw [e1, nBut (by omega) (by omega), v2]
      have kx2 := KX_trans kx (KX_G k2)
      have lt2 : w ^^^ (w &&& noN (hourS (vw M 137))) < 2 ^ 8 := but_lt hw
      by_cases g : w ^^^ (w &&& noN (hourS (vw M 137))) = 0
      · rw [if_pos g, g]
        repeat (first
            | with_reducible refine Ok_g (by first | assumption | omega) ?_
            | with_reducible refine Ok_lt ?_
            | with_reducible refine Ok_t (by first | assumption | omega) ?_
            | with_reducible refine Ok_f (by first | assumption | omega) ?_)
        refine Ok_mono (ih t (i + 1) (H + 1) M2 (by omega) (by omega) (by omega) w2 kx2) ?_
        rintro r M3 ⟨h1, h2⟩
        exact ⟨by rw [h1, v2], h2⟩
      · rw [if_neg g]
        repeat (first
            | with_reducible refine Ok_g (by first | assumption | omega) ?_
            | with_reducible refine Ok_lt ?_
            | with_reducible refine Ok_t (by first | assumption | omega) ?_
            | with_reducible refine Ok_f (by first | assumption | omega) ?_)
        cases t with
        | zero => omega
        | succ t =>
          rw [m_X6_first_13]
          by_cases c : 60 ≤ (i : Int) + 1
          · repeat (first
                | with_reducible refine Ok_g (by first | assumption | omega) ?_
                | with_reducible refine Ok_lt ?_
                | with_reducible refine Ok_t (by first | assumption | omega) ?_
                | with_reducible refine Ok_f (by first | assumption | omega) ?_)
            exact r_first_42 hn s md kx2 hT (by omega)
          · repeat (first
                | with_reducible refine Ok_g (by first | assumption | omega) ?_
                | with_reducible refine Ok_lt ?_
                | with_reducible refine Ok_t (by first | assumption | omega) ?_
                | with_reducible refine Ok_f (by first | assumption | omega) ?_)
            exact r_first_42 hn s md kx2 hT (by omega)
theorem q_first {n : Nat} {M : Mem} (hn : 2000 ≤ n) (s : Sim M) : Agr (m_X5_first n M) (fun M1 => m_X6_first n M1) := by
  unfold Agr m_X5_first
  obtain ⟨e1, e2, e3⟩ := noN_b s.2.1
  have b := sW s.2.1
  refine Ok_be (e_nobodys hn (by decide) s.2.1) ?_
  rw [e1]
  refine Ok_bd (e_begin hn s.2.2.1 s.2.1 (by decide)) ?_
  rintro _ M1 ⟨v1, k1, l1, f1⟩
  have km : KM M M1 := fun q i hq => f1 q i (by omega)
  refine Ok_mono (e_first_21 hn e3 60 n 0 999 M1 (by omega) (by omega) (by omega) k1 (by rw [v1]; exact s.2.1)) ?_
  rintro r M2 ⟨er, k2, km2⟩
  have km3 := KM_trans km km2
  have s2 := sim_KM s k2 km3
  have bb := ltS_b (frstN (noN (vw M 0)) 60 (vw M1 22)) 8 0
  refine ⟨by rw [er]; omega, ?_⟩
  obtain ⟨wf2, vv2, rf2⟩ := sim_rf s2 (M1 := M2) (fun _ _ _ => rfl)
  have z7 : rd M2 0 7 = rd M 0 7 := rd_of (km3 _ _ (by omega))
  unfold m_X6_first
  refine Ok_be (r_dropped hn wf2) ?_
  rw [vv2, vw0_KM km3, e1]
  refine Ok_bd (r_minds hn s2) ?_
  rintro _ M3 ⟨v3, md, _⟩
  refine Ok_mono (r_first_13 (T := (rd M 0 7).toNat) hn s2 md e3 (by omega) 60 n 0 999 M3 (by omega) (by omega) (by omega) (by rw [v3, s2.1]; exact s2.2.1) (KX_refl M3)) ?_
  rintro r' M4 ⟨e4, s4⟩
  refine ⟨?_, s4⟩
  rw [e4, er, v3, vv2, vw0_KM km3, v1]
  have l := frstN_lt (w := noN (vw M 0)) (T := (rd M 0 7).toNat) (by rw [b.1.2.1] at e2; exact e2) 60 (vw M 0)
  have := ltS_T l (rd M 0 7).toNat (8 - (rd M 0 7).toNat) 0 (by omega)
  rw [show (rd M 0 7).toNat + (8 - (rd M 0 7).toNat) = 8 by omega] at this
  exact this.symm
/-- one stands there for some hours: what is his then -/
def stV (u : US) (p N : Nat) (c : Nat) : Int := worthsS (hoursS N (uset u 10 p c)) (p : Int)
def stF (u : US) (p N : Nat) : Nat → Int × Int → Int × Int := fun c x => if x.2 < stV u p N c then ((c : Int), stV u p N c) else x
theorem e_stand_63 {n p N : Nat} {c3 : Int} {M0 : Mem} (hn : 2000 ≤ n) (hp : p < 5) (hN : N ≤ 30) (h3 : I32 c3) (wf0 : WF 999 (vw M0 0)) : ∀ k t (i : Nat) (x : Int × Int) M, i + k = 24 → k < t → SkyOk M → KM M0 M → -9 ≤ x.2 ∧ x.2 ≤ 72 → -9 ≤ x.1 ∧ x.1 ≤ 24 →
    Ok (m_X5_stand_63 n t M (p : Int) (N : Int) c3 x.1 x.2 (i : Int)) (fun r M' => r = (if c3 = 0 then (frm (stF (vw M0 0) p N) k i x).1 else (frm (stF (vw M0 0) p N) k i x).2) ∧ I32 r ∧ SkyOk M' ∧ KM M0 M') := by
  intro k
  induction k with
  | zero =>
    intro t i x M hi ht sk km hx hx1
    cases t with
    | zero => omega
    | succ t =>
      rw [m_X5_stand_63]
      repeat (first
          | with_reducible refine Ok_g (by first | assumption | omega) ?_
          | with_reducible refine Ok_lt ?_
          | with_reducible refine Ok_t (by first | assumption | omega) ?_
          | with_reducible refine Ok_f (by first | assumption | omega) ?_)
      refine Ok_if (fun g => Ok_ret ⟨?_, by omega, sk, km⟩) (fun g => Ok_ret ⟨?_, by omega, sk, km⟩)
      · rw [if_pos g]; rfl
      · rw [if_neg g]; rfl
  | succ k ih =>
    intro t i x M hi ht sk km hx hx1
    cases t with
    | zero => omega
    | succ t =>
      have e0 := vw0_KM km
      have wM : WF 999 (vw M 0) := by rw [e0]; exact wf0
      rw [m_X5_stand_63]
      repeat (first
          | with_reducible refine Ok_g (by first | assumption | omega) ?_
          | with_reducible refine Ok_lt ?_
          | with_reducible refine Ok_t (by first | assumption | omega) ?_
          | with_reducible refine Ok_f (by first | assumption | omega) ?_)
      refine Ok_bd (e_begin hn sk wM (by decide)) ?_
      rintro _ M1 ⟨v1, k1, l1, f1⟩
      repeat (first
          | with_reducible refine Ok_g (by first | assumption | omega) ?_
          | with_reducible refine Ok_lt ?_
          | with_reducible refine Ok_wr ?_
          | with_reducible refine Ok_t (by first | assumption | omega) ?_
          | with_reducible refine Ok_f (by first | assumption | omega) ?_)
      simp only [Int.toNat_natCast]
      have e2 : vw (mup M1 32 p (i : Int)) 22 = uset (vw M0 0) 10 p (i : Int) := by
        rw [← e0, ← v1]
        exact vw_set (w := 22) (k := 10) (by omega) (by decide) (by decide) (by decide) (show p < 5 by omega)
      have w2 : WF 999 (vw (mup M1 32 p (i : Int)) 22) := by
        rw [e2]
        exact WF_set wf0 10 p (by show (0 : Int) ≤ _; omega) (by show _ ≤ (23 : Int); omega)
      refine Ok_bd (e_goOn (N := (N : Int)) hn (by omega) (by omega) (SkyOk_keep k1 (fun q i _ _ => mup_n _ (by omega))) w2) ?_
      rintro _ M2 ⟨v2, k2, l2, f2⟩
      rw [Int.toNat_natCast, e2] at v2
      have w3 : WF 1200 (vw M2 22) := by
        rw [v2]
        exact WF_le (hoursS_wf N 0 _ (by rw [← e2]; exact w2)) (by omega)
      have wb := worthsS_b w3 (p : Int)
      refine Ok_be (e_worthsOf hn (by decide) w3 (by omega)) ?_
      have kmm : KM M0 M2 := fun q j hq => by
        rw [f2 q j (by omega) (by omega), mup_n _ (by omega), f1 q j (by omega), km q j hq]
      have ev : worthsS (vw M2 22) (p : Int) = stV (vw M0 0) p N i := by rw [v2]; rfl
      rw [ev] at wb ⊢
      repeat (first
          | with_reducible refine Ok_g (by first | assumption | omega) ?_
          | with_reducible refine Ok_lt ?_
          | with_reducible refine Ok_t (by first | assumption | omega) ?_
          | with_reducible refine Ok_f (by first | assumption | omega) ?_)
      refine Ok_if (fun g => ?_) (fun g => ?_)
      · refine Ok_mono (ih t (i + 1) x M2 (by omega) (by omega) k2 kmm hx hx1) ?_
        rintro r M' ⟨h1, h2⟩
        refine ⟨?_, h2⟩
        rw [h1]
        simp only [frm]
        rw [show stF (vw M0 0) p N i x = x from if_neg (by omega)]
      · refine Ok_mono (ih t (i + 1) ((i : Int), stV (vw M0 0) p N i) M2 (by omega) (by omega) k2 kmm (by show -9 ≤ stV (vw M0 0) p N i ∧ stV (vw M0 0) p N i ≤ 72; omega) (by show -9 ≤ (i : Int) ∧ (i : Int) ≤ 24; omega)) ?_
        rintro r M' ⟨h1, h2⟩
        refine ⟨?_, h2⟩
        rw [h1]
        simp only [frm]
        rw [show stF (vw M0 0) p N i x = ((i : Int), stV (vw M0 0) p N i) from if_pos (by omega)]
theorem r_stand_62 {n p N : Nat} {c3 : Int} {u : US} (hn : 2000 ≤ n) (hp : p < 5) (hN : N ≤ 30) (h3 : I32 c3) (wu : WF 999 u) : ∀ k t (i : Nat) (x : Int × Int) M, i + k = 24 → k < t → Sim M → vw M 0 = u → -9 ≤ x.2 ∧ x.2 ≤ 72 → -9 ≤ x.1 ∧ x.1 ≤ 24 →
    Ok (m_X6_stand_62 n t M (p : Int) (N : Int) c3 x.1 x.2 (i : Int)) (fun r M' => r = (if c3 = 0 then (frm (stF u p N) k i x).1 else (frm (stF u p N) k i x).2) ∧ Sim M') := by
  intro k
  induction k with
  | zero =>
    intro t i x M hi ht s hu hx hx1
    cases t with
    | zero => omega
    | succ t =>
      rw [m_X6_stand_62]
      repeat (first
          | with_reducible refine Ok_g (by first | assumption | omega) ?_
          | with_reducible refine Ok_lt ?_
          | with_reducible refine Ok_t (by first | assumption | omega) ?_
          | with_reducible refine Ok_f (by first | assumption | omega) ?_)
      refine Ok_if (fun g => Ok_ret ⟨?_, s⟩) (fun g => Ok_ret ⟨?_, s⟩)
      · rw [if_pos g]; rfl
      · rw [if_neg g]; rfl
  | succ k ih =>
    intro t i x M hi ht s hu hx hx1
    cases t with
    | zero => omega
    | succ t =>
      rw [m_X6_stand_62]
      repeat (first
          | with_reducible refine Ok_g (by first | assumption | omega) ?_
          | with_reducible refine Ok_lt ?_
          | with_reducible refine Ok_t (by first | assumption | omega) ?_
          | with_reducible refine Ok_f (by first | assumption | omega) ?_)
      refine Ok_bd (r_minds hn s) ?_
      rintro _ M1 ⟨v1, md, _⟩
      repeat (first
          | with_reducible refine Ok_g (by first | assumption | omega) ?_
          | with_reducible refine Ok_lt ?_
          | with_reducible refine Ok_wr ?_
          | with_reducible refine Ok_t (by first | assumption | omega) ?_
          | with_reducible refine Ok_f (by first | assumption | omega) ?_)
      simp only [Int.toNat_natCast]
      have e2 : vw (mup M1 147 p (i : Int)) 137 = uset u 10 p (i : Int) := by
        rw [← hu, ← s.1, ← v1]
        exact vw_set (w := 137) (k := 10) (by omega) (by decide) (by decide) (by decide) (show p < 5 by omega)
      have w2 : WF 999 (vw (mup M1 147 p (i : Int)) 137) := by
        rw [e2]
        exact WF_set wu 10 p (by show (0 : Int) ≤ _; omega) (by show _ ≤ (23 : Int); omega)
      refine Ok_bd (r_goes (N := (N : Int)) hn (by omega) (by omega) w2) ?_
      rintro _ M2 ⟨v2, k2⟩
      rw [Int.toNat_natCast, e2] at v2
      have w3 : WF 1200 (vw M2 137) := by
        rw [v2]
        exact WF_le (hoursS_wf N 0 _ (by rw [← e2]; exact w2)) (by omega)
      have wb := worthsS_b w3 (p : Int)
      refine Ok_be (r_worthsOf hn w3 (by omega)) ?_
      have ev : worthsS (vw M2 137) (p : Int) = stV u p N i := by rw [v2]; rfl
      rw [ev] at wb ⊢
      refine Ok_bd (r_forgets hn s md (KX_trans (KX_up (by omega)) (KX_G k2))) ?_
      rintro _ M3 ⟨s3, v3, _⟩
      have u3 : vw M3 0 = u := by rw [← s3.1, v3, s.1, hu]
      repeat (first
          | with_reducible refine Ok_g (by first | assumption | omega) ?_
          | with_reducible refine Ok_lt ?_
          | with_reducible refine Ok_t (by first | assumption | omega) ?_
          | with_reducible refine Ok_f (by first | assumption | omega) ?_)
      refine Ok_if (fun g => ?_) (fun g => ?_)
      · refine Ok_mono (ih t (i + 1) ((i : Int), stV u p N i) M3 (by omega) (by omega) s3 u3 (by show -9 ≤ stV u p N i ∧ stV u p N i ≤ 72; omega) (by show -9 ≤ (i : Int) ∧ (i : Int) ≤ 24; omega)) ?_
        rintro r M' ⟨h1, h2⟩
        refine ⟨?_, h2⟩
        rw [h1]
        simp only [frm]
        rw [show stF u p N i x = ((i : Int), stV u p N i) from if_pos (by omega)]
      · refine Ok_mono (ih t (i + 1) x M3 (by omega) (by omega) s3 u3 hx hx1) ?_
        rintro r M' ⟨h1, h2⟩
        refine ⟨?_, h2⟩
        rw [h1]
        simp only [frm]
        rw [show stF u p N i x = x from if_neg (by omega)]
theorem stV_b {u : US} (wu : WF 999 u) {p N c : Nat} (hp : p < 5) (hN : N ≤ 30) (hc : c < 24) : 0 ≤ stV u p N c :=
  (worthsS_b (hoursS_wf N 0 _ (WF_set wu 10 p (by show (0 : Int) ≤ _; omega) (by show _ ≤ (23 : Int); omega))) (p : Int)).1
theorem st_first {u : US} (wu : WF 999 u) {p N : Nat} (hp : p < 5) (hN : N ≤ 30) : frm (stF u p N) 24 0 (-1, -1) = frm (stF u p N) 24 0 (-9, -9) := by
  have b := stV_b wu (c := 0) hp hN (by decide)
  rw [show (24 : Nat) = 23 + 1 from rfl]
  simp only [frm]
  rw [show stF u p N 0 (-1, -1) = (((0 : Nat) : Int), stV u p N 0) from if_pos (by show (-1 : Int) < _; omega), show stF u p N 0 (-9, -9) = (((0 : Nat) : Int), stV u p N 0) from if_pos (by show (-9 : Int) < _; omega)]
theorem q_stand {n : Nat} {M : Mem} {a b c : Int} (hn : 2000 ≤ n) (s : Sim M) (ha : I32 a) (hb : I32 b) (hc : I32 c) : Agr (m_X5_stand n M a b c) (fun M1 => m_X6_stand n M1 a b c) := by
  obtain ⟨wf0, vv0, rf0⟩ := sim_rf s (M1 := M) (fun _ _ _ => rfl)
  unfold Agr m_X5_stand
  by_cases h : 0 ≤ a ∧ a < rd M 0 12
  · by_cases hb0 : b < 0
    · repeat (first
          | with_reducible refine Ok_g (by first | assumption | omega) ?_
          | with_reducible refine Ok_lt ?_
          | with_reducible refine Ok_t (by first | assumption | omega) ?_
          | with_reducible refine Ok_f (by first | assumption | omega) ?_
          | with_reducible refine Ok_be (e_hasF (by decide) (by assumption)) ?_
          | with_reducible refine Ok_be (e_hasT (by decide) (by assumption)) ?_
          | with_reducible refine Ok_be (e_hasP (by decide) (by assumption)) ?_
          | with_reducible refine Ok_be (e_isCell (by first | assumption | omega)) ?_
          | with_reducible refine Ok_be (e_oor (by assumption) (by decide) (by decide)) ?_
          | with_reducible refine Ok_be (r_isIn (by first | assumption | omega) (by first | decide | omega) (by first | decide | omega)) ?_
          | with_reducible refine Ok_be (r_bound (by assumption) (by decide) (by decide)) ?_
          | with_reducible refine Ok_be (r_isF (by assumption) (by assumption)) ?_
          | with_reducible refine Ok_be (r_isT (by assumption) (by assumption)) ?_
          | with_reducible refine Ok_be (r_isP (by assumption) (by assumption)) ?_
          | with_reducible refine Ok_be (r_isCell (by first | assumption | omega)) ?_)
      refine Ok_be (e_refuse 4 (by omega) (by decide) (by decide)) (Ok_ret ⟨by decide, ?_⟩)
      obtain ⟨wf1, rf1, rf2⟩ := sim_rf s (M1 := bump 134 M 4) (fun q i h => bump_ne (by omega))
      unfold m_X6_stand m_X6_stand_19 m_X6_stand_39
      repeat (first
          | with_reducible refine Ok_g (by first | assumption | omega) ?_
          | with_reducible refine Ok_lt ?_
          | with_reducible refine Ok_t (by first | assumption | omega) ?_
          | with_reducible refine Ok_f (by first | assumption | omega) ?_
          | with_reducible refine Ok_be (e_hasF (by decide) (by assumption)) ?_
          | with_reducible refine Ok_be (e_hasT (by decide) (by assumption)) ?_
          | with_reducible refine Ok_be (e_hasP (by decide) (by assumption)) ?_
          | with_reducible refine Ok_be (e_isCell (by first | assumption | omega)) ?_
          | with_reducible refine Ok_be (e_oor (by assumption) (by decide) (by decide)) ?_
          | with_reducible refine Ok_be (r_isIn (by first | assumption | omega) (by first | decide | omega) (by first | decide | omega)) ?_
          | with_reducible refine Ok_be (r_bound (by assumption) (by decide) (by decide)) ?_
          | with_reducible refine Ok_be (r_isF (by assumption) (by assumption)) ?_
          | with_reducible refine Ok_be (r_isT (by assumption) (by assumption)) ?_
          | with_reducible refine Ok_be (r_isP (by assumption) (by assumption)) ?_
          | with_reducible refine Ok_be (r_isCell (by first | assumption | omega)) ?_)
      exact Ok_be (r_no 4 (by omega) (by decide) (by decide)) (Ok_ret ⟨rfl, sim_bump s 4⟩)
    by_cases hb4 : 30 < b
    · repeat (first
          | with_reducible refine Ok_g (by first | assumption | omega) ?_
          | with_reducible refine Ok_lt ?_
          | with_reducible refine Ok_t (by first | assumption | omega) ?_
          | with_reducible refine Ok_f (by first | assumption | omega) ?_
          | with_reducible refine Ok_be (e_hasF (by decide) (by assumption)) ?_
          | with_reducible refine Ok_be (e_hasT (by decide) (by assumption)) ?_
          | with_reducible refine Ok_be (e_hasP (by decide) (by assumption)) ?_
          | with_reducible refine Ok_be (e_isCell (by first | assumption | omega)) ?_
          | with_reducible refine Ok_be (e_oor (by assumption) (by decide) (by decide)) ?_
          | with_reducible refine Ok_be (r_isIn (by first | assumption | omega) (by first | decide | omega) (by first | decide | omega)) ?_
          | with_reducible refine Ok_be (r_bound (by assumption) (by decide) (by decide)) ?_
          | with_reducible refine Ok_be (r_isF (by assumption) (by assumption)) ?_
          | with_reducible refine Ok_be (r_isT (by assumption) (by assumption)) ?_
          | with_reducible refine Ok_be (r_isP (by assumption) (by assumption)) ?_
          | with_reducible refine Ok_be (r_isCell (by first | assumption | omega)) ?_)
      refine Ok_be (e_refuse 6 (by omega) (by decide) (by decide)) (Ok_ret ⟨by decide, ?_⟩)
      obtain ⟨wf1, rf1, rf2⟩ := sim_rf s (M1 := bump 134 M 6) (fun q i h => bump_ne (by omega))
      unfold m_X6_stand m_X6_stand_19 m_X6_stand_39
      repeat (first
          | with_reducible refine Ok_g (by first | assumption | omega) ?_
          | with_reducible refine Ok_lt ?_
          | with_reducible refine Ok_t (by first | assumption | omega) ?_
          | with_reducible refine Ok_f (by first | assumption | omega) ?_
          | with_reducible refine Ok_be (e_hasF (by decide) (by assumption)) ?_
          | with_reducible refine Ok_be (e_hasT (by decide) (by assumption)) ?_
          | with_reducible refine Ok_be (e_hasP (by decide) (by assumption)) ?_
          | with_reducible refine Ok_be (e_isCell (by first | assumption | omega)) ?_
          | with_reducible refine Ok_be (e_oor (by assumption) (by decide) (by decide)) ?_
          | with_reducible refine Ok_be (r_isIn (by first | assumption | omega) (by first | decide | omega) (by first | decide | omega)) ?_
          | with_reducible refine Ok_be (r_bound (by assumption) (by decide) (by decide)) ?_
          | with_reducible refine Ok_be (r_isF (by assumption) (by assumption)) ?_
          | with_reducible refine Ok_be (r_isT (by assumption) (by assumption)) ?_
          | with_reducible refine Ok_be (r_isP (by assumption) (by assumption)) ?_
          | with_reducible refine Ok_be (r_isCell (by first | assumption | omega)) ?_)
      exact Ok_be (r_no 6 (by omega) (by decide) (by decide)) (Ok_ret ⟨rfl, sim_bump s 6⟩)
    have main : c = 0 ∨ c = 1 → Ok (m_X5_stand_54 n M a b c) (fun r M1 => I32 r ∧ Ok (m_X6_stand n M1 a b c) (fun r' M2 => r' = r ∧ Sim M2)) := by
      intro hc01
      obtain ⟨p, rfl⟩ := Int.eq_ofNat_of_zero_le h.1
      obtain ⟨N, rfl⟩ := Int.eq_ofNat_of_zero_le (show 0 ≤ b by omega)
      unfold m_X5_stand_54
      refine Ok_mono (e_stand_63 hn (by omega) (by omega) hc s.2.1 24 n 0 (-1, -1) M (by omega) (by omega) s.2.2.1 (KM_refl M) (by decide) (by decide)) ?_
      rintro r M1 ⟨er, ir, k1, km⟩
      refine ⟨ir, ?_⟩
      have s1 := sim_KM s k1 km
      have e0 := vw0_KM km
      have z12 : rd M1 0 12 = rd M 0 12 := rd_of (km _ _ (by omega))
      obtain ⟨wf2, vv2, rf2⟩ := sim_rf s1 (M1 := M1) (fun _ _ _ => rfl)
      unfold m_X6_stand m_X6_stand_19 m_X6_stand_39
      repeat (first
          | with_reducible refine Ok_g (by first | assumption | omega) ?_
          | with_reducible refine Ok_lt ?_
          | with_reducible refine Ok_t (by first | assumption | omega) ?_
          | with_reducible refine Ok_f (by first | assumption | omega) ?_
          | with_reducible refine Ok_be (e_hasF (by decide) (by assumption)) ?_
          | with_reducible refine Ok_be (e_hasT (by decide) (by assumption)) ?_
          | with_reducible refine Ok_be (e_hasP (by decide) (by assumption)) ?_
          | with_reducible refine Ok_be (e_isCell (by first | assumption | omega)) ?_
          | with_reducible refine Ok_be (e_oor (by assumption) (by decide) (by decide)) ?_
          | with_reducible refine Ok_be (r_isIn (by first | assumption | omega) (by first | decide | omega) (by first | decide | omega)) ?_
          | with_reducible refine Ok_be (r_bound (by assumption) (by decide) (by decide)) ?_
          | with_reducible refine Ok_be (r_isF (by assumption) (by assumption)) ?_
          | with_reducible refine Ok_be (r_isT (by assumption) (by assumption)) ?_
          | with_reducible refine Ok_be (r_isP (by assumption) (by assumption)) ?_
          | with_reducible refine Ok_be (r_isCell (by first | assumption | omega)) ?_)
      refine Ok_mono (r_stand_62 hn (by omega) (by omega) hc s.2.1 24 n 0 (-9, -9) M1 (by omega) (by omega) s1 e0 (by decide) (by decide)) ?_
      rintro r' M2 ⟨er', s2⟩
      exact ⟨by rw [er', er, st_first s.2.1 (by omega) (by omega)], s2⟩
    repeat (first
        | with_reducible refine Ok_g (by first | assumption | omega) ?_
        | with_reducible refine Ok_lt ?_
        | with_reducible refine Ok_t (by first | assumption | omega) ?_
        | with_reducible refine Ok_f (by first | assumption | omega) ?_
        | with_reducible refine Ok_be (e_hasF (by decide) (by assumption)) ?_
        | with_reducible refine Ok_be (e_hasT (by decide) (by assumption)) ?_
        | with_reducible refine Ok_be (e_hasP (by decide) (by assumption)) ?_
        | with_reducible refine Ok_be (e_isCell (by first | assumption | omega)) ?_
        | with_reducible refine Ok_be (e_oor (by assumption) (by decide) (by decide)) ?_
        | with_reducible refine Ok_be (r_isIn (by first | assumption | omega) (by first | decide | omega) (by first | decide | omega)) ?_
        | with_reducible refine Ok_be (r_bound (by assumption) (by decide) (by decide)) ?_
        | with_reducible refine Ok_be (r_isF (by assumption) (by assumption)) ?_
        | with_reducible refine Ok_be (r_isT (by assumption) (by assumption)) ?_
        | with_reducible refine Ok_be (r_isP (by assumption) (by assumption)) ?_
        | with_reducible refine Ok_be (r_isCell (by first | assumption | omega)) ?_)
    refine Ok_if (fun g => main (.inl g)) (fun g => ?_)
    refine Ok_if (fun g1 => main (.inr g1)) (fun g1 => ?_)
    refine Ok_be (e_refuse 2 (by omega) (by decide) (by decide)) (Ok_ret ⟨by decide, ?_⟩)
    obtain ⟨wf1, rf1, rf2⟩ := sim_rf s (M1 := bump 134 M 2) (fun q i h => bump_ne (by omega))
    unfold m_X6_stand m_X6_stand_19 m_X6_stand_39
    repeat (first
        | with_reducible refine Ok_g (by first | assumption | omega) ?_
        | with_reducible refine Ok_lt ?_
        | with_reducible refine Ok_t (by first | assumption | omega) ?_
        | with_reducible refine Ok_f (by first | assumption | omega) ?_
        | with_reducible refine Ok_be (e_hasF (by decide) (by assumption)) ?_
        | with_reducible refine Ok_be (e_hasT (by decide) (by assumption)) ?_
        | with_reducible refine Ok_be (e_hasP (by decide) (by assumption)) ?_
        | with_reducible refine Ok_be (e_isCell (by first | assumption | omega)) ?_
        | with_reducible refine Ok_be (e_oor (by assumption) (by decide) (by decide)) ?_
        | with_reducible refine Ok_be (r_isIn (by first | assumption | omega) (by first | decide | omega) (by first | decide | omega)) ?_
        | with_reducible refine Ok_be (r_bound (by assumption) (by decide) (by decide)) ?_
        | with_reducible refine Ok_be (r_isF (by assumption) (by assumption)) ?_
        | with_reducible refine Ok_be (r_isT (by assumption) (by assumption)) ?_
        | with_reducible refine Ok_be (r_isP (by assumption) (by assumption)) ?_
        | with_reducible refine Ok_be (r_isCell (by first | assumption | omega)) ?_)
    exact Ok_be (r_no 2 (by omega) (by decide) (by decide)) (Ok_ret ⟨rfl, sim_bump s 2⟩)
  · repeat (first
        | with_reducible refine Ok_g (by first | assumption | omega) ?_
        | with_reducible refine Ok_lt ?_
        | with_reducible refine Ok_t (by first | assumption | omega) ?_
        | with_reducible refine Ok_f (by first | assumption | omega) ?_
        | with_reducible refine Ok_be (e_hasF (by decide) (by assumption)) ?_
        | with_reducible refine Ok_be (e_hasT (by decide) (by assumption)) ?_
        | with_reducible refine Ok_be (e_hasP (by decide) (by assumption)) ?_
        | with_reducible refine Ok_be (e_isCell (by first | assumption | omega)) ?_
        | with_reducible refine Ok_be (e_oor (by assumption) (by decide) (by decide)) ?_
        | with_reducible refine Ok_be (r_isIn (by first | assumption | omega) (by first | decide | omega) (by first | decide | omega)) ?_
        | with_reducible refine Ok_be (r_bound (by assumption) (by decide) (by decide)) ?_
        | with_reducible refine Ok_be (r_isF (by assumption) (by assumption)) ?_
        | with_reducible refine Ok_be (r_isT (by assumption) (by assumption)) ?_
        | with_reducible refine Ok_be (r_isP (by assumption) (by assumption)) ?_
        | with_reducible refine Ok_be (r_isCell (by first | assumption | omega)) ?_)
    refine Ok_be (e_refuse 1 (by omega) (by decide) (by decide)) (Ok_ret ⟨by decide, ?_⟩)
    obtain ⟨wf1, rf1, rf2⟩ := sim_rf s (M1 := bump 134 M 1) (fun q i h => bump_ne (by omega))
    unfold m_X6_stand m_X6_stand_19 m_X6_stand_39
    repeat (first
        | with_reducible refine Ok_g (by first | assumption | omega) ?_
        | with_reducible refine Ok_lt ?_
        | with_reducible refine Ok_t (by first | assumption | omega) ?_
        | with_reducible refine Ok_f (by first | assumption | omega) ?_
        | with_reducible refine Ok_be (e_hasF (by decide) (by assumption)) ?_
        | with_reducible refine Ok_be (e_hasT (by decide) (by assumption)) ?_
        | with_reducible refine Ok_be (e_hasP (by decide) (by assumption)) ?_
        | with_reducible refine Ok_be (e_isCell (by first | assumption | omega)) ?_
        | with_reducible refine Ok_be (e_oor (by assumption) (by decide) (by decide)) ?_
        | with_reducible refine Ok_be (r_isIn (by first | assumption | omega) (by first | decide | omega) (by first | decide | omega)) ?_
        | with_reducible refine Ok_be (r_bound (by assumption) (by decide) (by decide)) ?_
        | with_reducible refine Ok_be (r_isF (by assumption) (by assumption)) ?_
        | with_reducible refine Ok_be (r_isT (by assumption) (by assumption)) ?_
        | with_reducible refine Ok_be (r_isP (by assumption) (by assumption)) ?_
        | with_reducible refine Ok_be (r_isCell (by first | assumption | omega)) ?_)
    exact Ok_be (r_no 1 (by omega) (by decide) (by decide)) (Ok_ret ⟨rfl, sim_bump s 1⟩)
/-- the first cell where a kettle keeps it his -/
def keS (u : US) (p t N : Nat) : Nat → Nat → Int
  | 0, _ => -9
  | k + 1, i => if hoursS N (uset u 0 20 i) 6 t = (p : Int) then (i : Int) else keS u p t N k (i + 1)
theorem keS_b (u : US) (p t N : Nat) : ∀ k i, -9 ≤ keS u p t N k i ∧ keS u p t N k i ≤ i + k
  | 0, i => by
    show -9 ≤ (-9 : Int) ∧ (-9 : Int) ≤ _
    omega
  | k + 1, i => by
    have := keS_b u p t N k (i + 1)
    simp only [keS]
    split <;> omega
theorem vw_k22 {M : Mem} {v : Int} (hv : I32 v) : vw (mup M 129 3 v) 22 = uset (vw M 22) 0 20 v := by
  funext k i
  show _ = (if k = 0 ∧ i = 20 then v else vw M 22 k i)
  by_cases c : k = 0 ∧ i = 20
  · obtain ⟨rfl, rfl⟩ := c
    rw [if_pos ⟨rfl, rfl⟩, v22k, rd_ups _ _ _ hv]
  · rw [if_neg c]
    unfold vw
    by_cases k0 : k = 0
    · rw [if_pos k0, if_pos k0]
      unfold vs
      rw [rd_upne _ _ _ 22 _ _ (by omega), rd_upne _ _ _ 129 4 _ (by omega)]
      by_cases g : i = 3 ∨ i = 7 ∨ i = 12 ∨ i = 13 ∨ i = 14
      · rw [if_pos g, if_pos g]
      · have i20 : i ≠ 20 := by omega
        rw [if_neg g, if_neg g, if_neg i20, if_neg i20]
        simp
    · rw [if_neg k0, if_neg k0]
      by_cases k6 : k = 6
      · rw [if_pos k6, if_pos k6, rd_upne _ _ _ _ _ _ (by omega)]
      · rw [if_neg k6, if_neg k6]
        by_cases g : i < lnk k
        · have := lnk_le g
          rw [if_pos g, if_pos g, rd_upne _ _ _ _ _ _ (by omega)]
        · rw [if_neg g, if_neg g]
theorem vw_k137 {M : Mem} {v : Int} (hv : 0 ≤ v ∧ v ≤ 23) : vw (mup M 137 20 v) 137 = uset (vw M 137) 0 20 v := by
  funext k i
  show _ = (if k = 0 ∧ i = 20 then v else vw M 137 k i)
  by_cases c : k = 0 ∧ i = 20
  · obtain ⟨rfl, rfl⟩ := c
    rw [if_pos ⟨rfl, rfl⟩, v137k, rd_ups _ _ _ (by omega)]
    unfold ow
    omega
  · rw [if_neg c]
    unfold vw
    by_cases k0 : k = 0
    · rw [if_pos k0, if_pos k0]
      unfold vs
      rw [rd_upne _ _ _ 137 21 _ (by omega)]
      by_cases g : i = 3 ∨ i = 7 ∨ i = 12 ∨ i = 13 ∨ i = 14
      · rw [if_pos g, if_pos g, rd_upne _ _ _ _ _ _ (by omega)]
      · have i20 : i ≠ 20 := by omega
        rw [if_neg g, if_neg g, if_neg i20, if_neg i20]
        simp
    · rw [if_neg k0, if_neg k0]
      by_cases k6 : k = 6
      · rw [if_pos k6, if_pos k6, rd_upne _ _ _ _ _ _ (by omega)]
      · rw [if_neg k6, if_neg k6]
        by_cases g : i < lnk k
        · have := lnk_le g
          rw [if_pos g, if_pos g, rd_upne _ _ _ _ _ _ (by omega)]
        · rw [if_neg g, if_neg g]
theorem e_kettle_52 {n p tt N : Nat} {M0 : Mem} (hn : 2000 ≤ n) (hp : p < 5) (ht8 : tt < 8) (hN : N ≤ 30) (wf0 : WF 999 (vw M0 0)) : ∀ k t (i : Nat) M, i + k = 24 → k < t → SkyOk M → KM M0 M →
    Ok (m_X5_kettle_52 n t M (p : Int) (tt : Int) (N : Int) (i : Int)) (fun r M' => r = keS (vw M0 0) p tt N k i ∧ SkyOk M' ∧ KM M0 M') := by
  intro k
  induction k with
  | zero =>
    intro t i M hi ht sk km
    cases t with
    | zero => omega
    | succ t =>
      rw [m_X5_kettle_52]
      repeat (first
          | with_reducible refine Ok_g (by first | assumption | omega) ?_
          | with_reducible refine Ok_lt ?_
          | with_reducible refine Ok_t (by first | assumption | omega) ?_
          | with_reducible refine Ok_f (by first | assumption | omega) ?_)
      exact Ok_ret ⟨rfl, sk, km⟩
  | succ k ih =>
    intro t i M hi ht sk km
    cases t with
    | zero => omega
    | succ t =>
      have e0 := vw0_KM km
      have wM : WF 999 (vw M 0) := by rw [e0]; exact wf0
      rw [m_X5_kettle_52]
      simp only [keS]
      repeat (first
          | with_reducible refine Ok_g (by first | assumption | omega) ?_
          | with_reducible refine Ok_lt ?_
          | with_reducible refine Ok_t (by first | assumption | omega) ?_
          | with_reducible refine Ok_f (by first | assumption | omega) ?_)
      refine Ok_bd (e_begin hn sk wM (by decide)) ?_
      rintro _ M1 ⟨v1, k1, l1, f1⟩
      refine Ok_wr ?_
      have e2 : vw (mup M1 129 3 (i : Int)) 22 = uset (vw M0 0) 0 20 (i : Int) := by
        rw [← e0, ← v1]
        exact vw_k22 (by omega)
      have w2 : WF 999 (vw (mup M1 129 3 (i : Int)) 22) := by
        rw [e2]
        exact WF_set wf0 0 20 (by show (-1 : Int) ≤ _; omega) (by show _ ≤ (23 : Int); omega)
      refine Ok_bd (e_goOn (N := (N : Int)) hn (by omega) (by omega) (SkyOk_keep k1 (fun q i _ _ => mup_n _ (by omega))) w2) ?_
      rintro _ M2 ⟨v2, k2, l2, f2⟩
      rw [Int.toNat_natCast, e2] at v2
      have kmm : KM M0 M2 := fun q j hq => by
        rw [f2 q j (by omega) (by omega), mup_n _ (by omega), f1 q j (by omega), km q j hq]
      have w3 : WF 1200 (vw M2 22) := by
        rw [v2]
        exact WF_le (hoursS_wf N 0 _ (by rw [← e2]; exact w2)) (by omega)
      have b := tW (by decide) w3 ht8
      simp only [Nat.reduceAdd] at b
      rw [v2] at b
      simp only [Int.toNat_natCast]
      repeat (first
          | with_reducible refine Ok_g (by first | assumption | omega) ?_
          | with_reducible refine Ok_lt ?_
          | with_reducible refine Ok_t (by first | assumption | omega) ?_
          | with_reducible refine Ok_f (by first | assumption | omega) ?_)
      refine Ok_if (fun g => Ok_ret ⟨?_, k2, kmm⟩) (fun g => ?_)
      · rw [if_pos (by omega)]
      · rw [if_neg (by omega)]
        exact ih t (i + 1) M2 (by omega) (by omega) k2 kmm
theorem r_kettle_48 {n p tt N : Nat} {u : US} (hn : 2000 ≤ n) (hp : p < 5) (ht8 : tt < 8) (hN : N ≤ 30) (wu : WF 999 u) : ∀ k t (i : Nat) M, i + k = 24 → k + 1 < t → Sim M → vw M 0 = u →
    Ok (m_X6_kettle_48 n t M (p : Int) (tt : Int) (N : Int) (-9) (i : Int)) (fun r M' => r = keS u p tt N k i ∧ Sim M') := by
  intro k
  induction k with
  | zero =>
    intro t i M hi ht s hu
    cases t with
    | zero => omega
    | succ t =>
      rw [m_X6_kettle_48]
      repeat (first
          | with_reducible refine Ok_g (by first | assumption | omega) ?_
          | with_reducible refine Ok_lt ?_
          | with_reducible refine Ok_t (by first | assumption | omega) ?_
          | with_reducible refine Ok_f (by first | assumption | omega) ?_)
      exact Ok_ret ⟨rfl, s⟩
  | succ k ih =>
    intro t i M hi ht s hu
    cases t with
    | zero => omega
    | succ t =>
      rw [m_X6_kettle_48]
      simp only [keS]
      unfold m_X6_kettle_92
      repeat (first
          | with_reducible refine Ok_g (by first | assumption | omega) ?_
          | with_reducible refine Ok_lt ?_
          | with_reducible refine Ok_t (by first | assumption | omega) ?_
          | with_reducible refine Ok_f (by first | assumption | omega) ?_)
      refine Ok_bd (r_minds hn s) ?_
      rintro _ M1 ⟨v1, md, _⟩
      refine Ok_wr ?_
      have e2 : vw (mup M1 137 20 (i : Int)) 137 = uset u 0 20 (i : Int) := by
        rw [← hu, ← s.1, ← v1]
        exact vw_k137 (by omega)
      have w2 : WF 999 (vw (mup M1 137 20 (i : Int)) 137) := by
        rw [e2]
        exact WF_set wu 0 20 (by show (-1 : Int) ≤ _; omega) (by show _ ≤ (23 : Int); omega)
      refine Ok_bd (r_goes (N := (N : Int)) hn (by omega) (by omega) w2) ?_
      rintro _ M2 ⟨v2, k2⟩
      rw [Int.toNat_natCast, e2] at v2
      have w3 : WF 1200 (vw M2 137) := by
        rw [v2]
        exact WF_le (hoursS_wf N 0 _ (by rw [← e2]; exact w2)) (by omega)
      have b := tR w3 ht8
      rw [v2] at b
      have kx : KX M1 M2 := KX_trans (KX_up (by omega)) (KX_G k2)
      simp only [Int.toNat_natCast]
      repeat (first
          | with_reducible refine Ok_g (by first | assumption | omega) ?_
          | with_reducible refine Ok_lt ?_
          | with_reducible refine Ok_t (by first | assumption | omega) ?_
          | with_reducible refine Ok_f (by first | assumption | omega) ?_)
      refine Ok_if (fun g => ?_) (fun g => ?_)
      · refine Ok_bd (r_forgets hn s md kx) ?_
        rintro _ M3 ⟨s3, v3, _⟩
        cases t with
        | zero => omega
        | succ t =>
          rw [m_X6_kettle_48]
          by_cases c : 24 ≤ (i : Int) + 1
          · repeat (first
                | with_reducible refine Ok_g (by first | assumption | omega) ?_
                | with_reducible refine Ok_lt ?_
                | with_reducible refine Ok_t (by first | assumption | omega) ?_
                | with_reducible refine Ok_f (by first | assumption | omega) ?_)
            exact Ok_ret ⟨by rw [if_pos (by omega)], s3⟩
          · repeat (first
                | with_reducible refine Ok_g (by first | assumption | omega) ?_
                | with_reducible refine Ok_lt ?_
                | with_reducible refine Ok_t (by first | assumption | omega) ?_
                | with_reducible refine Ok_f (by first | assumption | omega) ?_)
            exact Ok_ret ⟨by rw [if_pos (by omega)], s3⟩
      · refine Ok_bd (r_forgets hn s md kx) ?_
        rintro _ M3 ⟨s3, v3, _⟩
        rw [if_neg (by omega)]
        exact ih t (i + 1) M3 (by omega) (by omega) s3 (by rw [← s3.1, v3, s.1, hu])
theorem q_kettle {n : Nat} {M : Mem} {a b c : Int} (hn : 2000 ≤ n) (s : Sim M) (ha : I32 a) (hb : I32 b) (hc : I32 c) : Agr (m_X5_kettle n M a b c) (fun M1 => m_X6_kettle n M1 a b c) := by
  obtain ⟨wf0, vv0, rf0⟩ := sim_rf s (M1 := M) (fun _ _ _ => rfl)
  unfold Agr m_X5_kettle m_X5_kettle_22
  by_cases h : 0 ≤ a ∧ a < rd M 0 12
  · by_cases h2 : 0 ≤ b ∧ b < rd M 0 7
    · by_cases hb0 : c < 0
      · repeat (first
            | with_reducible refine Ok_g (by first | assumption | omega) ?_
            | with_reducible refine Ok_lt ?_
            | with_reducible refine Ok_t (by first | assumption | omega) ?_
            | with_reducible refine Ok_f (by first | assumption | omega) ?_
            | with_reducible refine Ok_be (e_hasF (by decide) (by assumption)) ?_
            | with_reducible refine Ok_be (e_hasT (by decide) (by assumption)) ?_
            | with_reducible refine Ok_be (e_hasP (by decide) (by assumption)) ?_
            | with_reducible refine Ok_be (e_isCell (by first | assumption | omega)) ?_
            | with_reducible refine Ok_be (e_oor (by assumption) (by decide) (by decide)) ?_
            | with_reducible refine Ok_be (r_isIn (by first | assumption | omega) (by first | decide | omega) (by first | decide | omega)) ?_
            | with_reducible refine Ok_be (r_bound (by assumption) (by decide) (by decide)) ?_
            | with_reducible refine Ok_be (r_isF (by assumption) (by assumption)) ?_
            | with_reducible refine Ok_be (r_isT (by assumption) (by assumption)) ?_
            | with_reducible refine Ok_be (r_isP (by assumption) (by assumption)) ?_
            | with_reducible refine Ok_be (r_isCell (by first | assumption | omega)) ?_)
        refine Ok_be (e_refuse 4 (by omega) (by decide) (by decide)) (Ok_ret ⟨by decide, ?_⟩)
        obtain ⟨wf1, rf1, rf2⟩ := sim_rf s (M1 := bump 134 M 4) (fun q i h => bump_ne (by omega))
        unfold m_X6_kettle m_X6_kettle_16 m_X6_kettle_27
        repeat (first
            | with_reducible refine Ok_g (by first | assumption | omega) ?_
            | with_reducible refine Ok_lt ?_
            | with_reducible refine Ok_t (by first | assumption | omega) ?_
            | with_reducible refine Ok_f (by first | assumption | omega) ?_
            | with_reducible refine Ok_be (e_hasF (by decide) (by assumption)) ?_
            | with_reducible refine Ok_be (e_hasT (by decide) (by assumption)) ?_
            | with_reducible refine Ok_be (e_hasP (by decide) (by assumption)) ?_
            | with_reducible refine Ok_be (e_isCell (by first | assumption | omega)) ?_
            | with_reducible refine Ok_be (e_oor (by assumption) (by decide) (by decide)) ?_
            | with_reducible refine Ok_be (r_isIn (by first | assumption | omega) (by first | decide | omega) (by first | decide | omega)) ?_
            | with_reducible refine Ok_be (r_bound (by assumption) (by decide) (by decide)) ?_
            | with_reducible refine Ok_be (r_isF (by assumption) (by assumption)) ?_
            | with_reducible refine Ok_be (r_isT (by assumption) (by assumption)) ?_
            | with_reducible refine Ok_be (r_isP (by assumption) (by assumption)) ?_
            | with_reducible refine Ok_be (r_isCell (by first | assumption | omega)) ?_)
        exact Ok_be (r_no 4 (by omega) (by decide) (by decide)) (Ok_ret ⟨rfl, sim_bump s 4⟩)
      by_cases hb4 : 30 < c
      · repeat (first
            | with_reducible refine Ok_g (by first | assumption | omega) ?_
            | with_reducible refine Ok_lt ?_
            | with_reducible refine Ok_t (by first | assumption | omega) ?_
            | with_reducible refine Ok_f (by first | assumption | omega) ?_
            | with_reducible refine Ok_be (e_hasF (by decide) (by assumption)) ?_
            | with_reducible refine Ok_be (e_hasT (by decide) (by assumption)) ?_
            | with_reducible refine Ok_be (e_hasP (by decide) (by assumption)) ?_
            | with_reducible refine Ok_be (e_isCell (by first | assumption | omega)) ?_
            | with_reducible refine Ok_be (e_oor (by assumption) (by decide) (by decide)) ?_
            | with_reducible refine Ok_be (r_isIn (by first | assumption | omega) (by first | decide | omega) (by first | decide | omega)) ?_
            | with_reducible refine Ok_be (r_bound (by assumption) (by decide) (by decide)) ?_
            | with_reducible refine Ok_be (r_isF (by assumption) (by assumption)) ?_
            | with_reducible refine Ok_be (r_isT (by assumption) (by assumption)) ?_
            | with_reducible refine Ok_be (r_isP (by assumption) (by assumption)) ?_
            | with_reducible refine Ok_be (r_isCell (by first | assumption | omega)) ?_)
        refine Ok_be (e_refuse 6 (by omega) (by decide) (by decide)) (Ok_ret ⟨by decide, ?_⟩)
        obtain ⟨wf1, rf1, rf2⟩ := sim_rf s (M1 := bump 134 M 6) (fun q i h => bump_ne (by omega))
        unfold m_X6_kettle m_X6_kettle_16 m_X6_kettle_27
        repeat (first
            | with_reducible refine Ok_g (by first | assumption | omega) ?_
            | with_reducible refine Ok_lt ?_
            | with_reducible refine Ok_t (by first | assumption | omega) ?_
            | with_reducible refine Ok_f (by first | assumption | omega) ?_
            | with_reducible refine Ok_be (e_hasF (by decide) (by assumption)) ?_
            | with_reducible refine Ok_be (e_hasT (by decide) (by assumption)) ?_
            | with_reducible refine Ok_be (e_hasP (by decide) (by assumption)) ?_
            | with_reducible refine Ok_be (e_isCell (by first | assumption | omega)) ?_
            | with_reducible refine Ok_be (e_oor (by assumption) (by decide) (by decide)) ?_
            | with_reducible refine Ok_be (r_isIn (by first | assumption | omega) (by first | decide | omega) (by first | decide | omega)) ?_
            | with_reducible refine Ok_be (r_bound (by assumption) (by decide) (by decide)) ?_
            | with_reducible refine Ok_be (r_isF (by assumption) (by assumption)) ?_
            | with_reducible refine Ok_be (r_isT (by assumption) (by assumption)) ?_
            | with_reducible refine Ok_be (r_isP (by assumption) (by assumption)) ?_
            | with_reducible refine Ok_be (r_isCell (by first | assumption | omega)) ?_)
        exact Ok_be (r_no 6 (by omega) (by decide) (by decide)) (Ok_ret ⟨rfl, sim_bump s 6⟩)
      repeat (first
          | with_reducible refine Ok_g (by first | assumption | omega) ?_
          | with_reducible refine Ok_lt ?_
          | with_reducible refine Ok_t (by first | assumption | omega) ?_
          | with_reducible refine Ok_f (by first | assumption | omega) ?_
          | with_reducible refine Ok_be (e_hasF (by decide) (by assumption)) ?_
          | with_reducible refine Ok_be (e_hasT (by decide) (by assumption)) ?_
          | with_reducible refine Ok_be (e_hasP (by decide) (by assumption)) ?_
          | with_reducible refine Ok_be (e_isCell (by first | assumption | omega)) ?_
          | with_reducible refine Ok_be (e_oor (by assumption) (by decide) (by decide)) ?_
          | with_reducible refine Ok_be (r_isIn (by first | assumption | omega) (by first | decide | omega) (by first | decide | omega)) ?_
          | with_reducible refine Ok_be (r_bound (by assumption) (by decide) (by decide)) ?_
          | with_reducible refine Ok_be (r_isF (by assumption) (by assumption)) ?_
          | with_reducible refine Ok_be (r_isT (by assumption) (by assumption)) ?_
          | with_reducible refine Ok_be (r_isP (by assumption) (by assumption)) ?_
          | with_reducible refine Ok_be (r_isCell (by first | assumption | omega)) ?_)
      obtain ⟨p, rfl⟩ := Int.eq_ofNat_of_zero_le h.1
      obtain ⟨tt, rfl⟩ := Int.eq_ofNat_of_zero_le h2.1
      obtain ⟨N, rfl⟩ := Int.eq_ofNat_of_zero_le (show 0 ≤ c by omega)
      refine Ok_mono (e_kettle_52 (M0 := M) hn (by omega) (by omega) (by omega) s.2.1 24 n 0 M (by omega) (by omega) s.2.2.1 (KM_refl M)) ?_
      rintro r M1 ⟨er, k1, km⟩
      have bb := keS_b (vw M 0) p tt N 24 0
      refine ⟨by rw [er]; omega, ?_⟩
      have s1 := sim_KM s k1 km
      have e0 := vw0_KM km
      have z12 : rd M1 0 12 = rd M 0 12 := rd_of (km _ _ (by omega))
      have z7 : rd M1 0 7 = rd M 0 7 := rd_of (km _ _ (by omega))
      obtain ⟨wf2, vv2, rf2⟩ := sim_rf s1 (M1 := M1) (fun _ _ _ => rfl)
      unfold m_X6_kettle m_X6_kettle_16 m_X6_kettle_27
      repeat (first
          | with_reducible refine Ok_g (by first | assumption | omega) ?_
          | with_reducible refine Ok_lt ?_
          | with_reducible refine Ok_t (by first | assumption | omega) ?_
          | with_reducible refine Ok_f (by first | assumption | omega) ?_
          | with_reducible refine Ok_be (e_hasF (by decide) (by assumption)) ?_
          | with_reducible refine Ok_be (e_hasT (by decide) (by assumption)) ?_
          | with_reducible refine Ok_be (e_hasP (by decide) (by assumption)) ?_
          | with_reducible refine Ok_be (e_isCell (by first | assumption | omega)) ?_
          | with_reducible refine Ok_be (e_oor (by assumption) (by decide) (by decide)) ?_
          | with_reducible refine Ok_be (r_isIn (by first | assumption | omega) (by first | decide | omega) (by first | decide | omega)) ?_
          | with_reducible refine Ok_be (r_bound (by assumption) (by decide) (by decide)) ?_
          | with_reducible refine Ok_be (r_isF (by assumption) (by assumption)) ?_
          | with_reducible refine Ok_be (r_isT (by assumption) (by assumption)) ?_
          | with_reducible refine Ok_be (r_isP (by assumption) (by assumption)) ?_
          | with_reducible refine Ok_be (r_isCell (by first | assumption | omega)) ?_)
      refine Ok_mono (r_kettle_48 hn (by omega) (by omega) (by omega) s.2.1 24 n 0 M1 (by omega) (by omega) s1 e0) ?_
      rintro r' M2 ⟨er', s2⟩
      exact ⟨by rw [er', er], s2⟩
    · repeat (first
          | with_reducible refine Ok_g (by first | assumption | omega) ?_
          | with_reducible refine Ok_lt ?_
          | with_reducible refine Ok_t (by first | assumption | omega) ?_
          | with_reducible refine Ok_f (by first | assumption | omega) ?_
          | with_reducible refine Ok_be (e_hasF (by decide) (by assumption)) ?_
          | with_reducible refine Ok_be (e_hasT (by decide) (by assumption)) ?_
          | with_reducible refine Ok_be (e_hasP (by decide) (by assumption)) ?_
          | with_reducible refine Ok_be (e_isCell (by first | assumption | omega)) ?_
          | with_reducible refine Ok_be (e_oor (by assumption) (by decide) (by decide)) ?_
          | with_reducible refine Ok_be (r_isIn (by first | assumption | omega) (by first | decide | omega) (by first | decide | omega)) ?_
          | with_reducible refine Ok_be (r_bound (by assumption) (by decide) (by decide)) ?_
          | with_reducible refine Ok_be (r_isF (by assumption) (by assumption)) ?_
          | with_reducible refine Ok_be (r_isT (by assumption) (by assumption)) ?_
          | with_reducible refine Ok_be (r_isP (by assumption) (by assumption)) ?_
          | with_reducible refine Ok_be (r_isCell (by first | assumption | omega)) ?_)
      refine Ok_be (e_refuse 1 (by omega) (by decide) (by decide)) (Ok_ret ⟨by decide, ?_⟩)
      obtain ⟨wf1, rf1, rf2⟩ := sim_rf s (M1 := bump 134 M 1) (fun q i h => bump_ne (by omega))
      unfold m_X6_kettle m_X6_kettle_16 m_X6_kettle_27
      repeat (first
          | with_reducible refine Ok_g (by first | assumption | omega) ?_
          | with_reducible refine Ok_lt ?_
          | with_reducible refine Ok_t (by first | assumption | omega) ?_
          | with_reducible refine Ok_f (by first | assumption | omega) ?_
          | with_reducible refine Ok_be (e_hasF (by decide) (by assumption)) ?_
          | with_reducible refine Ok_be (e_hasT (by decide) (by assumption)) ?_
          | with_reducible refine Ok_be (e_hasP (by decide) (by assumption)) ?_
          | with_reducible refine Ok_be (e_isCell (by first | assumption | omega)) ?_
          | with_reducible refine Ok_be (e_oor (by assumption) (by decide) (by decide)) ?_
          | with_reducible refine Ok_be (r_isIn (by first | assumption | omega) (by first | decide | omega) (by first | decide | omega)) ?_
          | with_reducible refine Ok_be (r_bound (by assumption) (by decide) (by decide)) ?_
          | with_reducible refine Ok_be (r_isF (by assumption) (by assumption)) ?_
          | with_reducible refine Ok_be (r_isT (by assumption) (by assumption)) ?_
          | with_reducible refine Ok_be (r_isP (by assumption) (by assumption)) ?_
          | with_reducible refine Ok_be (r_isCell (by first | assumption | omega)) ?_)
      exact Ok_be (r_no 1 (by omega) (by decide) (by decide)) (Ok_ret ⟨rfl, sim_bump s 1⟩)
  · repeat (first
        | with_reducible refine Ok_g (by first | assumption | omega) ?_
        | with_reducible refine Ok_lt ?_
        | with_reducible refine Ok_t (by first | assumption | omega) ?_
        | with_reducible refine Ok_f (by first | assumption | omega) ?_
        | with_reducible refine Ok_be (e_hasF (by decide) (by assumption)) ?_
        | with_reducible refine Ok_be (e_hasT (by decide) (by assumption)) ?_
        | with_reducible refine Ok_be (e_hasP (by decide) (by assumption)) ?_
        | with_reducible refine Ok_be (e_isCell (by first | assumption | omega)) ?_
        | with_reducible refine Ok_be (e_oor (by assumption) (by decide) (by decide)) ?_
        | with_reducible refine Ok_be (r_isIn (by first | assumption | omega) (by first | decide | omega) (by first | decide | omega)) ?_
        | with_reducible refine Ok_be (r_bound (by assumption) (by decide) (by decide)) ?_
        | with_reducible refine Ok_be (r_isF (by assumption) (by assumption)) ?_
        | with_reducible refine Ok_be (r_isT (by assumption) (by assumption)) ?_
        | with_reducible refine Ok_be (r_isP (by assumption) (by assumption)) ?_
        | with_reducible refine Ok_be (r_isCell (by first | assumption | omega)) ?_)
    refine Ok_be (e_refuse 1 (by omega) (by decide) (by decide)) (Ok_ret ⟨by decide, ?_⟩)
    obtain ⟨wf1, rf1, rf2⟩ := sim_rf s (M1 := bump 134 M 1) (fun q i h => bump_ne (by omega))
    unfold m_X6_kettle m_X6_kettle_16 m_X6_kettle_27
    repeat (first
        | with_reducible refine Ok_g (by first | assumption | omega) ?_
        | with_reducible refine Ok_lt ?_
        | with_reducible refine Ok_t (by first | assumption | omega) ?_
        | with_reducible refine Ok_f (by first | assumption | omega) ?_
        | with_reducible refine Ok_be (e_hasF (by decide) (by assumption)) ?_
        | with_reducible refine Ok_be (e_hasT (by decide) (by assumption)) ?_
        | with_reducible refine Ok_be (e_hasP (by decide) (by assumption)) ?_
        | with_reducible refine Ok_be (e_isCell (by first | assumption | omega)) ?_
        | with_reducible refine Ok_be (e_oor (by assumption) (by decide) (by decide)) ?_
        | with_reducible refine Ok_be (r_isIn (by first | assumption | omega) (by first | decide | omega) (by first | decide | omega)) ?_
        | with_reducible refine Ok_be (r_bound (by assumption) (by decide) (by decide)) ?_
        | with_reducible refine Ok_be (r_isF (by assumption) (by assumption)) ?_
        | with_reducible refine Ok_be (r_isT (by assumption) (by assumption)) ?_
        | with_reducible refine Ok_be (r_isP (by assumption) (by assumption)) ?_
        | with_reducible refine Ok_be (r_isCell (by first | assumption | omega)) ?_)
    exact Ok_be (r_no 1 (by omega) (by decide) (by decide)) (Ok_ret ⟨rfl, sim_bump s 1⟩)
