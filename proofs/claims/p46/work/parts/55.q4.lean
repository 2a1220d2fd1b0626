/-! the first who has more, where to stand, where a kettle goes -/
def noN (u : US) : Nat := bs (fun t => decide (u 6 t < 0)) (u 0 7).toNat 0
def ltS (m : Nat) : Nat → Nat → Int
  | 0, _ => -9
  | k + 1, i => if m.testBit i = true then (i : Int) else ltS m k (i + 1)
theorem ltS_b (m : Nat) : ∀ k i, -9 ≤ ltS m k i ∧ ltS m k i ≤ i + k
  | 0, i => by
    show -9 ≤ (-9 : Int) ∧ (-9 : Int) ≤ _
    omega
  | k + 1, i => by
    have := ltS_b m k (i + 1)
    simp only [ltS]
    split <;> omega
theorem ltS_hi {m T : Nat} (h : m < 2 ^ T) : ∀ k i, T ≤ i → ltS m k i = -9
  | 0, _, _ => rfl
  | k + 1, i, hi => by
    have : m.testBit i = false := Nat.testBit_lt_two_pow (Nat.lt_of_lt_of_le h (Nat.pow_le_pow_right (by decide) hi))
    simp only [ltS]
    rw [this, ltS_hi h k (i + 1) (by omega)]
    rfl
theorem ltS_T {m T : Nat} (h : m < 2 ^ T) : ∀ k j i, i + k = T → ltS m (k + j) i = ltS m k i
  | 0, j, i, hi => by rw [ltS_hi h _ i (by omega)]; rfl
  | k + 1, j, i, hi => by
    rw [show k + 1 + j = (k + j) + 1 by omega]
    simp only [ltS]
    rw [ltS_T h k j (i + 1) (by omega)]
def frstN (w : Nat) : Nat → US → Nat
  | 0, _ => 0
  | k + 1, u => if w ^^^ (w &&& noN (hourS u)) = 0 then frstN w k (hourS u) else w ^^^ (w &&& noN (hourS u))
theorem but_lt {w x T : Nat} (h : w < 2 ^ T) : w ^^^ (w &&& x) < 2 ^ T := Nat.xor_lt_two_pow h (Nat.lt_of_le_of_lt Nat.and_le_left h)
theorem frstN_lt {w T : Nat} (h : w < 2 ^ T) : ∀ k u, frstN w k u < 2 ^ T
  | 0, _ => Nat.two_pow_pos T
  | k + 1, u => by
    simp only [frstN]
    split
    · exact frstN_lt h k _
    · exact but_lt h
theorem noN_b {H : Int} {u : US} (wf : WF H u) : noS u = ((noN u : Nat) : Int) ∧ noN u < 2 ^ (u 0 7).toNat ∧ noN u < 256 := by
  have b := (wF wf).2.1
  have l := bs_lt (fun t => decide (u 6 t < 0)) (u 0 7).toNat 0
  have : 2 ^ (u 0 7).toNat ≤ 2 ^ 8 := Nat.pow_le_pow_right (by decide) (by omega)
  exact ⟨noS_bs wf, l, Nat.lt_of_lt_of_le l this⟩
/-- one stands there for some hours: what is his then -/
def stV (u : US) (p N : Nat) (c : Nat) : Int := worthsS (hoursS N (uset u 10 p c)) (p : Int)
def stF (u : US) (p N : Nat) : Nat → Int × Int → Int × Int := fun c x => if x.2 < stV u p N c then ((c : Int), stV u p N c) else x
theorem e_stand_63 {n p N : Nat} {c3 : Int} {M0 : Mem} (hn : 2000 ≤ n) (hp : p < 5) (hN : N ≤ 30) (h3 : I32 c3) (wf0 : WF 999 (vw M0 0)) : ∀ k t (i : Nat) (x : Int × Int) M, i + k = 24 → k < t → SkyOk M → KM M0 M → -9 ≤ x.2 ∧ x.2 ≤ 72 → -9 ≤ x.1 ∧ x.1 ≤ 24 →
    Ok (m_X5_stand_63 n t M (p : Int) (N : Int) c3 x.1 x.2 (i : Int)) (fun r M' => r = (if c3 = 0 then (frm (stF (vw M0 0) p N) k i x).1 else (frm (stF (vw M0 0) p N) k i x).2) ∧ I32 r ∧ SkyOk M' ∧ KM M0 M') := by
  intro k
  induction k with
  | zero =>
    intro t i x M hi ht sk km hx hx1
    cases t with
    | zero => omega
    | succ t =>
      rw [m_X5_stand_63]
      repeat (first
          | with_reducible refine Ok_g (by first | assumption | omega) ?_
          | with_reducible refine Ok_lt ?_
          | with_reducible refine Ok_t (by first | assumption | omega) ?_
          | with_reducible refine Ok_f (by first | assumption | omega) ?_)
      refine Ok_if (fun g => Ok_ret ⟨?_, by omega, sk, km⟩) (fun g => Ok_ret ⟨?_, by omega, sk, km⟩)
      · rw [if_pos g]; rfl
      · rw [if_neg g]; rfl
  | succ k ih =>
    intro t i x M hi ht sk km hx hx1
    cases t with
    | zero => omega
    | succ t =>
      have e0 := vw0_KM km
      have wM : WF 999 (vw M 0) := by rw [e0]; exact wf0
      rw [m_X5_stand_63]
      repeat (first
          | with_reducible refine Ok_g (by first | assumption | omega) ?_
          | with_reducible refine Ok_lt ?_
          | with_reducible refine Ok_t (by first | assumption | omega) ?_
          | with_reducible refine Ok_f (by first | assumption | omega) ?_)
      refine Ok_bd (e_begin hn sk wM (by decide)) ?_
      rintro _ M1 ⟨v1, k1, l1, f1⟩
      repeat (first
          | with_reducible refine Ok_g (by first | assumption | omega) ?_
          | with_reducible refine Ok_lt ?_
          | with_reducible refine Ok_wr ?_
          | with_reducible refine Ok_t (by first | assumption | omega) ?_
          | with_reducible refine Ok_f (by first | assumption | omega) ?_)
      simp only [Int.toNat_natCast]
      have e2 : vw (mup M1 32 p (i : Int)) 22 = uset (vw M0 0) 10 p (i : Int) := by
        rw [← e0, ← v1]
        exact vw_set (w := 22) (k := 10) (by omega) (by decide) (by decide) (by decide) (show p < 5 by omega)
      have w2 : WF 999 (vw (mup M1 32 p (i : Int)) 22) := by
        rw [e2]
        exact WF_set wf0 10 p (by show (0 : Int) ≤ _; omega) (by show _ ≤ (23 : Int); omega)
      refine Ok_bd (e_goOn (N := (N : Int)) hn (by omega) (by omega) (SkyOk_keep k1 (fun q i _ _ => mup_n _ (by omega))) w2) ?_
      rintro _ M2 ⟨v2, k2, l2, f2⟩
      rw [Int.toNat_natCast, e2] at v2
      have w3 : WF 1200 (vw M2 22) := by
        rw [v2]
        exact WF_le (hoursS_wf N 0 _ (by rw [← e2]; exact w2)) (by omega)
      have wb := worthsS_b w3 (p : Int)
      refine Ok_be (e_worthsOf hn (by decide) w3 (by omega)) ?_
      have kmm : KM M0 M2 := fun q j hq => by
        rw [f2 q j (by omega) (by omega), mup_n _ (by omega), f1 q j (by omega), km q j hq]
      have ev : worthsS (vw M2 22) (p : Int) = stV (vw M0 0) p N i := by rw [v2]; rfl
      rw [ev] at wb ⊢
      repeat (first
          | with_reducible refine Ok_g (by first | assumption | omega) ?_
          | with_reducible refine Ok_lt ?_
          | with_reducible refine Ok_t (by first | assumption | omega) ?_
          | with_reducible refine Ok_f (by first | assumption | omega) ?_)
      refine Ok_if (fun g => ?_) (fun g => ?_)
      · refine Ok_mono (ih t (i + 1) x M2 (by omega) (by omega) k2 kmm hx hx1) ?_
        rintro r M' ⟨h1, h2⟩
        refine ⟨?_, h2⟩
        rw [h1]
        simp only [frm]
        rw [show stF (vw M0 0) p N i x = x from if_neg (by omega)]
      · refine Ok_mono (ih t (i + 1) ((i : Int), stV (vw M0 0) p N i) M2 (by omega) (by omega) k2 kmm (by show -9 ≤ stV (vw M0 0) p N i ∧ stV (vw M0 0) p N i ≤ 72; omega) (by show -9 ≤ (i : Int) ∧ (i : Int) ≤ 24; omega)) ?_
        rintro r M' ⟨h1, h2⟩
        refine ⟨?_, h2⟩
        rw [h1]
        simp only [frm]
        rw [show stF (vw M0 0) p N i x = ((i : Int), stV (vw M0 0) p N i) from if_pos (by omega)]
theorem stV_b {u : US} (wu : WF 999 u) {p N c : Nat} (hp : p < 5) (hN : N ≤ 30) (hc : c < 24) : 0 ≤ stV u p N c :=
  (worthsS_b (hoursS_wf N 0 _ (WF_set wu 10 p (by show (0 : Int) ≤ _; omega) (by show _ ≤ (23 : Int); omega))) (p : Int)).1
theorem st_first {u : US} (wu : WF 999 u) {p N : Nat} (hp : p < 5) (hN : N ≤ 30) : frm (stF u p N) 24 0 (-1, -1) = frm (stF u p N) 24 0 (-9, -9) := by
  have b := stV_b wu (c := 0) hp hN (by decide)
  rw [show (24 : Nat) = 23 + 1 from rfl]
  simp only [frm]
  rw [show stF u p N 0 (-1, -1) = (((0 : Nat) : Int), stV u p N 0) from if_pos (by show (-1 : Int) < _; omega), show stF u p N 0 (-9, -9) = (((0 : Nat) : Int), stV u p N 0) from if_pos (by show (-9 : Int) < _; omega)]
theorem vw_k22 {M : Mem} {v : Int} (hv : I32 v) : vw (mup M 129 3 v) 22 = uset (vw M 22) 0 20 v := by
  funext k i
  show _ = (if k = 0 ∧ i = 20 then v else vw M 22 k i)
  by_cases c : k = 0 ∧ i = 20
  · obtain ⟨rfl, rfl⟩ := c
    rw [if_pos ⟨rfl, rfl⟩, v22k, rd_ups _ _ _ hv]
  · rw [if_neg c]
    unfold vw
    by_cases k0 : k = 0
    · rw [if_pos k0, if_pos k0]
      unfold vs
      rw [rd_upne _ _ _ 22 _ _ (by omega), rd_upne _ _ _ 129 4 _ (by omega)]
      by_cases g : i = 3 ∨ i = 7 ∨ i = 12 ∨ i = 13 ∨ i = 14
      · rw [if_pos g, if_pos g]
      · have i20 : i ≠ 20 := by omega
        rw [if_neg g, if_neg g, if_neg i20, if_neg i20]
        simp
    · rw [if_neg k0, if_neg k0]
      by_cases k6 : k = 6
      · rw [if_pos k6, if_pos k6, rd_upne _ _ _ _ _ _ (by omega)]
      · rw [if_neg k6, if_neg k6]
        by_cases g : i < lnk k
        · have := lnk_le g
          rw [if_pos g, if_pos g, rd_upne _ _ _ _ _ _ (by omega)]
        · rw [if_neg g, if_neg g]
