/-! what can be taken back -/
theorem e_bec {n : Nat} {M : Mem} {w w' : Nat} (hw : isW w) (hw' : isW w') (hne : w ≠ w') (h22 : w ≠ 22) (hk : vw M w' 0 20 = -1) (hs : vw M w' 0 21 = 0) :
    Ok (m_X4_become n M w w') (fun _ M' => vw M' w = vw M w' ∧ ∀ q i, (q < w ∨ w + 10 < q) → M' q i = M q i) := by
  refine Ok_mono (e_become hw hw' hne) ?_
  rintro _ M' ⟨h1, h2⟩
  refine ⟨?_, h2⟩
  funext k i
  rw [h1 k i]
  by_cases c : k = 0 ∧ (i = 20 ∨ i = 21)
  · rw [if_pos c]
    obtain ⟨rfl, c | c⟩ := c
    · subst c
      rw [hk]
      show vs M w 20 = -1
      unfold vs
      rw [if_neg (by omega), if_pos rfl, if_neg h22, if_neg (by omega)]
    · subst c
      rw [hs]
      show vs M w 21 = 0
      unfold vs
      rw [if_neg (by omega), if_neg (by omega), if_pos rfl, if_neg h22, if_neg (by omega)]
  · rw [if_neg c]
theorem w_ket (M : Mem) {w : Nat} (h22 : w ≠ 22) (h137 : w ≠ 137) : vw M w 0 20 = -1 ∧ vw M w 0 21 = 0 := by
  constructor
  · show vs M w 20 = -1
    unfold vs
    rw [if_neg (by omega), if_pos rfl, if_neg h22, if_neg h137]
  · show vs M w 21 = 0
    unfold vs
    rw [if_neg (by omega), if_neg (by omega), if_pos rfl, if_neg h22, if_neg h137]
def KCc (M M1 : Mem) (b1 sh : Nat) : Prop := rd M1 130 4 = b1 ∧ EarlyOk M1 ∧ (∀ j, j < b1 → vw M1 (ea M1 j) = if j + 1 = b1 then vw M 0 else vw M (ea M (j + sh))) ∧ (∀ q i, (q < 33 ∨ 120 < q) → q ≠ 131 → ¬ (q = 130 ∧ i = 4) → M1 q i = M q i)
theorem ea_W {M : Mem} (e : EarlyOk M) {j : Nat} (hj : j < 8) : isW (ea M j) ∧ 33 ≤ ea M j ∧ ea M j ≤ 110 := by
  have := e.1 j hj
  unfold ea
  omega
theorem ea_ne {M : Mem} (e : EarlyOk M) {i j : Nat} (hi : i < 8) (hj : j < 8) (h : i ≠ j) : ea M i + 11 ≤ ea M j ∨ ea M j + 11 ≤ ea M i := by
  have a := e.1 i hi
  have b := e.1 j hj
  have c := e.2 i j hi hj h
  unfold ea
  omega
theorem e_keep_58 {n b : Nat} {M : Mem} (e : EarlyOk M) (hb : rd M 130 4 = b) (hb8 : b < 8) : Ok (m_X5_keepForBack_58 n M) (fun _ M1 => KCc M M1 (b + 1) 0) := by
  obtain ⟨w1, w2, w3⟩ := ea_W e hb8
  have k0 := w_ket M (w := 0) (by decide) (by decide)
  unfold m_X5_keepForBack_58
  rw [hb]
  simp only [Int.toNat_natCast]
  refine Ok_g (by omega) (Ok_g w1 ?_)
  refine Ok_bd (e_bec (w := ea M b) (w' := 0) w1 (by decide) (by omega) (by omega) k0.1 k0.2) ?_
  rintro _ M1 ⟨v1, f1⟩
  have e4 : rd M1 130 4 = b := by rw [rd_of (f1 _ _ (by omega))]; exact hb
  rw [e4]
  have fr : ∀ q i, (q < ea M b ∨ ea M b + 10 < q) → ¬ (q = 130 ∧ i = 4) → mup M1 130 4 ((b : Int) + 1) q i = M q i := by
    intro q i h1 h2
    rw [mup_n _ h2, f1 q i h1]
  have ej : ∀ j, ea (mup M1 130 4 ((b : Int) + 1)) j = ea M j := by
    intro j
    unfold ea
    rw [rd_of (fr 131 j (by omega) (by omega))]
  refine Ok_wr (Ok_ret ⟨?_, early_keep e (fun i => fr _ _ (by omega) (by omega)), ?_, fun q i h1 h2 h3 => fr q i (by omega) h3⟩)
  · rw [rd_ups _ _ _ (by omega)]; omega
  · intro j hj
    rw [ej]
    by_cases c : j = b
    · subst c
      rw [if_pos rfl, ← v1]
      exact vwE_congr (by omega) (fun q i _ _ => mup_n _ (by omega))
    · have ne := ea_ne e (i := j) (j := b) (by omega) hb8 c
      have wj := ea_W e (j := j) (by omega)
      rw [if_neg (by omega)]
      exact vwE_congr (by omega) (fun q i _ _ => fr q i (by omega) (by omega))
theorem e_keep_18 {n : Nat} {M0 : Mem} {o : Nat} (e : EarlyOk M0) (ho : o = ea M0 0) : ∀ k t (i : Nat) M, i + 1 + k = 8 → k < t → (∀ q j, q ≠ 131 → M q j = M0 q j) → (∀ j, j < i → rd M 131 j = rd M0 131 (j + 1)) → (∀ j, i < j → j < 8 → rd M 131 j = rd M0 131 j) →
    Ok (m_X5_keepForBack_18 n t M o ((i : Int) + 1)) (fun _ M1 => KCc M0 M1 8 1) := by
  intro k
  induction k with
  | zero =>
    intro t i M hi ht h1 h2 h3
    cases t with
    | zero => omega
    | succ t =>
      have e0 := e.1 0 (by decide)
      rw [m_X5_keepForBack_18]
      repeat (first
          | with_reducible refine Ok_g (by first | assumption | omega) ?_
          | with_reducible refine Ok_lt ?_
          | with_reducible refine Ok_wr ?_
          | with_reducible refine Ok_t (by first | assumption | omega) ?_
          | with_reducible refine Ok_f (by first | assumption | omega) ?_)
      have fr : ∀ q j, q ≠ 131 → ¬ (q = 130 ∧ j = 4) → mup (mup M 131 (Int.toNat 7) ((o : Nat) : Int)) 130 4 7 q j = M0 q j := by
        intro q j a b
        rw [mup_n _ b, mup_n _ (by omega), h1 q j a]
      have eo : ((o : Nat) : Int) = rd M0 131 0 := by
        rw [ho]
        unfold ea
        omega
      have r7 : rd (mup (mup M 131 (Int.toNat 7) ((o : Nat) : Int)) 130 4 7) 131 7 = rd M0 131 0 := by
        rw [rd_upne _ _ _ _ _ _ (by omega), show Int.toNat 7 = 7 from rfl, rd_ups _ _ _ (by omega), eo]
      have rj : ∀ j, j < 7 → rd (mup (mup M 131 (Int.toNat 7) ((o : Nat) : Int)) 130 4 7) 131 j = rd M0 131 (j + 1) := by
        intro j hj
        rw [rd_upne _ _ _ _ _ _ (by omega), show Int.toNat 7 = 7 from rfl, rd_upne _ _ _ _ _ _ (by omega)]
        exact h2 j (by omega)
      have eN : EarlyOk (mup (mup M 131 (Int.toNat 7) ((o : Nat) : Int)) 130 4 7) := by
        refine ⟨fun j hj => ?_, fun a b ha hb hab => ?_⟩
        · by_cases c : j = 7
          · rw [c, r7]; exact e0
          · rw [rj j (by omega)]; exact e.1 _ (by omega)
        · by_cases c : a = 7
          · rw [c, r7, rj b (by omega)]; exact e.2 _ _ (by omega) (by omega) (by omega)
          · by_cases d : b = 7
            · rw [d, r7, rj a (by omega)]; exact e.2 _ _ (by omega) (by omega) (by omega)
            · rw [rj a (by omega), rj b (by omega)]; exact e.2 _ _ (by omega) (by omega) (by omega)
      refine Ok_mono (e_keep_58 (b := 7) eN (rd_ups _ _ _ (by decide)) (by decide)) ?_
      rintro _ M1 ⟨a1, a2, a3, a4⟩
      refine ⟨a1, a2, ?_, fun q i b1 b2 b3 => by rw [a4 q i b1 b2 b3, fr q i b2 b3]⟩
      intro j hj
      rw [a3 j hj]
      by_cases c : j + 1 = 8
      · rw [if_pos (by omega), if_pos c]
        exact vwW_congr (by decide) (fun q i _ _ => fr q i (by omega) (by omega))
      · rw [if_neg (by omega), if_neg c]
        have ee : ea (mup (mup M 131 (Int.toNat 7) ((o : Nat) : Int)) 130 4 7) (j + 0) = ea M0 (j + 1) := by
          unfold ea
          rw [Nat.add_zero, rj j (by omega)]
        rw [ee]
        have w := ea_W e (j := j + 1) (by omega)
        exact vwE_congr (by omega) (fun q i _ _ => fr q i (by omega) (by omega))
  | succ k ih =>
    intro t i M hi ht h1 h2 h3
    cases t with
    | zero => omega
    | succ t =>
      have ei := e.1 (i + 1) (by omega)
      have r1 := h3 (i + 1) (by omega) (by omega)
      rw [m_X5_keepForBack_18]
      simp only [show (i : Int) + 1 - 1 = (i : Int) by omega]
      simp only [show (i : Int) + 1 = ((i + 1 : Nat) : Int) by omega, Int.toNat_natCast]
      rw [r1, show (((rd M0 131 (i + 1)).toNat : Nat) : Int) = rd M0 131 (i + 1) by omega]
      repeat (first
          | with_reducible refine Ok_g (by first | assumption | omega) ?_
          | with_reducible refine Ok_lt ?_
          | with_reducible refine Ok_wr ?_
          | with_reducible refine Ok_t (by first | assumption | omega) ?_
          | with_reducible refine Ok_f (by first | assumption | omega) ?_)
      refine ih t (i + 1) _ (by omega) (by omega) (fun q j hq => by rw [mup_ne _ hq]; exact h1 q j hq) ?_ ?_
      · intro j hj
        rw [rd_up _ _ _ _ _ (by omega)]
        by_cases c : j = i
        · rw [if_pos ⟨rfl, c⟩, c]
        · rw [if_neg (by omega)]; exact h2 j (by omega)
      · intro j a b
        rw [rd_upne _ _ _ _ _ _ (by omega)]; exact h3 j (by omega) b
theorem e_keep {n b : Nat} {M : Mem} (hn : 2000 ≤ n) (e : EarlyOk M) (hb : rd M 130 4 = b) (hb8 : b ≤ 8) : Ok (m_X5_keepForBack n M) (fun _ M1 => ∃ b1 sh, (b < 8 ∧ b1 = b + 1 ∧ sh = 0 ∨ b = 8 ∧ b1 = 8 ∧ sh = 1) ∧ KCc M M1 b1 sh) := by
  unfold m_X5_keepForBack
  rw [hb]
  by_cases c : b < 8
  · repeat (first
        | with_reducible refine Ok_g (by first | assumption | omega) ?_
        | with_reducible refine Ok_lt ?_
        | with_reducible refine Ok_t (by first | assumption | omega) ?_
        | with_reducible refine Ok_f (by first | assumption | omega) ?_)
    refine Ok_mono (e_keep_58 (n := n) e hb c) ?_
    intro _ M1 h
    exact ⟨b + 1, 0, .inl ⟨c, rfl, rfl⟩, h⟩
  · have e0 := e.1 0 (by decide)
    simp only [show Int.toNat 0 = 0 from rfl]
    repeat (first
        | with_reducible refine Ok_g (by first | assumption | omega) ?_
        | with_reducible refine Ok_lt ?_
        | with_reducible refine Ok_t (by first | assumption | omega) ?_
        | with_reducible refine Ok_f (by first | assumption | omega) ?_)
    refine Ok_mono (e_keep_18 (n := n) (M0 := M) (o := ea M 0) e rfl 7 n 0 M (by decide) (by omega) (fun _ _ _ => rfl) (fun j hj => absurd hj (by omega)) (fun _ _ _ => rfl)) ?_
    intro _ M1 h
    exact ⟨8, 1, .inr ⟨by omega, rfl, rfl⟩, h⟩
