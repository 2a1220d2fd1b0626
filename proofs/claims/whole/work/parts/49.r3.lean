/-! the second side keeps a coast in a row of numbers -/
def offk (k : Nat) : Nat := if k ≤ 4 then 6 * (k - 1) else if k ≤ 7 then 18 + 8 * (k - 4) else 42 + 5 * (k - 7)
theorem ln_k {k : Nat} (h1 : 1 ≤ k) (h2 : k ≤ 10) : ln (137 + k) = lnk k := by
  have : k = 1 ∨ k = 2 ∨ k = 3 ∨ k = 4 ∨ k = 5 ∨ k = 6 ∨ k = 7 ∨ k = 8 ∨ k = 9 ∨ k = 10 := by omega
  rcases this with rfl | rfl | rfl | rfl | rfl | rfl | rfl | rfl | rfl | rfl <;> decide
theorem off_s {k : Nat} (h1 : 1 ≤ k) (h2 : k ≤ 10) : offk (k + 1) = offk k + lnk k ∧ lnk k ≤ 8 ∧ offk k + lnk k ≤ 62 := by
  have : k = 1 ∨ k = 2 ∨ k = 3 ∨ k = 4 ∨ k = 5 ∨ k = 6 ∨ k = 7 ∨ k = 8 ∨ k = 9 ∨ k = 10 := by omega
  rcases this with rfl | rfl | rfl | rfl | rfl | rfl | rfl | rfl | rfl | rfl <;> decide
theorem off_mono {k j : Nat} (h1 : 1 ≤ k) (h : k < j) (h2 : j ≤ 11) : offk k + lnk k ≤ offk j := by
  unfold offk lnk
  repeat' split
  all_goals omega
theorem mup_c (M : Mem) (q i : Nat) (x : Int32) : mup M q i x.toInt q i = x := by
  show (if q = q ∧ i = i then Int32.ofInt x.toInt else _) = x
  rw [if_pos ⟨rfl, rfl⟩, i_ofToInt]
theorem mup_n (M : Mem) {q i a b : Nat} {v : Int} (h : ¬ (a = q ∧ b = i)) : mup M q i v a b = M a b := by
  show (if a = q ∧ b = i then _ else _) = _
  rw [if_neg h]
theorem k_pass_2 {n : Nat} {q L cur : Nat} {M0 : Mem} (hq : 138 ≤ q ∧ q ≤ 147) (hL : ln q = L) (hL8 : L ≤ 8) (hc : cur + L ≤ 750) : ∀ k t (i : Nat) M, i + k = L → k < t → rd M 137 27 = 1 → rd M 137 28 = ((cur + i : Nat) : Int) →
    (∀ b, b < i → M 155 (cur + b) = M0 q b) → (∀ a b, ¬ (a = 155 ∧ cur ≤ b ∧ b < cur + L) → ¬ (a = 137 ∧ b = 28) → M a b = M0 a b) →
    Ok (m_X6_passes_2 n t M q (i : Int)) (fun _ M' => rd M' 137 28 = ((cur + L : Nat) : Int) ∧ (∀ b, b < L → M' 155 (cur + b) = M0 q b) ∧ (∀ a b, ¬ (a = 155 ∧ cur ≤ b ∧ b < cur + L) → ¬ (a = 137 ∧ b = 28) → M' a b = M0 a b)) := by
  intro k
  induction k with
  | zero =>
    intro t i M hi ht h27 h28 h1 h2
    cases t with
    | zero => omega
    | succ t =>
      rw [m_X6_passes_2, hL]
      repeat (first
          | with_reducible refine Ok_g (by first | assumption | omega) ?_
          | with_reducible refine Ok_lt ?_
          | with_reducible refine Ok_t (by first | assumption | omega) ?_
          | with_reducible refine Ok_f (by first | assumption | omega) ?_)
      exact Ok_ret ⟨by rw [h28]; omega, fun b hb => h1 b (by omega), h2⟩
  | succ k ih =>
    intro t i M hi ht h27 h28 h1 h2
    cases t with
    | zero => omega
    | succ t =>
      rw [m_X6_passes_2, hL]
      simp only [Int.toNat_natCast, h28]
      unfold m_X6_passes_42
      repeat (first
          | with_reducible refine Ok_g (by first | assumption | omega) ?_
          | with_reducible refine Ok_lt ?_
          | with_reducible refine Ok_wr ?_
          | with_reducible refine Ok_t (by first | assumption | omega) ?_
          | with_reducible refine Ok_f (by first | assumption | omega) ?_)
      rw [rd_upne _ _ _ 137 28 _ (by omega), h28]
      refine ih t (i + 1) _ (by omega) (by omega) ?_ ?_ ?_ ?_
      · rw [rd_upne _ _ _ _ _ _ (by omega), rd_upne _ _ _ _ _ _ (by omega)]; exact h27
      · rw [rd_ups _ _ _ (by omega)]; omega
      · intro b hb
        rw [mup_n _ (by omega)]
        by_cases e : b = i
        · subst e
          show mup M 155 (cur + b) (M q b).toInt 155 (cur + b) = _
          rw [mup_c, h2 q b (by omega) (by omega)]
        · rw [mup_n _ (by omega)]; exact h1 b (by omega)
      · intro a b g1 g2
        rw [mup_n _ g2, mup_n _ (by omega)]; exact h2 a b g1 g2
theorem k_pass {n : Nat} {q L cur : Nat} {M : Mem} (hn : 2000 ≤ n) (hq : 138 ≤ q ∧ q ≤ 147) (hL : ln q = L) (hL8 : L ≤ 8) (hc : cur + L ≤ 750) (h27 : rd M 137 27 = 1) (h28 : rd M 137 28 = (cur : Int)) :
    Ok (m_X6_passes n M q) (fun _ M' => rd M' 137 28 = ((cur + L : Nat) : Int) ∧ (∀ b, b < L → M' 155 (cur + b) = M q b) ∧ (∀ a b, ¬ (a = 155 ∧ cur ≤ b ∧ b < cur + L) → ¬ (a = 137 ∧ b = 28) → M' a b = M a b)) := by
  unfold m_X6_passes
  refine Ok_g ⟨by omega, by omega⟩ ?_
  exact k_pass_2 (n := n) hq hL hL8 hc L n 0 M (by omega) (by omega) h27 h28 (fun b hb => absurd hb (by omega)) (fun _ _ _ _ => rfl)
theorem g_pass_2 {n : Nat} {q L cur : Nat} {M0 : Mem} (hq : 138 ≤ q ∧ q ≤ 147) (hL : ln q = L) (hL8 : L ≤ 8) (hc : cur + L ≤ 750) : ∀ k t (i : Nat) M, i + k = L → k < t → rd M 137 27 = 0 → rd M 137 28 = ((cur + i : Nat) : Int) →
    (∀ b, b < i → M q b = M0 155 (cur + b)) → (∀ a b, ¬ (a = q ∧ b < L) → ¬ (a = 137 ∧ b = 28) → M a b = M0 a b) →
    Ok (m_X6_passes_2 n t M q (i : Int)) (fun _ M' => rd M' 137 28 = ((cur + L : Nat) : Int) ∧ (∀ b, b < L → M' q b = M0 155 (cur + b)) ∧ (∀ a b, ¬ (a = q ∧ b < L) → ¬ (a = 137 ∧ b = 28) → M' a b = M0 a b)) := by
  intro k
  induction k with
  | zero =>
    intro t i M hi ht h27 h28 h1 h2
    cases t with
    | zero => omega
    | succ t =>
      rw [m_X6_passes_2, hL]
      repeat (first
          | with_reducible refine Ok_g (by first | assumption | omega) ?_
          | with_reducible refine Ok_lt ?_
          | with_reducible refine Ok_t (by first | assumption | omega) ?_
          | with_reducible refine Ok_f (by first | assumption | omega) ?_)
      exact Ok_ret ⟨by rw [h28]; omega, fun b hb => h1 b (by omega), h2⟩
  | succ k ih =>
    intro t i M hi ht h27 h28 h1 h2
    cases t with
    | zero => omega
    | succ t =>
      rw [m_X6_passes_2, hL]
      simp only [Int.toNat_natCast, h28]
      unfold m_X6_passes_42
      repeat (first
          | with_reducible refine Ok_g (by first | assumption | omega) ?_
          | with_reducible refine Ok_lt ?_
          | with_reducible refine Ok_wr ?_
          | with_reducible refine Ok_t (by first | assumption | omega) ?_
          | with_reducible refine Ok_f (by first | assumption | omega) ?_)
      rw [rd_upne _ _ _ 137 28 _ (by omega), h28]
      refine ih t (i + 1) _ (by omega) (by omega) ?_ ?_ ?_ ?_
      · rw [rd_upne _ _ _ _ _ _ (by omega), rd_upne _ _ _ _ _ _ (by omega)]; exact h27
      · rw [rd_ups _ _ _ (by omega)]; omega
      · intro b hb
        rw [mup_n _ (by omega)]
        by_cases e : b = i
        · subst e
          show mup M q b (M 155 (cur + b)).toInt q b = _
          rw [mup_c, h2 155 _ (by omega) (by omega)]
        · rw [mup_n _ (by omega)]; exact h1 b (by omega)
      · intro a b g1 g2
        rw [mup_n _ g2, mup_n _ (by omega)]; exact h2 a b g1 g2
theorem g_pass {n : Nat} {q L cur : Nat} {M : Mem} (hn : 2000 ≤ n) (hq : 138 ≤ q ∧ q ≤ 147) (hL : ln q = L) (hL8 : L ≤ 8) (hc : cur + L ≤ 750) (h27 : rd M 137 27 = 0) (h28 : rd M 137 28 = (cur : Int)) :
    Ok (m_X6_passes n M q) (fun _ M' => rd M' 137 28 = ((cur + L : Nat) : Int) ∧ (∀ b, b < L → M' q b = M 155 (cur + b)) ∧ (∀ a b, ¬ (a = q ∧ b < L) → ¬ (a = 137 ∧ b = 28) → M' a b = M a b)) := by
  unfold m_X6_passes
  refine Ok_g ⟨by omega, by omega⟩ ?_
  exact g_pass_2 (n := n) hq hL hL8 hc L n 0 M (by omega) (by omega) h27 h28 (fun b hb => absurd hb (by omega)) (fun _ _ _ _ => rfl)
theorem k_one {n : Nat} {cur : Nat} {M : Mem} {v : Int} (hc : cur + 1 ≤ 750) (h27 : rd M 137 27 = 1) (h28 : rd M 137 28 = (cur : Int)) :
    m_X6_passOne n M v = some (v, mup (mup M 155 cur v) 137 28 ((cur : Int) + 1)) := by
  refine Ok_eq ?_
  unfold m_X6_passOne m_X6_passOne_20 m_X6_passOne_38
  rw [h28]
  repeat (first
      | with_reducible refine Ok_g (by first | assumption | omega) ?_
      | with_reducible refine Ok_lt ?_
      | with_reducible refine Ok_wr ?_
      | with_reducible refine Ok_t (by first | assumption | omega) ?_
      | with_reducible refine Ok_f (by first | assumption | omega) ?_)
  rw [rd_upne _ _ _ _ _ _ (by omega), h28]
  exact Ok_ret ⟨rfl, by rw [Int.toNat_natCast]⟩
theorem g_one {n : Nat} {cur : Nat} {M : Mem} {v : Int} (hc : cur + 1 ≤ 750) (h27 : rd M 137 27 = 0) (h28 : rd M 137 28 = (cur : Int)) :
    m_X6_passOne n M v = some (rd M 155 cur, mup M 137 28 ((cur : Int) + 1)) := by
  refine Ok_eq ?_
  unfold m_X6_passOne m_X6_passOne_20 m_X6_passOne_38
  rw [h28, Int.toNat_natCast]
  repeat (first
      | with_reducible refine Ok_g (by first | assumption | omega) ?_
      | with_reducible refine Ok_lt ?_
      | with_reducible refine Ok_wr ?_
      | with_reducible refine Ok_t (by first | assumption | omega) ?_
      | with_reducible refine Ok_f (by first | assumption | omega) ?_)
  exact Ok_ret ⟨rfl, rfl⟩
/-- rows kept so far -/
def KI (M0 M : Mem) (s j : Nat) : Prop := rd M 137 27 = 1 ∧ rd M 137 28 = ((68 * s + offk (j + 1) : Nat) : Int) ∧ (∀ k b, 1 ≤ k → k ≤ j → b < lnk k → M 155 (68 * s + offk k + b) = M0 (137 + k) b) ∧ (∀ a b, ¬ (a = 155 ∧ 68 * s ≤ b ∧ b < 68 * s + 67) → ¬ (a = 137 ∧ (b = 27 ∨ b = 28)) → M a b = M0 a b)
theorem KI_step {n s j : Nat} {M0 M : Mem} (hn : 2000 ≤ n) (hs : s ≤ 10) (hj : j ≤ 9) (h : KI M0 M s j) (q : Nat) (hq : q = 137 + (j + 1)) : Ok (m_X6_passes n M q) (fun _ M' => KI M0 M' s (j + 1)) := by
  obtain ⟨h1, h2, h3, h4⟩ := h
  subst hq
  have o := off_s (k := j + 1) (by omega) (by omega)
  refine Ok_mono (k_pass (L := lnk (j + 1)) (cur := 68 * s + offk (j + 1)) hn (by omega) (ln_k (by omega) (by omega)) o.2.1 (by omega) h1 h2) ?_
  rintro _ M' ⟨a1, a2, a3⟩
  refine ⟨by rw [rd_of (a3 137 27 (by omega) (by omega))]; exact h1, by rw [a1]; omega, ?_, ?_⟩
  · intro k b g1 g2 g3
    by_cases e : k = j + 1
    · subst e
      rw [a2 b g3, h4 _ _ (by omega) (by omega)]
    · have m := off_mono (k := k) (j := j + 1) g1 (by omega) (by omega)
      rw [a3 _ _ (by omega) (by omega)]
      exact h3 k b g1 (by omega) g3
  · intro a b g1 g2
    rw [a3 a b (by omega) (by omega)]
    exact h4 a b g1 g2
/-- numbers kept so far: i at 62 + j -/
theorem K1_step {n s c i : Nat} {M0 M : Mem} {k : Int → Mem → Rs} {P : Int → Mem → Prop} (hs : s ≤ 10) (hc : 62 ≤ c ∧ c ≤ 66) (hi : i ≠ 27 ∧ i ≠ 28) (h1 : rd M 137 27 = 1) (h2 : rd M 137 28 = ((68 * s + c : Nat) : Int)) (h4 : ∀ a b, ¬ (a = 155 ∧ 68 * s ≤ b ∧ b < 68 * s + 67) → ¬ (a = 137 ∧ (b = 27 ∨ b = 28)) → M a b = M0 a b)
    (g : ∀ M', rd M' 137 27 = 1 → rd M' 137 28 = ((68 * s + (c + 1) : Nat) : Int) → M' 155 (68 * s + c) = M0 137 i → (∀ a b, ¬ (a = 155 ∧ b = 68 * s + c) → ¬ (a = 137 ∧ (b = 27 ∨ b = 28)) → M' a b = M a b) →
      (∀ a b, ¬ (a = 155 ∧ 68 * s ≤ b ∧ b < 68 * s + 67) → ¬ (a = 137 ∧ (b = 27 ∨ b = 28)) → M' a b = M0 a b) → Ok (k 0 M') P) :
    Ok (bd (m_X6_passOne n M (rd M 137 i)) (fun r M1 => wr M1 137 i r (fun M2 => k 0 M2))) P := by
  refine Ok_be (k_one (cur := 68 * s + c) (by omega) h1 h2) (Ok_wr ?_)
  have fr : ∀ a b, ¬ (a = 155 ∧ b = 68 * s + c) → ¬ (a = 137 ∧ (b = 27 ∨ b = 28)) → mup (mup (mup M 155 (68 * s + c) (rd M 137 i)) 137 28 (((68 * s + c : Nat) : Int) + 1)) 137 i (rd M 137 i) a b = M a b := by
    intro a b g1 g2
    by_cases e : a = 137 ∧ b = i
    · obtain ⟨rfl, rfl⟩ := e
      exact mup_c _ _ _ _
    · rw [mup_n _ e, mup_n _ (by omega), mup_n _ (by omega)]
  refine g _ ?_ ?_ ?_ fr (fun a b g1 g2 => by rw [fr a b (by omega) g2, h4 a b g1 g2])
  · rw [rd_upne _ _ _ _ _ _ (by omega), rd_upne _ _ _ _ _ _ (by omega), rd_upne _ _ _ _ _ _ (by omega)]; exact h1
  · rw [rd_upne _ _ _ _ _ _ (by omega), rd_ups _ _ _ (by omega)]; omega
  · rw [mup_n _ (by omega), mup_n _ (by omega)]
    exact (mup_c _ _ _ _).trans (h4 _ _ (by omega) (by omega))
theorem r_keeps {n s : Nat} {M : Mem} (hn : 2000 ≤ n) (hs : s ≤ 10) : Ok (m_X6_passesAll n M (s : Int) 1) (fun _ M' => (∀ k b, 1 ≤ k → k ≤ 10 → b < lnk k → M' 155 (68 * s + offk k + b) = M (137 + k) b) ∧
    (M' 155 (68 * s + 62) = M 137 3 ∧ M' 155 (68 * s + 63) = M 137 7 ∧ M' 155 (68 * s + 64) = M 137 12 ∧ M' 155 (68 * s + 65) = M 137 14 ∧ M' 155 (68 * s + 66) = M 137 13) ∧
    (∀ a b, ¬ (a = 155 ∧ 68 * s ≤ b ∧ b < 68 * s + 67) → ¬ (a = 137 ∧ (b = 27 ∨ b = 28)) → M' a b = M a b)) := by
  unfold m_X6_passesAll
  refine Ok_wr (Ok_g (.inr rfl) (Ok_wr ?_))
  have k0 : KI M (mup (mup M 137 28 (68 * (s : Int))) 137 27 1) s 0 := by
    refine ⟨rd_ups _ _ _ (by decide), ?_, fun k b h1 h2 => absurd h2 (by omega), fun a b h1 h2 => ?_⟩
    · rw [rd_upne _ _ _ _ _ _ (by omega), rd_ups _ _ _ (by omega)]
      show 68 * (s : Int) = ((68 * s + 0 : Nat) : Int)
      omega
    · rw [mup_n _ (by omega), mup_n _ (by omega)]
  refine Ok_bd (KI_step hn hs (by decide) k0 138 rfl) (fun _ M1 k1 => ?_)
  refine Ok_bd (KI_step hn hs (by decide) k1 139 rfl) (fun _ M2 k2 => ?_)
  refine Ok_bd (KI_step hn hs (by decide) k2 140 rfl) (fun _ M3 k3 => ?_)
  refine Ok_bd (KI_step hn hs (by decide) k3 141 rfl) (fun _ M4 k4 => ?_)
  refine Ok_bd (KI_step hn hs (by decide) k4 142 rfl) (fun _ M5 k5 => ?_)
  refine Ok_bd (KI_step hn hs (by decide) k5 143 rfl) (fun _ M6 k6 => ?_)
  refine Ok_bd (KI_step hn hs (by decide) k6 144 rfl) (fun _ M7 k7 => ?_)
  refine Ok_bd (KI_step hn hs (by decide) k7 145 rfl) (fun _ M8 k8 => ?_)
  refine Ok_bd (KI_step hn hs (by decide) k8 146 rfl) (fun _ M9 k9 => ?_)
  refine Ok_bd (KI_step hn hs (by decide) k9 147 rfl) (fun _ M10 k10 => ?_)
  obtain ⟨a1, a2, a3, a4⟩ := k10
  have a2' : rd M10 137 28 = ((68 * s + 62 : Nat) : Int) := a2
  refine K1_step (c := 62) (i := 3) (M0 := M) (k := fun _ M16 => bd (m_X6_passOne n M16 (rd M16 137 7)) (fun r18 M17 => wr M17 137 7 r18 (fun M19 => bd (m_X6_passOne n M19 (rd M19 137 12)) (fun r21 M20 => wr M20 137 12 r21 (fun M22 => bd (m_X6_passOne n M22 (rd M22 137 14)) (fun r24 M23 => wr M23 137 14 r24 (fun M25 => bd (m_X6_passOne n M25 (rd M25 137 13)) (fun r27 M26 => wr M26 137 13 r27 (fun M28 => some (0, M28)))))))))) hs (by omega) (by omega) a1 a2' a4 ?_
  intro N1 b1 b2 b3 b4 b5
  refine K1_step (c := 63) (i := 7) (M0 := M) (k := fun _ M19 => bd (m_X6_passOne n M19 (rd M19 137 12)) (fun r21 M20 => wr M20 137 12 r21 (fun M22 => bd (m_X6_passOne n M22 (rd M22 137 14)) (fun r24 M23 => wr M23 137 14 r24 (fun M25 => bd (m_X6_passOne n M25 (rd M25 137 13)) (fun r27 M26 => wr M26 137 13 r27 (fun M28 => some (0, M28)))))))) hs (by omega) (by omega) b1 b2 b5 ?_
  intro N2 c1 c2 c3 c4 c5
  refine K1_step (c := 64) (i := 12) (M0 := M) (k := fun _ M22 => bd (m_X6_passOne n M22 (rd M22 137 14)) (fun r24 M23 => wr M23 137 14 r24 (fun M25 => bd (m_X6_passOne n M25 (rd M25 137 13)) (fun r27 M26 => wr M26 137 13 r27 (fun M28 => some (0, M28)))))) hs (by omega) (by omega) c1 c2 c5 ?_
  intro N3 d1 d2 d3 d4 d5
  refine K1_step (c := 65) (i := 14) (M0 := M) (k := fun _ M25 => bd (m_X6_passOne n M25 (rd M25 137 13)) (fun r27 M26 => wr M26 137 13 r27 (fun M28 => some (0, M28)))) hs (by omega) (by omega) d1 d2 d5 ?_
  intro N4 e1 e2 e3 e4 e5
  refine K1_step (c := 66) (i := 13) (M0 := M) (k := fun _ M28 => some (0, M28)) hs (by omega) (by omega) e1 e2 e5 ?_
  intro N5 f1 f2 f3 f4 f5
  refine Ok_ret ⟨?_, ⟨?_, ?_, ?_, ?_, f3⟩, f5⟩
  · intro k b g1 g2 g3
    have o := off_s g1 g2
    rw [f4 _ _ (by omega) (by omega), e4 _ _ (by omega) (by omega), d4 _ _ (by omega) (by omega), c4 _ _ (by omega) (by omega), b4 _ _ (by omega) (by omega)]
    exact a3 k b g1 g2 g3
  · rw [f4 _ _ (by omega) (by omega), e4 _ _ (by omega) (by omega), d4 _ _ (by omega) (by omega), c4 _ _ (by omega) (by omega), b3]
  · rw [f4 _ _ (by omega) (by omega), e4 _ _ (by omega) (by omega), d4 _ _ (by omega) (by omega), c3]
  · rw [f4 _ _ (by omega) (by omega), e4 _ _ (by omega) (by omega), d3]
  · rw [f4 _ _ (by omega) (by omega), e3]
/-- rows given back so far -/
def GvI (M0 M : Mem) (s j : Nat) : Prop := rd M 137 27 = 0 ∧ rd M 137 28 = ((68 * s + offk (j + 1) : Nat) : Int) ∧ (∀ k b, 1 ≤ k → k ≤ j → b < lnk k → M (137 + k) b = M0 155 (68 * s + offk k + b)) ∧ (∀ a b, ¬ (138 ≤ a ∧ a ≤ 147 ∧ b < ln a) → ¬ (a = 137 ∧ (b = 27 ∨ b = 28)) → M a b = M0 a b)
theorem GvI_step {n s j : Nat} {M0 M : Mem} (hn : 2000 ≤ n) (hs : s ≤ 10) (hj : j ≤ 9) (h : GvI M0 M s j) (q : Nat) (hq : q = 137 + (j + 1)) : Ok (m_X6_passes n M q) (fun _ M' => GvI M0 M' s (j + 1)) := by
  obtain ⟨h1, h2, h3, h4⟩ := h
  subst hq
  have o := off_s (k := j + 1) (by omega) (by omega)
  have l := ln_k (k := j + 1) (by omega) (by omega)
  refine Ok_mono (g_pass (L := lnk (j + 1)) (cur := 68 * s + offk (j + 1)) hn (by omega) l o.2.1 (by omega) h1 h2) ?_
  rintro _ M' ⟨a1, a2, a3⟩
  refine ⟨by rw [rd_of (a3 137 27 (by omega) (by omega))]; exact h1, by rw [a1]; omega, ?_, ?_⟩
  · intro k b g1 g2 g3
    by_cases e : k = j + 1
    · subst e
      rw [a2 b g3, h4 _ _ (by omega) (by omega)]
    · rw [a3 _ _ (by omega) (by omega)]
      exact h3 k b g1 (by omega) g3
  · intro a b g1 g2
    rw [a3 a b ?_ (by omega)]
    · exact h4 a b g1 g2
    · rintro ⟨rfl, z⟩
      rw [l] at g1
      omega
theorem G1_step {n s c i : Nat} {M0 M : Mem} {k : Int → Mem → Rs} {P : Int → Mem → Prop} (hs : s ≤ 10) (hc : 62 ≤ c ∧ c ≤ 66) (hi : i ≠ 27 ∧ i ≠ 28) (h1 : rd M 137 27 = 0) (h2 : rd M 137 28 = ((68 * s + c : Nat) : Int)) (h4 : ∀ b, M 155 b = M0 155 b)
    (g : ∀ M', rd M' 137 27 = 0 → rd M' 137 28 = ((68 * s + (c + 1) : Nat) : Int) → M' 137 i = M0 155 (68 * s + c) → (∀ a b, ¬ (a = 137 ∧ (b = i ∨ b = 27 ∨ b = 28)) → M' a b = M a b) →
      (∀ b, M' 155 b = M0 155 b) → Ok (k 0 M') P) :
    Ok (bd (m_X6_passOne n M (rd M 137 i)) (fun r M1 => wr M1 137 i r (fun M2 => k 0 M2))) P := by
  refine Ok_be (g_one (cur := 68 * s + c) (by omega) h1 h2) (Ok_wr ?_)
  refine g _ ?_ ?_ ?_ ?_ ?_
  · rw [rd_upne _ _ _ _ _ _ (by omega), rd_upne _ _ _ _ _ _ (by omega)]; exact h1
  · rw [rd_upne _ _ _ _ _ _ (by omega), rd_ups _ _ _ (by omega)]; omega
  · exact (mup_c _ _ _ _).trans (h4 _)
  · intro a b g1
    rw [mup_n _ (by omega), mup_n _ (by omega)]
  · intro b
    rw [mup_n _ (by omega), mup_n _ (by omega)]
    exact h4 b
theorem r_gives {n s : Nat} {M : Mem} (hn : 2000 ≤ n) (hs : s ≤ 10) : Ok (m_X6_passesAll n M (s : Int) 0) (fun _ M' => (∀ k b, 1 ≤ k → k ≤ 10 → b < lnk k → M' (137 + k) b = M 155 (68 * s + offk k + b)) ∧
    (M' 137 3 = M 155 (68 * s + 62) ∧ M' 137 7 = M 155 (68 * s + 63) ∧ M' 137 12 = M 155 (68 * s + 64) ∧ M' 137 14 = M 155 (68 * s + 65) ∧ M' 137 13 = M 155 (68 * s + 66)) ∧
    (∀ a b, ¬ (138 ≤ a ∧ a ≤ 147 ∧ b < ln a) → ¬ (a = 137 ∧ (b = 3 ∨ b = 7 ∨ b = 12 ∨ b = 13 ∨ b = 14 ∨ b = 27 ∨ b = 28)) → M' a b = M a b)) := by
  unfold m_X6_passesAll
  refine Ok_wr (Ok_g (.inl rfl) (Ok_wr ?_))
  have k0 : GvI M (mup (mup M 137 28 (68 * (s : Int))) 137 27 0) s 0 := by
    refine ⟨rd_ups _ _ _ (by decide), ?_, fun k b h1 h2 => absurd h2 (by omega), fun a b h1 h2 => ?_⟩
    · rw [rd_upne _ _ _ _ _ _ (by omega), rd_ups _ _ _ (by omega)]
      show 68 * (s : Int) = ((68 * s + 0 : Nat) : Int)
      omega
    · rw [mup_n _ (by omega), mup_n _ (by omega)]
  refine Ok_bd (GvI_step hn hs (by decide) k0 138 rfl) (fun _ M1 k1 => ?_)
  refine Ok_bd (GvI_step hn hs (by decide) k1 139 rfl) (fun _ M2 k2 => ?_)
  refine Ok_bd (GvI_step hn hs (by decide) k2 140 rfl) (fun _ M3 k3 => ?_)
  refine Ok_bd (GvI_step hn hs (by decide) k3 141 rfl) (fun _ M4 k4 => ?_)
  refine Ok_bd (GvI_step hn hs (by decide) k4 142 rfl) (fun _ M5 k5 => ?_)
  refine Ok_bd (GvI_step hn hs (by decide) k5 143 rfl) (fun _ M6 k6 => ?_)
  refine Ok_bd (GvI_step hn hs (by decide) k6 144 rfl) (fun _ M7 k7 => ?_)
  refine Ok_bd (GvI_step hn hs (by decide) k7 145 rfl) (fun _ M8 k8 => ?_)
  refine Ok_bd (GvI_step hn hs (by decide) k8 146 rfl) (fun _ M9 k9 => ?_)
  refine Ok_bd (GvI_step hn hs (by decide) k9 147 rfl) (fun _ M10 k10 => ?_)
  obtain ⟨a1, a2, a3, a4⟩ := k10
  have a2' : rd M10 137 28 = ((68 * s + 62 : Nat) : Int) := a2
  refine G1_step (c := 62) (i := 3) (M0 := M) (k := fun _ M16 => bd (m_X6_passOne n M16 (rd M16 137 7)) (fun r18 M17 => wr M17 137 7 r18 (fun M19 => bd (m_X6_passOne n M19 (rd M19 137 12)) (fun r21 M20 => wr M20 137 12 r21 (fun M22 => bd (m_X6_passOne n M22 (rd M22 137 14)) (fun r24 M23 => wr M23 137 14 r24 (fun M25 => bd (m_X6_passOne n M25 (rd M25 137 13)) (fun r27 M26 => wr M26 137 13 r27 (fun M28 => some (0, M28)))))))))) hs (by omega) (by omega) a1 a2' (fun b => a4 _ _ (by omega) (by omega)) ?_
  intro N1 b1 b2 b3 b4 b5
  refine G1_step (c := 63) (i := 7) (M0 := M) (k := fun _ M19 => bd (m_X6_passOne n M19 (rd M19 137 12)) (fun r21 M20 => wr M20 137 12 r21 (fun M22 => bd (m_X6_passOne n M22 (rd M22 137 14)) (fun r24 M23 => wr M23 137 14 r24 (fun M25 => bd (m_X6_passOne n M25 (rd M25 137 13)) (fun r27 M26 => wr M26 137 13 r27 (fun M28 => some (0, M28)))))))) hs (by omega) (by omega) b1 b2 b5 ?_
  intro N2 c1 c2 c3 c4 c5
  refine G1_step (c := 64) (i := 12) (M0 := M) (k := fun _ M22 => bd (m_X6_passOne n M22 (rd M22 137 14)) (fun r24 M23 => wr M23 137 14 r24 (fun M25 => bd (m_X6_passOne n M25 (rd M25 137 13)) (fun r27 M26 => wr M26 137 13 r27 (fun M28 => some (0, M28)))))) hs (by omega) (by omega) c1 c2 c5 ?_
  intro N3 d1 d2 d3 d4 d5
  refine G1_step (c := 65) (i := 14) (M0 := M) (k := fun _ M25 => bd (m_X6_passOne n M25 (rd M25 137 13)) (fun r27 M26 => wr M26 137 13 r27 (fun M28 => some (0, M28)))) hs (by omega) (by omega) d1 d2 d5 ?_
  intro N4 e1 e2 e3 e4 e5
  refine G1_step (c := 66) (i := 13) (M0 := M) (k := fun _ M28 => some (0, M28)) hs (by omega) (by omega) e1 e2 e5 ?_
  intro N5 f1 f2 f3 f4 f5
  refine Ok_ret ⟨?_, ⟨?_, ?_, ?_, ?_, f3⟩, ?_⟩
  · intro k b g1 g2 g3
    rw [f4 _ _ (by omega), e4 _ _ (by omega), d4 _ _ (by omega), c4 _ _ (by omega), b4 _ _ (by omega)]
    exact a3 k b g1 g2 g3
  · rw [f4 _ _ (by omega), e4 _ _ (by omega), d4 _ _ (by omega), c4 _ _ (by omega), b3]
  · rw [f4 _ _ (by omega), e4 _ _ (by omega), d4 _ _ (by omega), c3]
  · rw [f4 _ _ (by omega), e4 _ _ (by omega), d3]
  · rw [f4 _ _ (by omega), e3]
  · intro a b g1 g2
    rw [f4 _ _ (by omega), e4 _ _ (by omega), d4 _ _ (by omega), c4 _ _ (by omega), b4 _ _ (by omega)]
    exact a4 a b g1 (by omega)
