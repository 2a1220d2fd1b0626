/-! shares, odds -/
theorem gcd_s (x y : Nat) : Nat.gcd x y = Nat.gcd y (x % y) := by
  rw [Nat.gcd_comm x y, Nat.gcd_rec y x, Nat.gcd_comm]
theorem half_mod {y r : Nat} (h0 : 0 < r) (h : r < y) : 2 * (y % r) < y := by
  have h1 := Nat.mod_lt y h0
  by_cases c : 2 * r ≤ y
  · omega
  · have : y % r = y - r := by
      rw [Nat.mod_eq_sub_mod (by omega), Nat.mod_eq_of_lt (by omega)]
    omega
theorem tmN (x y : Nat) : Int.tmod (x : Int) (y : Int) = ((x % y : Nat) : Int) := by
  rw [tm (by omega)]; rfl
theorem tdN (x y : Nat) : Int.tdiv (x : Int) (y : Int) = ((x / y : Nat) : Int) := by
  rw [td (by omega)]; rfl
theorem e_low_34 {n : Nat} {M : Mem} {a0 a2 a4 : Int} : ∀ j t (i x y : Nat), y < 2 ^ j → i + (2 * j + 1) ≤ 199 → 2 * j + 1 < t → x < 4611686018427387904 → y < 4611686018427387904 →
    m_X5_lowest_34 n t M a0 a2 a4 (x : Int) (y : Int) (i : Int) = m_X5_lowest_70 n M a0 a2 a4 ((Nat.gcd x y : Nat) : Int) := by
  intro j
  have stop : ∀ t (i x y : Nat), y = 0 → i ≤ 199 → 0 < t → m_X5_lowest_34 n t M a0 a2 a4 (x : Int) (y : Int) (i : Int) = m_X5_lowest_70 n M a0 a2 a4 ((Nat.gcd x y : Nat) : Int) := by
    intro t i x y hy hi ht
    cases t with
    | zero => omega
    | succ t =>
      subst hy
      rw [m_X5_lowest_34, Nat.gcd_zero_right]
      unfold cmpZ
      rw [if_pos (show I32 (i : Int) by omega), if_neg (by omega), if_pos (show I64 ((0 : Nat) : Int) by omega), if_pos (by omega)]
  have step : ∀ t (i x y : Nat), 0 < y → i ≤ 198 → x < 4611686018427387904 → y < 4611686018427387904 → m_X5_lowest_34 n (t + 1) M a0 a2 a4 (x : Int) (y : Int) (i : Int) = m_X5_lowest_34 n t M a0 a2 a4 (y : Int) ((x % y : Nat) : Int) ((i + 1 : Nat) : Int) := by
    intro t i x y hy hi hx hy2
    rw [m_X5_lowest_34]
    unfold cmpZ
    rw [if_pos (show I32 (i : Int) by omega), if_neg (by omega), if_pos (show I64 (y : Int) by omega), if_neg (by omega), if_pos (show I64 (x : Int) by omega), if_pos (by omega), tmN]
    rfl
  induction j with
  | zero =>
    intro t i x y hy hi ht hx hy2
    exact stop t i x y (by rw [Nat.pow_zero] at hy; omega) (by omega) (by omega)
  | succ j ih =>
    intro t i x y hy hi ht hx hy2
    by_cases c : y = 0
    · exact stop t i x y c (by omega) (by omega)
    · obtain ⟨t, rfl⟩ : ∃ t', t = t' + 1 := ⟨t - 1, by omega⟩
      have r1 := Nat.mod_lt x (show 0 < y by omega)
      rw [step t i x y (by omega) (by omega) hx hy2, gcd_s x y]
      by_cases c2 : x % y = 0
      · exact stop t (i + 1) y (x % y) c2 (by omega) (by omega)
      · obtain ⟨t, rfl⟩ : ∃ t', t = t' + 1 := ⟨t - 1, by omega⟩
        have r2 := half_mod (show 0 < x % y by omega) r1
        rw [step t (i + 1) y (x % y) (by omega) (by omega) hy2 (by omega), gcd_s y (x % y)]
        rw [Nat.pow_succ] at hy
        exact ih t (i + 1 + 1) (x % y) (y % (x % y)) (by omega) (by omega) (by omega) (by omega) (by omega)
theorem r_div_6 {n : Nat} {M : Mem} : ∀ j t (x y : Nat), y < 2 ^ j → 2 * j + 1 < t → x < 4611686018427387904 → y < 4611686018427387904 →
    m_X6_divisor_6 n t M (x : Int) (y : Int) = some (((Nat.gcd x y : Nat) : Int), M) := by
  intro j
  have stop : ∀ t (x y : Nat), y = 0 → 0 < t → m_X6_divisor_6 n t M (x : Int) (y : Int) = some (((Nat.gcd x y : Nat) : Int), M) := by
    intro t x y hy ht
    cases t with
    | zero => omega
    | succ t =>
      subst hy
      rw [m_X6_divisor_6, Nat.gcd_zero_right]
      unfold cmpZ
      rw [if_pos (show I64 ((0 : Nat) : Int) by omega), if_pos (by omega)]
  have step : ∀ t (x y : Nat), 0 < y → x < 4611686018427387904 → y < 4611686018427387904 → m_X6_divisor_6 n (t + 1) M (x : Int) (y : Int) = m_X6_divisor_6 n t M (y : Int) ((x % y : Nat) : Int) := by
    intro t x y hy hx hy2
    rw [m_X6_divisor_6]
    unfold cmpZ
    rw [if_pos (show I64 (y : Int) by omega), if_neg (by omega), if_pos (show I64 (x : Int) by omega), if_pos (by omega), tmN]
  induction j with
  | zero =>
    intro t x y hy ht hx hy2
    exact stop t x y (by rw [Nat.pow_zero] at hy; omega) (by omega)
  | succ j ih =>
    intro t x y hy ht hx hy2
    by_cases c : y = 0
    · exact stop t x y c (by omega)
    · obtain ⟨t, rfl⟩ : ∃ t', t = t' + 1 := ⟨t - 1, by omega⟩
      have r1 := Nat.mod_lt x (show 0 < y by omega)
      rw [step t x y (by omega) hx hy2, gcd_s x y]
      by_cases c2 : x % y = 0
      · exact stop t y (x % y) c2 (by omega)
      · obtain ⟨t, rfl⟩ : ∃ t', t = t' + 1 := ⟨t - 1, by omega⟩
        have r2 := half_mod (show 0 < x % y by omega) r1
        rw [step t y (x % y) (by omega) hy2 (by omega), gcd_s y (x % y)]
        rw [Nat.pow_succ] at hy
        exact ih t (x % y) (y % (x % y)) (by omega) (by omega) (by omega) (by omega)
/-- a fraction's part in lowest terms -/
def lowS (x y : Nat) (p : Int) : Int := if x = 0 ∨ y = 0 then p else if p = 0 then ((x / Nat.gcd x y : Nat) : Int) else ((y / Nat.gcd x y : Nat) : Int)
theorem lowS_b {x y : Nat} {p : Int} (hx : x < 4611686018427387904) (hy : y < 4611686018427387904) (hp : p = 0 ∨ p = 1) : 0 ≤ lowS x y p ∧ lowS x y p < 4611686018427387904 := by
  have h1 := Nat.div_le_self x (Nat.gcd x y)
  have h2 := Nat.div_le_self y (Nat.gcd x y)
  have hl : lowS x y p = p ∨ lowS x y p = ((x / Nat.gcd x y : Nat) : Int) ∨ lowS x y p = ((y / Nat.gcd x y : Nat) : Int) := by
    unfold lowS
    split
    · exact .inl rfl
    · split
      · exact .inr (.inl rfl)
      · exact .inr (.inr rfl)
  have h7 : ((x / Nat.gcd x y : Nat) : Int) ≤ x := Int.ofNat_le.mpr h1
  have h8 : ((y / Nat.gcd x y : Nat) : Int) ≤ y := Int.ofNat_le.mpr h2
  have h9 : 0 ≤ ((x / Nat.gcd x y : Nat) : Int) := Int.natCast_nonneg _
  have h10 : 0 ≤ ((y / Nat.gcd x y : Nat) : Int) := Int.natCast_nonneg _
  rcases hl with e | e | e
  · rw [e]; omega
  · rw [e]; exact ⟨h9, by omega⟩
  · rw [e]; exact ⟨h10, by omega⟩
theorem e_lowest {n x y : Nat} {M : Mem} {p : Int} (hn : 2000 ≤ n) (hx : x < 4611686018427387904) (hy : y < 2147483648) (hp : p = 0 ∨ p = 1) : m_X5_lowest n M (x : Int) (y : Int) p = some (lowS x y p, M) := by
  have h12 : m_X5_lowest_12 n M p = some (p, M) := by
    unfold m_X5_lowest_12
    rcases hp with rfl | rfl <;> rfl
  unfold m_X5_lowest lowS cmpZ
  rw [if_pos (show I64 (x : Int) by omega)]
  by_cases c : x = 0
  · rw [if_pos (by omega), if_pos (.inl c), h12]
  rw [if_neg (by omega), if_pos (show I64 (y : Int) by omega)]
  by_cases c2 : y = 0
  · rw [if_pos (by omega), if_pos (.inr c2), h12]
  have r1 := Nat.mod_lt x (show 0 < y by omega)
  rw [if_neg (by omega), if_pos (by omega), if_neg (show ¬ (x = 0 ∨ y = 0) by omega), tmN]
  have := e_low_34 (n := n) (M := M) (a0 := (x : Int)) (a2 := (y : Int)) (a4 := p) 31 n 0 y (x % y) (by omega) (by omega) (by omega) (by omega) (by omega)
  rw [show ((0 : Nat) : Int) = 0 from rfl] at this
  rw [this, ← gcd_s x y]
  have g0 : 0 < Nat.gcd x y := Nat.gcd_pos_of_pos_left y (by omega)
  have g1 : Nat.gcd x y ≤ y := Nat.gcd_le_right x (by omega)
  unfold m_X5_lowest_70
  rcases hp with rfl | rfl
  · rw [if_pos (by decide), if_pos rfl, if_pos (show I64 (x : Int) by omega), if_pos (show I64 ((Nat.gcd x y : Nat) : Int) by omega), if_pos (by omega), if_pos rfl, tdN]
  · rw [if_pos (by decide), if_neg (by decide), if_pos (show I64 (y : Int) by omega), if_pos (show I64 ((Nat.gcd x y : Nat) : Int) by omega), if_pos (by omega), if_neg (by decide), tdN]
theorem r_partOf {n x y : Nat} {M : Mem} {p : Int} (hn : 2000 ≤ n) (hx : x < 4611686018427387904) (hy : y < 2147483648) (hy0 : 0 < y) (hp : p = 0 ∨ p = 1) : m_X6_partOf n M (x : Int) (y : Int) p = some (lowS x y p, M) := by
  have d := r_div_6 (n := n) (M := M) 31 n x y (by omega) (by omega) hx (by omega)
  have g0 : 0 < Nat.gcd x y := Nat.gcd_pos_of_pos_right x hy0
  have g1 : Nat.gcd x y ≤ y := Nat.gcd_le_right x hy0
  have v : ∀ z : Nat, z < 4611686018427387904 → m_X6_partOf_10 n M (x : Int) (y : Int) (z : Int) = some (((z / Nat.gcd x y : Nat) : Int), M) := by
    intro z hz
    unfold m_X6_partOf_10 m_X6_divisor
    rw [d]
    show (if I64 (z : Int) then _ else none) = _
    rw [if_pos (show I64 (z : Int) by omega), if_pos (show I64 ((Nat.gcd x y : Nat) : Int) by omega), if_pos (by omega), tdN]
  have e0 : m_X6_partOf n M (x : Int) (y : Int) 0 = m_X6_partOf_10 n M (x : Int) (y : Int) (x : Int) := rfl
  have e1 : m_X6_partOf n M (x : Int) (y : Int) 1 = m_X6_partOf_10 n M (x : Int) (y : Int) (y : Int) := rfl
  by_cases c : x = 0
  · have l : ∀ p, lowS x y p = p := by
      intro p
      unfold lowS
      rw [if_pos (.inl c)]
    rcases hp with rfl | rfl
    · rw [e0, v x hx, l, c, Nat.zero_div]; rfl
    · rw [e1, v y (by omega), l, c, Nat.gcd_zero_left, Nat.div_self hy0]; rfl
  · have l0 : lowS x y 0 = ((x / Nat.gcd x y : Nat) : Int) := by
      unfold lowS
      rw [if_neg (show ¬ (x = 0 ∨ y = 0) by omega), if_pos rfl]
    have l1 : lowS x y 1 = ((y / Nat.gcd x y : Nat) : Int) := by
      unfold lowS
      rw [if_neg (show ¬ (x = 0 ∨ y = 0) by omega), if_neg (by decide)]
    rcases hp with rfl | rfl
    · rw [e0, v x hx, l0]
    · rw [e1, v y (by omega), l1]
/-- all worths -/
def allN (u : US) : Nat → Nat → Nat → Nat
  | 0, _, v => v
  | k + 1, i, v => allN u k (i + 1) (v + (u 4 i).toNat)
theorem allN_b {u : US} (wf : WF 999 u) : ∀ k i v, allN u k i v ≤ v + 9 * k
  | 0, _, v => by
    show v ≤ v + 0
    omega
  | k + 1, i, v => by
    have := allN_b wf k (i + 1) (v + (u 4 i).toNat)
    have := (wFt wf i).1
    simp only [allN]
    omega
theorem e_share_38 {n T : Nat} {M : Mem} {p : Nat} {b : Int} (hn : 2000 ≤ n) (hb : b = 0 ∨ b = 1) (hp : p < 5) (wf : WF 999 (vw M 0)) (hT : rd M 0 7 = T) : ∀ k t (i v : Nat), i + k = T → k < t → v ≤ 9 * i →
    m_X5_share_38 n t M (p : Int) b (v : Int) (i : Int) = some (lowS (worthsS (vw M 0) (p : Int)).toNat (allN (vw M 0) k i v) b, M) := by
  have bb := sW wf
  have wb := worthsS_b wf (p : Int)
  intro k
  induction k with
  | zero =>
    intro t i v hi ht hv
    cases t with
    | zero => omega
    | succ t =>
      refine Ok_eq ?_
      rw [m_X5_share_38]
      repeat (first
          | with_reducible refine Ok_g (by first | assumption | omega) ?_
          | with_reducible refine Ok_lt ?_
          | with_reducible refine Ok_t (by first | assumption | omega) ?_
          | with_reducible refine Ok_f (by first | assumption | omega) ?_)
      refine Ok_be (e_worthsOf hn (by decide) wf (by omega)) ?_
      repeat (first
          | with_reducible refine Ok_g (by first | assumption | omega) ?_
          | with_reducible refine Ok_lt ?_
          | with_reducible refine Ok_t (by first | assumption | omega) ?_
          | with_reducible refine Ok_f (by first | assumption | omega) ?_)
      have := e_lowest (n := n) (M := M) (x := (worthsS (vw M 0) (p : Int)).toNat) (y := v) (p := b) hn (by omega) (by omega) hb
      rw [show (((worthsS (vw M 0) (p : Int)).toNat : Nat) : Int) = worthsS (vw M 0) (p : Int) by omega] at this
      exact Ok_be this (Ok_ret ⟨rfl, rfl⟩)
  | succ k ih =>
    intro t i v hi ht hv
    cases t with
    | zero => omega
    | succ t =>
      have p1 := tW (by decide) wf (i := i) (by omega)
      simp only [Nat.reduceAdd] at p1
      refine Ok_eq ?_
      rw [m_X5_share_38]
      simp only [Int.toNat_natCast, allN]
      rw [p1.1.1]
      repeat (first
          | with_reducible refine Ok_g (by first | assumption | omega) ?_
          | with_reducible refine Ok_lt ?_
          | with_reducible refine Ok_t (by first | assumption | omega) ?_
          | with_reducible refine Ok_f (by first | assumption | omega) ?_)
      rw [show (v : Int) + rd M 4 i = ((v + (rd M 4 i).toNat : Nat) : Int) by omega]
      exact Ok_of (ih t (i + 1) _ (by omega) (by omega) (by omega)) ⟨rfl, rfl⟩
theorem r_share_44 {n T : Nat} {M : Mem} {p : Nat} {b : Int} (hn : 2000 ≤ n) (hb : b = 0 ∨ b = 1) (hp : p < 5) (wf : WF 999 (vw M 137)) (hT : rd M 137 7 = T) : ∀ k t (i v : Nat), i + k = T → k < t → v ≤ 9 * i →
    m_X6_share_44 n t M (p : Int) b (v : Int) (i : Int) = some (lowS (worthsS (vw M 137) (p : Int)).toNat (allN (vw M 137) k i v) b, M) := by
  have bb := sW wf
  have wb := worthsS_b wf (p : Int)
  intro k
  induction k with
  | zero =>
    intro t i v hi ht hv
    cases t with
    | zero => omega
    | succ t =>
      refine Ok_eq ?_
      rw [m_X6_share_44]
      repeat (first
          | with_reducible refine Ok_g (by first | assumption | omega) ?_
          | with_reducible refine Ok_lt ?_
          | with_reducible refine Ok_t (by first | assumption | omega) ?_
          | with_reducible refine Ok_f (by first | assumption | omega) ?_)
      refine Ok_if (fun g => ?_) (fun g => ?_)
      · repeat (first
            | with_reducible refine Ok_g (by first | assumption | omega) ?_
            | with_reducible refine Ok_lt ?_
            | with_reducible refine Ok_t (by first | assumption | omega) ?_
            | with_reducible refine Ok_f (by first | assumption | omega) ?_)
        refine Ok_ret ⟨?_, rfl⟩
        show b = lowS _ v b
        unfold lowS
        rw [if_pos (.inr (by omega))]
      · refine Ok_be (r_worthsOf hn wf (by omega)) ?_
        repeat (first
            | with_reducible refine Ok_g (by first | assumption | omega) ?_
            | with_reducible refine Ok_lt ?_
            | with_reducible refine Ok_t (by first | assumption | omega) ?_
            | with_reducible refine Ok_f (by first | assumption | omega) ?_)
        have := r_partOf (n := n) (M := M) (x := (worthsS (vw M 137) (p : Int)).toNat) (y := v) (p := b) hn (by omega) (by omega) (by omega) hb
        rw [show (((worthsS (vw M 137) (p : Int)).toNat : Nat) : Int) = worthsS (vw M 137) (p : Int) by omega] at this
        exact Ok_be this (Ok_ret ⟨rfl, rfl⟩)
  | succ k ih =>
    intro t i v hi ht hv
    cases t with
    | zero => omega
    | succ t =>
      have p1 := tR wf (i := i) (by omega)
      refine Ok_eq ?_
      rw [m_X6_share_44]
      simp only [Int.toNat_natCast, allN]
      rw [p1.1.1]
      repeat (first
          | with_reducible refine Ok_g (by first | assumption | omega) ?_
          | with_reducible refine Ok_lt ?_
          | with_reducible refine Ok_t (by first | assumption | omega) ?_
          | with_reducible refine Ok_f (by first | assumption | omega) ?_)
      rw [show (v : Int) + rd M 141 i = ((v + (rd M 141 i).toNat : Nat) : Int) by omega]
      exact Ok_of (ih t (i + 1) _ (by omega) (by omega) (by omega)) ⟨rfl, rfl⟩
theorem q_share {n : Nat} {M : Mem} {a b : Int} (hn : 2000 ≤ n) (s : Sim M) (ha : I32 a) (hb : I32 b) : AgrL (m_X5_share n M a b) (fun M1 => m_X6_share n M1 a b) := by
  obtain ⟨wf0, vv0, rf0⟩ := sim_rf s (M1 := M) (fun _ _ _ => rfl)
  unfold AgrL m_X5_share
  by_cases h : 0 ≤ a ∧ a < rd M 0 12
  · obtain ⟨p, rfl⟩ := Int.eq_ofNat_of_zero_le h.1
    have main : b = 0 ∨ b = 1 → Ok (m_X5_share_33 n M (p : Int) b) (fun r M1 => I64 r ∧ Ok (m_X6_share n M1 (p : Int) b) (fun r' M2 => r' = r ∧ Sim M2)) := by
      intro hb01
      have wb := worthsS_b s.2.1 (p : Int)
      have ab := allN_b s.2.1 (rd M 0 7).toNat 0 0
      have lb := lowS_b (x := (worthsS (vw M 0) (p : Int)).toNat) (y := allN (vw M 0) (rd M 0 7).toNat 0 0) (p := b) (by omega) (by omega) hb01
      unfold m_X5_share_33
      refine Ok_of (e_share_38 (T := (rd M 0 7).toNat) hn hb01 (by omega) s.2.1 (by omega) (rd M 0 7).toNat n 0 0 (by omega) (by omega) (by omega)) ⟨by omega, ?_⟩
      unfold m_X6_share m_X6_share_27
      repeat (first
          | with_reducible refine Ok_g (by first | assumption | omega) ?_
          | with_reducible refine Ok_lt ?_
          | with_reducible refine Ok_t (by first | assumption | omega) ?_
          | with_reducible refine Ok_f (by first | assumption | omega) ?_
          | with_reducible refine Ok_be (e_hasF (by decide) (by assumption)) ?_
          | with_reducible refine Ok_be (e_hasT (by decide) (by assumption)) ?_
          | with_reducible refine Ok_be (e_hasP (by decide) (by assumption)) ?_
          | with_reducible refine Ok_be (e_isCell (by first | assumption | omega)) ?_
          | with_reducible refine Ok_be (e_oor (by assumption) (by decide) (by decide)) ?_
          | with_reducible refine Ok_be (r_isIn (by first | assumption | omega) (by first | decide | omega) (by first | decide | omega)) ?_
          | with_reducible refine Ok_be (r_bound (by assumption) (by decide) (by decide)) ?_
          | with_reducible refine Ok_be (r_isF (by assumption) (by assumption)) ?_
          | with_reducible refine Ok_be (r_isT (by assumption) (by assumption)) ?_
          | with_reducible refine Ok_be (r_isP (by assumption) (by assumption)) ?_
          | with_reducible refine Ok_be (r_isCell (by first | assumption | omega)) ?_)
      refine Ok_of (r_share_44 (T := (rd M 0 7).toNat) hn hb01 (by omega) wf0 (by omega) (rd M 0 7).toNat n 0 0 (by omega) (by omega) (by omega)) ⟨?_, s⟩
      rw [vv0]
    repeat (first
        | with_reducible refine Ok_g (by first | assumption | omega) ?_
        | with_reducible refine Ok_lt ?_
        | with_reducible refine Ok_t (by first | assumption | omega) ?_
        | with_reducible refine Ok_f (by first | assumption | omega) ?_
        | with_reducible refine Ok_be (e_hasF (by decide) (by assumption)) ?_
        | with_reducible refine Ok_be (e_hasT (by decide) (by assumption)) ?_
        | with_reducible refine Ok_be (e_hasP (by decide) (by assumption)) ?_
        | with_reducible refine Ok_be (e_isCell (by first | assumption | omega)) ?_
        | with_reducible refine Ok_be (e_oor (by assumption) (by decide) (by decide)) ?_
        | with_reducible refine Ok_be (r_isIn (by first | assumption | omega) (by first | decide | omega) (by first | decide | omega)) ?_
        | with_reducible refine Ok_be (r_bound (by assumption) (by decide) (by decide)) ?_
        | with_reducible refine Ok_be (r_isF (by assumption) (by assumption)) ?_
        | with_reducible refine Ok_be (r_isT (by assumption) (by assumption)) ?_
        | with_reducible refine Ok_be (r_isP (by assumption) (by assumption)) ?_
        | with_reducible refine Ok_be (r_isCell (by first | assumption | omega)) ?_)
    refine Ok_if (fun g => main (.inl g)) (fun g => ?_)
    refine Ok_if (fun g => main (.inr g)) (fun g1 => ?_)
    refine Ok_be (e_refuseLong 2 (by omega) (by decide) (by decide)) (Ok_ret ⟨by decide, ?_⟩)
    obtain ⟨wf1, rf1, rf2⟩ := sim_rf s (M1 := bump 134 M 2) (fun q i h => bump_ne (by omega))
    unfold m_X6_share m_X6_share_27
    repeat (first
        | with_reducible refine Ok_g (by first | assumption | omega) ?_
        | with_reducible refine Ok_lt ?_
        | with_reducible refine Ok_t (by first | assumption | omega) ?_
        | with_reducible refine Ok_f (by first | assumption | omega) ?_
        | with_reducible refine Ok_be (e_hasF (by decide) (by assumption)) ?_
        | with_reducible refine Ok_be (e_hasT (by decide) (by assumption)) ?_
        | with_reducible refine Ok_be (e_hasP (by decide) (by assumption)) ?_
        | with_reducible refine Ok_be (e_isCell (by first | assumption | omega)) ?_
        | with_reducible refine Ok_be (e_oor (by assumption) (by decide) (by decide)) ?_
        | with_reducible refine Ok_be (r_isIn (by first | assumption | omega) (by first | decide | omega) (by first | decide | omega)) ?_
        | with_reducible refine Ok_be (r_bound (by assumption) (by decide) (by decide)) ?_
        | with_reducible refine Ok_be (r_isF (by assumption) (by assumption)) ?_
        | with_reducible refine Ok_be (r_isT (by assumption) (by assumption)) ?_
        | with_reducible refine Ok_be (r_isP (by assumption) (by assumption)) ?_
        | with_reducible refine Ok_be (r_isCell (by first | assumption | omega)) ?_)
    exact Ok_be (r_lowestOf 2 (by omega) (by decide) (by decide)) (Ok_ret ⟨rfl, sim_bump s 2⟩)
  · repeat (first
        | with_reducible refine Ok_g (by first | assumption | omega) ?_
        | with_reducible refine Ok_lt ?_
        | with_reducible refine Ok_t (by first | assumption | omega) ?_
        | with_reducible refine Ok_f (by first | assumption | omega) ?_
        | with_reducible refine Ok_be (e_hasF (by decide) (by assumption)) ?_
        | with_reducible refine Ok_be (e_hasT (by decide) (by assumption)) ?_
        | with_reducible refine Ok_be (e_hasP (by decide) (by assumption)) ?_
        | with_reducible refine Ok_be (e_isCell (by first | assumption | omega)) ?_
        | with_reducible refine Ok_be (e_oor (by assumption) (by decide) (by decide)) ?_
        | with_reducible refine Ok_be (r_isIn (by first | assumption | omega) (by first | decide | omega) (by first | decide | omega)) ?_
        | with_reducible refine Ok_be (r_bound (by assumption) (by decide) (by decide)) ?_
        | with_reducible refine Ok_be (r_isF (by assumption) (by assumption)) ?_
        | with_reducible refine Ok_be (r_isT (by assumption) (by assumption)) ?_
        | with_reducible refine Ok_be (r_isP (by assumption) (by assumption)) ?_
        | with_reducible refine Ok_be (r_isCell (by first | assumption | omega)) ?_)
    refine Ok_be (e_refuseLong 1 (by omega) (by decide) (by decide)) (Ok_ret ⟨by decide, ?_⟩)
    obtain ⟨wf1, rf1, rf2⟩ := sim_rf s (M1 := bump 134 M 1) (fun q i h => bump_ne (by omega))
    unfold m_X6_share m_X6_share_27
    repeat (first
        | with_reducible refine Ok_g (by first | assumption | omega) ?_
        | with_reducible refine Ok_lt ?_
        | with_reducible refine Ok_t (by first | assumption | omega) ?_
        | with_reducible refine Ok_f (by first | assumption | omega) ?_
        | with_reducible refine Ok_be (e_hasF (by decide) (by assumption)) ?_
        | with_reducible refine Ok_be (e_hasT (by decide) (by assumption)) ?_
        | with_reducible refine Ok_be (e_hasP (by decide) (by assumption)) ?_
        | with_reducible refine Ok_be (e_isCell (by first | assumption | omega)) ?_
        | with_reducible refine Ok_be (e_oor (by assumption) (by decide) (by decide)) ?_
        | with_reducible refine Ok_be (r_isIn (by first | assumption | omega) (by first | decide | omega) (by first | decide | omega)) ?_
        | with_reducible refine Ok_be (r_bound (by assumption) (by decide) (by decide)) ?_
        | with_reducible refine Ok_be (r_isF (by assumption) (by assumption)) ?_
        | with_reducible refine Ok_be (r_isT (by assumption) (by assumption)) ?_
        | with_reducible refine Ok_be (r_isP (by assumption) (by assumption)) ?_
        | with_reducible refine Ok_be (r_isCell (by first | assumption | omega)) ?_)
    exact Ok_be (r_lowestOf 1 (by omega) (by decide) (by decide)) (Ok_ret ⟨rfl, sim_bump s 1⟩)
