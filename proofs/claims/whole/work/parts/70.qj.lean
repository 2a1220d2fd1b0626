/-! a statement carried out -/
def dgN (c : Int) : Nat := if c = 102 then 3 else if c = 104 then 2 else if c = 107 then 1 else if c = 109 then 3 else if c = 111 then 2 else if c = 112 then 4 else if c = 116 then 3 else 0
/-- what a coast is behind a statement of letter c with numbers x, y, z; none if it can't be -/
def exS (c x y z : Int) (u : US) : Option US :=
  if c = 102 then (if x < 7 ∧ u 0 3 < 6 then some (adF u x y z) else none)
  else if c = 112 then (if x < 8 ∧ z < 24 ∧ u 0 12 < 5 then some (adP u x y z) else none)
  else if c = 116 then (if y < 24 ∧ u 0 7 < 8 then some (adT u x y) else none)
  else if c = 111 then (if x < u 0 7 ∧ (y = 9 ∨ y < u 0 12) then some (uset u 6 x.toNat (if y = 9 then -1 else y)) else none)
  else if c = 109 then (if x < u 0 12 ∧ y < 24 then some (uset u 10 x.toNat y) else none)
  else if c = 107 then (if x = 0 then none else some (uset u 0 14 x))
  else (if 1 ≤ x ∧ x ≤ 60 ∧ u 0 13 + x ≤ 999 then some (hoursS x.toNat u) else none)
/-- the numbers behind a letter -/
def nuX (L : Nat → Int) (p : Nat) : Int := if L p = 104 then 10 * (L (p + 1) - 48) + (L (p + 2) - 48) else L (p + 1) - 48
def nuY (L : Nat → Int) (p : Nat) : Int := if L p = 109 ∨ L p = 116 then 10 * (L (p + 2) - 48) + (L (p + 3) - 48) else L (p + 2) - 48
def nuZ (L : Nat → Int) (p : Nat) : Int := if L p = 112 then 10 * (L (p + 3) - 48) + (L (p + 4) - 48) else L (p + 3) - 48
def exL (L : Nat → Int) (p : Nat) (u : US) : Option US := exS (L p) (nuX L p) (nuY L p) (nuZ L p) u
theorem exS_wf {u u' : US} {c x y z : Int} (wf : WF 999 u) (hc : 0 < dgN c) (hx : 0 ≤ x ∧ x ≤ 99) (hx9 : c ≠ 104 → x ≤ 9) (hy : 0 ≤ y ∧ y ≤ 99) (hy9 : c ≠ 109 → c ≠ 116 → y ≤ 9) (hz : 0 ≤ z ∧ z ≤ 99) (hz9 : c ≠ 112 → z ≤ 9) (h : exS c x y z u = some u') : WF 999 u' := by
  have b := wF wf
  unfold exS at h
  by_cases c1 : c = 102
  · rw [if_pos c1] at h
    by_cases g : x < 7 ∧ u 0 3 < 6
    · rw [if_pos g] at h
      cases h
      exact adF_wf wf (by omega) (by omega) (by omega) g.2
    · rw [if_neg g] at h; cases h
  rw [if_neg c1] at h
  by_cases c2 : c = 112
  · rw [if_pos c2] at h
    by_cases g : x < 8 ∧ z < 24 ∧ u 0 12 < 5
    · rw [if_pos g] at h
      cases h
      exact adP_wf wf (by omega) (by omega) (by omega) g.2.2
    · rw [if_neg g] at h; cases h
  rw [if_neg c2] at h
  by_cases c3 : c = 116
  · rw [if_pos c3] at h
    by_cases g : y < 24 ∧ u 0 7 < 8
    · rw [if_pos g] at h
      cases h
      exact adT_wf wf (by omega) (by omega) g.2
    · rw [if_neg g] at h; cases h
  rw [if_neg c3] at h
  by_cases c4 : c = 111
  · rw [if_pos c4] at h
    by_cases g : x < u 0 7 ∧ (y = 9 ∨ y < u 0 12)
    · rw [if_pos g] at h
      cases h
      exact WF_set wf 6 _ (by show (-1 : Int) ≤ _; split <;> omega) (by show _ ≤ (4 : Int); split <;> omega)
    · rw [if_neg g] at h; cases h
  rw [if_neg c4] at h
  by_cases c5 : c = 109
  · rw [if_pos c5] at h
    by_cases g : x < u 0 12 ∧ y < 24
    · rw [if_pos g] at h
      cases h
      exact WF_set wf 10 _ (by show (0 : Int) ≤ _; omega) (by show _ ≤ (23 : Int); omega)
    · rw [if_neg g] at h; cases h
  rw [if_neg c5] at h
  by_cases c6 : c = 107
  · rw [if_pos c6] at h
    by_cases g : x = 0
    · rw [if_pos g] at h; cases h
    · rw [if_neg g] at h
      cases h
      exact WF_set wf 0 14 (by show (0 : Int) ≤ _; omega) (by show _ ≤ (9 : Int); omega)
  rw [if_neg c6] at h
  by_cases g : 1 ≤ x ∧ x ≤ 60 ∧ u 0 13 + x ≤ 999
  · rw [if_pos g] at h
    cases h
    refine WF_hour (hoursS_wf x.toNat 0 _ wf) ?_
    show frm (fun _ u => hourS u) x.toNat 0 u 0 13 ≤ 999
    rw [hoursS_h]
    omega
  · rw [if_neg g] at h; cases h
theorem e_letterAt {n p : Nat} {M : Mem} (hp : p < 96) : m_X5_letterAt n M (p : Int) = some (rd M 132 p, M) := by
  refine Ok_eq ?_
  unfold m_X5_letterAt
  repeat (first
      | with_reducible refine Ok_g (by first | assumption | omega) ?_
      | with_reducible refine Ok_lt ?_
      | with_reducible refine Ok_t (by first | assumption | omega) ?_
      | with_reducible refine Ok_f (by first | assumption | omega) ?_)
  exact Ok_ret ⟨by rw [Int.toNat_natCast], rfl⟩
theorem e_digitAt {n p : Nat} {M : Mem} {a : Int} (ha : a = (p : Int)) (hp : p < 96) : m_X5_digitAt n M a = some (rd M 132 p - 48, M) := by
  subst ha
  unfold m_X5_digitAt
  rw [e_letterAt hp]
  rfl
theorem e_twoDigits {n p : Nat} {M : Mem} {a : Int} (q : Nat) (hq : q = p + 1) (ha : a = (p : Int)) (hp : p + 1 < 96) : m_X5_twoDigitsAt n M a = some (10 * (rd M 132 p - 48) + (rd M 132 q - 48), M) := by
  refine Ok_eq ?_
  subst hq
  unfold m_X5_twoDigitsAt
  refine Ok_be (e_digitAt ha (by omega)) ?_
  refine Ok_be (e_digitAt (p := p + 1) (by omega) hp) ?_
  exact Ok_ret ⟨rfl, rfl⟩
theorem dg_cases {c : Int} (h : 0 < dgN c) : c = 102 ∨ c = 104 ∨ c = 107 ∨ c = 109 ∨ c = 111 ∨ c = 112 ∨ c = 116 := by
  unfold dgN at h
  repeat' (split at h)
  all_goals omega
/-- digits stand there -/
def DgOk (L : Nat → Int) (p : Nat) : Prop := 0 < dgN (L p) ∧ ∀ i, 1 ≤ i → i ≤ dgN (L p) → 48 ≤ L (p + i) ∧ L (p + i) ≤ 57
def ExC (M : Mem) (o : Option US) (r : Int) (M' : Mem) : Prop := SkyOk M' ∧ KM M M' ∧ (∀ q i, q = 135 ∨ q = 136 → M' q i = M q i) ∧ match o with
  | some u' => r = 1 ∧ vw M' 22 = u'
  | none => r = 0
theorem e_carriedOut {n p : Nat} {M : Mem} {L : Nat → Int} (hn : 2000 ≤ n) (hL : ∀ i, i < 96 → rd M 132 i = L i) (dk : DgOk L p) (hp : p + dgN (L p) + 1 < 96) (sk : SkyOk M) (wf : WF 999 (vw M 22)) :
    Ok (m_X5_carriedOut n M (p : Int)) (fun r M' => ExC M (exL L p (vw M 22)) r M') := by
  have bs := sW wf
  have d1 := dk.2 1 (by omega)
  have d2 := dk.2 2 (by omega)
  have d3 := dk.2 3 (by omega)
  have d4 := dk.2 4 (by omega)
  have up : ∀ {q i : Nat} {v : Int}, 22 ≤ q → q ≤ 32 → SkyOk (mup M q i v) ∧ KM M (mup M q i v) ∧ ∀ a b, a = 135 ∨ a = 136 → mup M q i v a b = M a b := fun h1 h2 => ⟨SkyOk_keep sk (fun a b _ _ => mup_n _ (by omega)), KM_up (by omega), fun a b _ => mup_n _ (by omega)⟩
  have no : ∀ o, o = none → ExC M o 0 M := fun o ho => by
    subst ho
    exact ⟨sk, KM_refl M, fun _ _ _ => rfl, rfl⟩
  have l0 := hL p (by omega)
  have dp := dk.1
  unfold m_X5_carriedOut
  refine Ok_be (e_digitAt (p := p + 1) (by omega) (by omega)) ?_
  refine Ok_be (e_letterAt (by omega)) ?_
  rw [hL (p + 1) (by omega), l0]
  unfold exL exS
  have hrl := rd_rng M 132 p
  have hr1 := rd_rng M 132 (p + 1)
  rw [hL (p + 1) (by omega)] at hr1
  rw [l0] at hrl
  by_cases c1 : L p = 102
  · have e3 : dgN (L p) = 3 := by unfold dgN; rw [if_pos c1]
    have x0 : nuX L p = L (p + 1) - 48 := by unfold nuX; rw [if_neg (by omega)]
    have y0 : nuY L p = L (p + 2) - 48 := by unfold nuY; rw [if_neg (by omega)]
    have z0 : nuZ L p = L (p + 3) - 48 := by unfold nuZ; rw [if_neg (by omega)]
    simp only [if_pos c1]
    rw [x0, y0, z0]
    repeat (first
        | with_reducible refine Ok_g (by first | assumption | omega) ?_
        | with_reducible refine Ok_lt ?_
        | with_reducible refine Ok_t (by first | assumption | omega) ?_
        | with_reducible refine Ok_f (by first | assumption | omega) ?_)
    refine Ok_if (fun g => Ok_ret (no _ (by rw [if_neg (by omega)]))) (fun g => ?_)
    refine Ok_be (e_digitAt (p := p + 2) (by omega) (by omega)) ?_
    refine Ok_be (e_digitAt (p := p + 3) (by omega) (by omega)) ?_
    rw [hL (p + 2) (by omega), hL (p + 3) (by omega)]
    refine Ok_bd (e_addFront (.inr rfl) wf (by omega) (by omega) (by omega)) ?_
    rintro r M1 (⟨rfl, rfl, hno⟩ | ⟨rfl, hy, v1, f1⟩)
    · repeat (first
          | with_reducible refine Ok_g (by first | assumption | omega) ?_
          | with_reducible refine Ok_lt ?_
          | with_reducible refine Ok_t (by first | assumption | omega) ?_
          | with_reducible refine Ok_f (by first | assumption | omega) ?_)
      exact Ok_ret (no _ (by rw [if_neg (by omega)]))
    · repeat (first
          | with_reducible refine Ok_g (by first | assumption | omega) ?_
          | with_reducible refine Ok_lt ?_
          | with_reducible refine Ok_t (by first | assumption | omega) ?_
          | with_reducible refine Ok_f (by first | assumption | omega) ?_)
      refine Ok_ret ⟨SkyOk_keep sk (fun q i _ _ => f1 q i (by omega)), fun q i h => f1 q i (by omega), fun q i h => f1 q i (by omega), ?_⟩
      rw [if_pos (by omega)]
      exact ⟨rfl, v1⟩
  have c103 : L p ≠ 103 := by intro h; rw [h] at dp; exact absurd dp (by decide)
  have c105 : L p ≠ 105 := by intro h; rw [h] at dp; exact absurd dp (by decide)
  have c106 : L p ≠ 106 := by intro h; rw [h] at dp; exact absurd dp (by decide)
  have c108 : L p ≠ 108 := by intro h; rw [h] at dp; exact absurd dp (by decide)
  have c110 : L p ≠ 110 := by intro h; rw [h] at dp; exact absurd dp (by decide)
  have c113 : L p ≠ 113 := by intro h; rw [h] at dp; exact absurd dp (by decide)
  have c114 : L p ≠ 114 := by intro h; rw [h] at dp; exact absurd dp (by decide)
  have c115 : L p ≠ 115 := by intro h; rw [h] at dp; exact absurd dp (by decide)
  have cany : L p = 104 ∨ L p = 107 ∨ L p = 109 ∨ L p = 111 ∨ L p = 112 ∨ L p = 116 := by
    have := dg_cases dp
    omega
  repeat (first
      | with_reducible refine Ok_g (by first | assumption | omega) ?_
      | with_reducible refine Ok_lt ?_
      | with_reducible refine Ok_t (by first | assumption | omega) ?_
      | with_reducible refine Ok_f (by first | assumption | omega) ?_)
  by_cases c104 : L p = 104
  · have e3 : dgN (L p) = 2 := by unfold dgN; rw [if_neg c1, if_pos c104]
    have x0 : nuX L p = 10 * (L (p + 1) - 48) + (L (p + 2) - 48) := by unfold nuX; rw [if_pos c104]
    rw [x0]
    simp only [if_neg c1, if_neg (show ¬ L p = 112 by omega), if_neg (show ¬ L p = 116 by omega), if_neg (show ¬ L p = 111 by omega), if_neg (show ¬ L p = 109 by omega), if_neg (show ¬ L p = 107 by omega)]
    repeat (first
        | with_reducible refine Ok_g (by first | assumption | omega) ?_
        | with_reducible refine Ok_lt ?_
        | with_reducible refine Ok_t (by first | assumption | omega) ?_
        | with_reducible refine Ok_f (by first | assumption | omega) ?_)
    refine Ok_be (e_twoDigits (p := p + 1) (p + 2) rfl (by omega) (by omega)) ?_
    rw [hL (p + 1) (by omega), hL (p + 2) (by omega)]
    repeat (first
        | with_reducible refine Ok_g (by first | assumption | omega) ?_
        | with_reducible refine Ok_lt ?_
        | with_reducible refine Ok_t (by first | assumption | omega) ?_
        | with_reducible refine Ok_f (by first | assumption | omega) ?_)
    refine Ok_if (fun g => Ok_ret (no _ (by rw [if_neg (by omega)]))) (fun g => ?_)
    refine Ok_if (fun g2 => Ok_ret (no _ (by rw [if_neg (by omega)]))) (fun g2 => ?_)
    repeat (first
        | with_reducible refine Ok_g (by first | assumption | omega) ?_
        | with_reducible refine Ok_lt ?_
        | with_reducible refine Ok_t (by first | assumption | omega) ?_
        | with_reducible refine Ok_f (by first | assumption | omega) ?_)
    refine Ok_if (fun g3 => ?_) (fun g3 => Ok_ret (no _ (by rw [if_neg (by omega)])))
    refine Ok_bd (e_goOn (N := 10 * (L (p + 1) - 48) + (L (p + 2) - 48)) (H := 999) hn (by omega) (by omega) sk wf) ?_
    rintro _ M1 ⟨v1, k1, l1, f1⟩
    refine Ok_ret ⟨k1, fun q i h => f1 q i (by omega) (by omega), fun q i h => f1 q i (by omega) (by omega), ?_⟩
    rw [if_pos (by omega)]
    exact ⟨rfl, v1⟩
  by_cases c107 : L p = 107
  · have e3 : dgN (L p) = 1 := by unfold dgN; rw [if_neg c1, if_neg c104, if_pos c107]
    have x0 : nuX L p = L (p + 1) - 48 := by unfold nuX; rw [if_neg (by omega)]
    rw [x0]
    simp only [if_neg c1, if_neg (show ¬ L p = 112 by omega), if_neg (show ¬ L p = 116 by omega), if_neg (show ¬ L p = 111 by omega), if_neg (show ¬ L p = 109 by omega), if_pos c107]
    repeat (first
        | with_reducible refine Ok_g (by first | assumption | omega) ?_
        | with_reducible refine Ok_lt ?_
        | with_reducible refine Ok_t (by first | assumption | omega) ?_
        | with_reducible refine Ok_f (by first | assumption | omega) ?_)
    refine Ok_wr ?_
    obtain ⟨u1, u2, u3⟩ := up (q := 22) (i := 14) (v := L (p + 1) - 48) (by decide) (by decide)
    repeat (first
        | with_reducible refine Ok_g (by first | assumption | omega) ?_
        | with_reducible refine Ok_lt ?_
        | with_reducible refine Ok_t (by first | assumption | omega) ?_
        | with_reducible refine Ok_f (by first | assumption | omega) ?_)
    refine Ok_if (fun g => Ok_ret ?_) (fun g => Ok_ret ?_)
    · rw [if_pos (by omega)]
      exact ⟨u1, u2, u3, rfl⟩
    · rw [if_neg (by omega)]
      exact ⟨u1, u2, u3, rfl, vw_sets (by omega) (by omega) (by omega)⟩
  by_cases c109 : L p = 109
  · have e3 : dgN (L p) = 3 := by unfold dgN; rw [if_neg c1, if_neg c104, if_neg c107, if_pos c109]
    have x0 : nuX L p = L (p + 1) - 48 := by unfold nuX; rw [if_neg (by omega)]
    have y0 : nuY L p = 10 * (L (p + 2) - 48) + (L (p + 3) - 48) := by unfold nuY; rw [if_pos (by omega)]
    rw [x0, y0]
    simp only [if_neg c1, if_neg (show ¬ L p = 112 by omega), if_neg (show ¬ L p = 116 by omega), if_neg (show ¬ L p = 111 by omega), if_pos c109]
    repeat (first
        | with_reducible refine Ok_g (by first | assumption | omega) ?_
        | with_reducible refine Ok_lt ?_
        | with_reducible refine Ok_t (by first | assumption | omega) ?_
        | with_reducible refine Ok_f (by first | assumption | omega) ?_)
    refine Ok_be (e_twoDigits (p := p + 2) (p + 3) rfl (by omega) (by omega)) ?_
    rw [hL (p + 2) (by omega), hL (p + 3) (by omega)]
    refine Ok_bd (Q := fun r M' => ExC M (if L (p + 1) - 48 < vw M 22 0 12 ∧ 10 * (L (p + 2) - 48) + (L (p + 3) - 48) < 24 then some (uset (vw M 22) 10 (L (p + 1) - 48).toNat (10 * (L (p + 2) - 48) + (L (p + 3) - 48))) else none) r M' ∧ (r = 0 ∨ r = 1)) ?_ ?_
    · unfold m_X4_setPlace
      refine Ok_g (by decide) ?_
      refine Ok_be (e_hasP (by decide) (by omega)) ?_
      by_cases g : L (p + 1) - 48 < rd M 22 12
      · repeat (first
            | with_reducible refine Ok_g (by first | assumption | omega) ?_
            | with_reducible refine Ok_lt ?_
            | with_reducible refine Ok_t (by first | assumption | omega) ?_
            | with_reducible refine Ok_f (by first | assumption | omega) ?_)
        refine Ok_be (e_isCell (by omega)) ?_
        by_cases g2 : 10 * (L (p + 2) - 48) + (L (p + 3) - 48) < 24
        · repeat (first
              | with_reducible refine Ok_g (by first | assumption | omega) ?_
              | with_reducible refine Ok_lt ?_
              | with_reducible refine Ok_t (by first | assumption | omega) ?_
              | with_reducible refine Ok_f (by first | assumption | omega) ?_)
          have g3 : 10 * (L (p + 2) - 48) + (L (p + 3) - 48) < 24 := g2
          repeat (first
              | with_reducible refine Ok_g (by first | assumption | omega) ?_
              | with_reducible refine Ok_lt ?_
              | with_reducible refine Ok_t (by first | assumption | omega) ?_
              | with_reducible refine Ok_f (by first | assumption | omega) ?_)
          refine Ok_wr (Ok_ret ⟨?_, .inr rfl⟩)
          obtain ⟨u1, u2, u3⟩ := up (q := 32) (i := (L (p + 1) - 48).toNat) (v := 10 * (L (p + 2) - 48) + (L (p + 3) - 48)) (by decide) (by decide)
          rw [if_pos (by omega)]
          exact ⟨u1, u2, u3, rfl, vw_set (w := 22) (k := 10) (by omega) (by decide) (by decide) (by decide) (show _ < 5 by omega)⟩
        · have g3 : ¬ 10 * (L (p + 2) - 48) + (L (p + 3) - 48) < 24 := g2
          repeat (first
              | with_reducible refine Ok_g (by first | assumption | omega) ?_
              | with_reducible refine Ok_lt ?_
              | with_reducible refine Ok_t (by first | assumption | omega) ?_
              | with_reducible refine Ok_f (by first | assumption | omega) ?_)
          exact Ok_ret ⟨no _ (by rw [if_neg (by omega)]), .inl rfl⟩
      · repeat (first
            | with_reducible refine Ok_g (by first | assumption | omega) ?_
            | with_reducible refine Ok_lt ?_
            | with_reducible refine Ok_t (by first | assumption | omega) ?_
            | with_reducible refine Ok_f (by first | assumption | omega) ?_)
        exact Ok_ret ⟨no _ (by rw [if_neg (by omega)]), .inl rfl⟩
    · rintro r M' ⟨h1, h2⟩
      repeat (first
          | with_reducible refine Ok_g (by first | assumption | omega) ?_
          | with_reducible refine Ok_lt ?_
          | with_reducible refine Ok_t (by first | assumption | omega) ?_
          | with_reducible refine Ok_f (by first | assumption | omega) ?_)
      exact Ok_ret h1
  by_cases c111 : L p = 111
  · have e3 : dgN (L p) = 2 := by unfold dgN; rw [if_neg c1, if_neg c104, if_neg c107, if_neg c109, if_pos c111]
    have x0 : nuX L p = L (p + 1) - 48 := by unfold nuX; rw [if_neg (by omega)]
    have y0 : nuY L p = L (p + 2) - 48 := by unfold nuY; rw [if_neg (by omega)]
    rw [x0, y0]
    simp only [if_neg c1, if_neg (show ¬ L p = 112 by omega), if_neg (show ¬ L p = 116 by omega), if_pos c111]
    repeat (first
        | with_reducible refine Ok_g (by first | assumption | omega) ?_
        | with_reducible refine Ok_lt ?_
        | with_reducible refine Ok_t (by first | assumption | omega) ?_
        | with_reducible refine Ok_f (by first | assumption | omega) ?_)
    refine Ok_be (e_digitAt (p := p + 2) (by omega) (by omega)) ?_
    rw [hL (p + 2) (by omega)]
    have so : ∀ v : Int, (v = -1 ∨ 0 ≤ v ∧ v ≤ 9) → Ok (m_X5_carriedOut_217 n M v (L (p + 1) - 48)) (fun r M' => ExC M (if L (p + 1) - 48 < vw M 22 0 7 ∧ (v = -1 ∨ v < vw M 22 0 12) then some (uset (vw M 22) 6 (L (p + 1) - 48).toNat v) else none) r M') := by
      intro v hv
      unfold m_X5_carriedOut_217
      refine Ok_bd (Q := fun r M' => ExC M (if L (p + 1) - 48 < vw M 22 0 7 ∧ (v = -1 ∨ v < vw M 22 0 12) then some (uset (vw M 22) 6 (L (p + 1) - 48).toNat v) else none) r M' ∧ (r = 0 ∨ r = 1)) ?_ ?_
      · have fin : (L (p + 1) - 48 < vw M 22 0 7 ∧ (v = -1 ∨ v < vw M 22 0 12)) → Ok (m_X4_setOwner_23 n M 22 (L (p + 1) - 48) v) (fun r M' => ExC M (if L (p + 1) - 48 < vw M 22 0 7 ∧ (v = -1 ∨ v < vw M 22 0 12) then some (uset (vw M 22) 6 (L (p + 1) - 48).toNat v) else none) r M' ∧ (r = 0 ∨ r = 1)) := by
          intro hy
          unfold m_X4_setOwner_23
          repeat (first
              | with_reducible refine Ok_g (by first | assumption | omega) ?_
              | with_reducible refine Ok_lt ?_
              | with_reducible refine Ok_t (by first | assumption | omega) ?_
              | with_reducible refine Ok_f (by first | assumption | omega) ?_)
          refine Ok_wr (Ok_ret ⟨?_, .inr rfl⟩)
          obtain ⟨u1, u2, u3⟩ := up (q := 28) (i := (L (p + 1) - 48).toNat) (v := v) (by decide) (by decide)
          rw [if_pos hy]
          exact ⟨u1, u2, u3, rfl, vw_set (w := 22) (k := 6) (by omega) (by decide) (by decide) (by decide) (show _ < 8 by omega)⟩
        unfold m_X4_setOwner
        refine Ok_g (by decide) ?_
        refine Ok_be (e_hasT (by decide) (by omega)) ?_
        by_cases g : L (p + 1) - 48 < rd M 22 7
        · repeat (first
              | with_reducible refine Ok_g (by first | assumption | omega) ?_
              | with_reducible refine Ok_lt ?_
              | with_reducible refine Ok_t (by first | assumption | omega) ?_
              | with_reducible refine Ok_f (by first | assumption | omega) ?_)
          refine Ok_if (fun g2 => fin ⟨by omega, .inl g2⟩) (fun g2 => ?_)
          refine Ok_be (e_hasP (by decide) (by omega)) ?_
          by_cases g3 : v < rd M 22 12
          · repeat (first
                | with_reducible refine Ok_g (by first | assumption | omega) ?_
                | with_reducible refine Ok_lt ?_
                | with_reducible refine Ok_t (by first | assumption | omega) ?_
                | with_reducible refine Ok_f (by first | assumption | omega) ?_)
            exact fin ⟨by omega, .inr (by omega)⟩
          · repeat (first
                | with_reducible refine Ok_g (by first | assumption | omega) ?_
                | with_reducible refine Ok_lt ?_
                | with_reducible refine Ok_t (by first | assumption | omega) ?_
                | with_reducible refine Ok_f (by first | assumption | omega) ?_)
            exact Ok_ret ⟨no _ (by rw [if_neg (by omega)]), .inl rfl⟩
        · repeat (first
              | with_reducible refine Ok_g (by first | assumption | omega) ?_
              | with_reducible refine Ok_lt ?_
              | with_reducible refine Ok_t (by first | assumption | omega) ?_
              | with_reducible refine Ok_f (by first | assumption | omega) ?_)
          exact Ok_ret ⟨no _ (by rw [if_neg (by omega)]), .inl rfl⟩
      · rintro r M' ⟨h1, h2⟩
        repeat (first
            | with_reducible refine Ok_g (by first | assumption | omega) ?_
            | with_reducible refine Ok_lt ?_
            | with_reducible refine Ok_t (by first | assumption | omega) ?_
            | with_reducible refine Ok_f (by first | assumption | omega) ?_)
        exact Ok_ret h1
    repeat (first
        | with_reducible refine Ok_g (by first | assumption | omega) ?_
        | with_reducible refine Ok_lt ?_
        | with_reducible refine Ok_t (by first | assumption | omega) ?_
        | with_reducible refine Ok_f (by first | assumption | omega) ?_)
    refine Ok_if (fun g => ?_) (fun g => ?_)
    · have := so (-1) (.inl rfl)
      rw [if_pos g]
      refine Ok_mono this ?_
      intro r M' h
      have e : ∀ X : US, (if L (p + 1) - 48 < vw M 22 0 7 ∧ (L (p + 2) - 48 = 9 ∨ L (p + 2) - 48 < vw M 22 0 12) then some X else none) = (if L (p + 1) - 48 < vw M 22 0 7 ∧ ((-1 : Int) = -1 ∨ (-1 : Int) < vw M 22 0 12) then some X else none) := by
        intro X
        by_cases z : L (p + 1) - 48 < vw M 22 0 7
        · rw [if_pos ⟨z, .inl g⟩, if_pos ⟨z, .inl rfl⟩]
        · rw [if_neg (fun w => z w.1), if_neg (fun w => z w.1)]
      rw [e]
      exact h
    · have := so (L (p + 2) - 48) (.inr (by omega))
      rw [if_neg g]
      refine Ok_mono this ?_
      intro r M' h
      have e : (L (p + 1) - 48 < vw M 22 0 7 ∧ (L (p + 2) - 48 = 9 ∨ L (p + 2) - 48 < vw M 22 0 12)) ↔ (L (p + 1) - 48 < vw M 22 0 7 ∧ (L (p + 2) - 48 = -1 ∨ L (p + 2) - 48 < vw M 22 0 12)) := by
        constructor
        · exact fun z => ⟨z.1, .inr (by omega)⟩
        · exact fun z => ⟨z.1, .inr (by omega)⟩
      simp only [e]
      exact h
  by_cases c112 : L p = 112
  · have e3 : dgN (L p) = 4 := by unfold dgN; rw [if_neg c1, if_neg c104, if_neg c107, if_neg c109, if_neg c111, if_pos c112]
    have x0 : nuX L p = L (p + 1) - 48 := by unfold nuX; rw [if_neg (by omega)]
    have y0 : nuY L p = L (p + 2) - 48 := by unfold nuY; rw [if_neg (by omega)]
    have z0 : nuZ L p = 10 * (L (p + 3) - 48) + (L (p + 4) - 48) := by unfold nuZ; rw [if_pos c112]
    rw [x0, y0, z0]
    simp only [if_neg c1, if_pos c112]
    repeat (first
        | with_reducible refine Ok_g (by first | assumption | omega) ?_
        | with_reducible refine Ok_lt ?_
        | with_reducible refine Ok_t (by first | assumption | omega) ?_
        | with_reducible refine Ok_f (by first | assumption | omega) ?_)
    refine Ok_if (fun g => Ok_ret (no _ (by rw [if_neg (by omega)]))) (fun g => ?_)
    refine Ok_be (e_digitAt (p := p + 2) (by omega) (by omega)) ?_
    refine Ok_be (e_twoDigits (p := p + 3) (p + 4) rfl (by omega) (by omega)) ?_
    rw [hL (p + 2) (by omega), hL (p + 3) (by omega), hL (p + 4) (by omega)]
    refine Ok_bd (e_addPerson (.inr rfl) wf (by omega) (by omega) (by omega)) ?_
    rintro r M1 (⟨rfl, rfl, hno⟩ | ⟨rfl, hy, v1, f1⟩)
    · repeat (first
          | with_reducible refine Ok_g (by first | assumption | omega) ?_
          | with_reducible refine Ok_lt ?_
          | with_reducible refine Ok_t (by first | assumption | omega) ?_
          | with_reducible refine Ok_f (by first | assumption | omega) ?_)
      exact Ok_ret (no _ (by rw [if_neg (by omega)]))
    · repeat (first
          | with_reducible refine Ok_g (by first | assumption | omega) ?_
          | with_reducible refine Ok_lt ?_
          | with_reducible refine Ok_t (by first | assumption | omega) ?_
          | with_reducible refine Ok_f (by first | assumption | omega) ?_)
      refine Ok_ret ⟨SkyOk_keep sk (fun q i _ _ => f1 q i (by omega)), fun q i h => f1 q i (by omega), fun q i h => f1 q i (by omega), ?_⟩
      rw [if_pos (by omega)]
      exact ⟨rfl, v1⟩
  · have c116 : L p = 116 := by omega
    have e3 : dgN (L p) = 3 := by unfold dgN; rw [if_neg c1, if_neg c104, if_neg c107, if_neg c109, if_neg c111, if_neg c112, if_pos c116]
    have x0 : nuX L p = L (p + 1) - 48 := by unfold nuX; rw [if_neg (by omega)]
    have y0 : nuY L p = 10 * (L (p + 2) - 48) + (L (p + 3) - 48) := by unfold nuY; rw [if_pos (by omega)]
    rw [x0, y0]
    simp only [if_neg c1, if_neg c112, if_pos c116]
    repeat (first
        | with_reducible refine Ok_g (by first | assumption | omega) ?_
        | with_reducible refine Ok_lt ?_
        | with_reducible refine Ok_t (by first | assumption | omega) ?_
        | with_reducible refine Ok_f (by first | assumption | omega) ?_)
    refine Ok_be (e_twoDigits (p := p + 2) (p + 3) rfl (by omega) (by omega)) ?_
    rw [hL (p + 2) (by omega), hL (p + 3) (by omega)]
    refine Ok_bd (e_addThing (.inr rfl) wf (by omega) (by omega)) ?_
    rintro r M1 (⟨rfl, rfl, hno⟩ | ⟨rfl, hy, v1, f1⟩)
    · repeat (first
          | with_reducible refine Ok_g (by first | assumption | omega) ?_
          | with_reducible refine Ok_lt ?_
          | with_reducible refine Ok_t (by first | assumption | omega) ?_
          | with_reducible refine Ok_f (by first | assumption | omega) ?_)
      exact Ok_ret (no _ (by rw [if_neg (by omega)]))
    · repeat (first
          | with_reducible refine Ok_g (by first | assumption | omega) ?_
          | with_reducible refine Ok_lt ?_
          | with_reducible refine Ok_t (by first | assumption | omega) ?_
          | with_reducible refine Ok_f (by first | assumption | omega) ?_)
      refine Ok_ret ⟨SkyOk_keep sk (fun q i _ _ => f1 q i (by omega)), fun q i h => f1 q i (by omega), fun q i h => f1 q i (by omega), ?_⟩
      rw [if_pos (by omega)]
      exact ⟨rfl, v1⟩
