/-! coasts carried out -/
def cx (L : Nat → Int) : Nat → Nat → US → Int × Option US
  | 0, j, u => ((j : Int), some u)
  | k + 1, j, u => match exL L (pos L j) u with
    | none => (-2000 - (pos L j : Int), none)
    | some u' => cx L k (j + 1) u'
theorem nu_b {L : Nat → Int} {p : Nat} (dk : DgOk L p) : (0 ≤ nuX L p ∧ nuX L p ≤ 99) ∧ (L p ≠ 104 → nuX L p ≤ 9) ∧ (1 < dgN (L p) → L p ≠ 104 → (0 ≤ nuY L p ∧ nuY L p ≤ 99) ∧ (L p ≠ 109 → L p ≠ 116 → nuY L p ≤ 9)) ∧ (L p = 102 ∨ L p = 112 → (0 ≤ nuZ L p ∧ nuZ L p ≤ 99) ∧ (L p ≠ 112 → nuZ L p ≤ 9)) := by
  have dp := dk.1
  have d1 := dk.2 1 (by omega)
  have d2 := dk.2 2 (by omega)
  have d3 := dk.2 3 (by omega)
  have d4 := dk.2 4 (by omega)
  have cs := dg_cases dp
  have e104 : L p = 104 → dgN (L p) = 2 := fun h => by rw [h]; decide
  have e109 : L p = 109 → dgN (L p) = 3 := fun h => by rw [h]; decide
  have e116 : L p = 116 → dgN (L p) = 3 := fun h => by rw [h]; decide
  have e112 : L p = 112 → dgN (L p) = 4 := fun h => by rw [h]; decide
  have e102 : L p = 102 → dgN (L p) = 3 := fun h => by rw [h]; decide
  have e111 : L p = 111 → dgN (L p) = 2 := fun h => by rw [h]; decide
  have e107 : L p = 107 → dgN (L p) = 1 := fun h => by rw [h]; decide
  generalize dgN (L p) = D at *
  refine ⟨?_, ?_, ?_, ?_⟩
  · unfold nuX
    by_cases c : L p = 104
    · rw [if_pos c]; omega
    · rw [if_neg c]; omega
  · intro c
    unfold nuX
    rw [if_neg c]; omega
  · intro g1 g2
    unfold nuY
    by_cases c : L p = 109 ∨ L p = 116
    · rw [if_pos c]; omega
    · rw [if_neg c]; omega
  · intro g
    unfold nuZ
    by_cases c : L p = 112
    · rw [if_pos c]; omega
    · rw [if_neg c]; omega
def nz (b : Bool) (v : Int) : Int := if b then v else 0
theorem exL_wf {L : Nat → Int} {p : Nat} {u u' : US} (dk : DgOk L p) (wf : WF 999 u) (h : exL L p u = some u') : WF 999 u' := by
  obtain ⟨b1, b2, b3, b4⟩ := nu_b dk
  have dp := dk.1
  unfold exL at h
  rw [exS_congr (y' := nz (decide (1 < dgN (L p) ∧ L p ≠ 104)) (nuY L p)) (z' := nz (decide (L p = 102 ∨ L p = 112)) (nuZ L p)) dp (fun a b => by rw [decide_eq_true ⟨a, b⟩]; rfl) (fun a => by rw [decide_eq_true a]; rfl)] at h
  have hy : (0 ≤ nz (decide (1 < dgN (L p) ∧ L p ≠ 104)) (nuY L p) ∧ nz (decide (1 < dgN (L p) ∧ L p ≠ 104)) (nuY L p) ≤ 99) ∧ (L p ≠ 109 → L p ≠ 116 → nz (decide (1 < dgN (L p) ∧ L p ≠ 104)) (nuY L p) ≤ 9) := by
    by_cases g : 1 < dgN (L p) ∧ L p ≠ 104
    · rw [decide_eq_true g]
      exact b3 g.1 g.2
    · rw [decide_eq_false g]
      exact ⟨(show (0 : Int) ≤ 0 ∧ (0 : Int) ≤ 99 by decide), fun _ _ => (show (0 : Int) ≤ 9 by decide)⟩
  have hz : (0 ≤ nz (decide (L p = 102 ∨ L p = 112)) (nuZ L p) ∧ nz (decide (L p = 102 ∨ L p = 112)) (nuZ L p) ≤ 99) ∧ (L p ≠ 112 → nz (decide (L p = 102 ∨ L p = 112)) (nuZ L p) ≤ 9) := by
    by_cases g : L p = 102 ∨ L p = 112
    · rw [decide_eq_true g]
      exact b4 g
    · rw [decide_eq_false g]
      exact ⟨(show (0 : Int) ≤ 0 ∧ (0 : Int) ≤ 99 by decide), fun _ => (show (0 : Int) ≤ 9 by decide)⟩
  exact exS_wf wf dp b1 b2 hy.1 hy.2 hz.1 hz.2 h
theorem exL_kt {L : Nat → Int} {p : Nat} {u u' : US} (hk : Kt u) (h : exL L p u = some u') : Kt u' := exS_kt hk h
theorem cx_wf {L : Nat → Int} {len S : Nat} (h : AllT L len S) : ∀ (k j : Nat) (u u' : US), j + k = S → WF 999 u → (cx L k j u).2 = some u' → WF 999 u' := by
  intro k
  induction k with
  | zero =>
    intro j u u' _ wf e
    cases e
    exact wf
  | succ k ih =>
    intro j u u' hj wf e
    rw [cx] at e
    cases g : exL L (pos L j) u with
    | none => rw [g] at e; cases e
    | some u1 =>
      rw [g] at e
      exact ih (j + 1) u1 u' (by omega) (exL_wf (stm_none (h j (by omega))).1 wf g) e
theorem e_coast_43 {n len S : Nat} {M0 : Mem} {L : Nat → Int} (hn : 2000 ≤ n) (hl : len ≤ 96) (hL : ∀ i, i < len → rd M0 132 i = L i) (hA : AllT L len S) (hS : pos L S = len) :
    ∀ (k t j : Nat) (M : Mem) (u : US), j + k = S → k < t → KM M0 M → SkyOk M → (∀ q i, q = 135 ∨ q = 136 → M q i = M0 q i) → vw M 22 = u → WF 999 u → Kt u →
    Ok (m_X5_coast_43 n t M (len : Int) (j : Int) (pos L j : Int)) (fun r M' => r = (cx L k j u).1 ∧ match (cx L k j u).2 with
      | none => SkyOk M' ∧ KM M0 M' ∧ ∀ q i, q = 135 ∨ q = 136 → M' q i = M0 q i
      | some u' => ∃ M1, M' = mup M1 130 4 0 ∧ SkyOk M1 ∧ vw M1 0 = u' ∧ ∀ q i, (11 ≤ q ∧ q < 22) ∨ (32 < q ∧ q < 121) ∨ 129 < q → M1 q i = M0 q i) := by
  intro k
  induction k with
  | zero =>
    intro t j M u hj ht km sk k56 hv wf hk
    cases t with
    | zero => omega
    | succ t =>
      rw [m_X5_coast_43]
      have : pos L j = len := by rw [show j = S by omega]; exact hS
      rw [this]
      repeat (first
          | with_reducible refine Ok_g (by first | assumption | omega) ?_
          | with_reducible refine Ok_lt ?_
          | with_reducible refine Ok_t (by first | assumption | omega) ?_
          | with_reducible refine Ok_f (by first | assumption | omega) ?_)
      refine Ok_bd (e_bec (w := 0) (w' := 22) (by decide) (by decide) (by decide) (by decide) (by rw [hv]; exact hk.1) (by rw [hv]; exact hk.2)) ?_
      rintro _ M1 ⟨v1, f1⟩
      refine Ok_wr (Ok_ret ⟨rfl, M1, rfl, SkyOk_keep sk (fun q i _ _ => f1 q i (by omega)), by rw [v1, hv], ?_⟩)
      intro q i h
      rw [f1 q i (by omega)]
      by_cases g : q = 135 ∨ q = 136
      · exact k56 q i g
      · exact km q i (by omega)
  | succ k ih =>
    intro t j M u hj ht km sk k56 hv wf hk
    cases t with
    | zero => omega
    | succ t =>
      rw [m_X5_coast_43, cx]
      have hst := stm_none (hA j (by omega))
      have hlt := pos_lt hA (j := j) (by omega)
      have hb := pos_ge hA j (by omega)
      repeat (first
          | with_reducible refine Ok_g (by first | assumption | omega) ?_
          | with_reducible refine Ok_lt ?_
          | with_reducible refine Ok_t (by first | assumption | omega) ?_
          | with_reducible refine Ok_f (by first | assumption | omega) ?_)
      have hLr : ∀ i, i < 96 → rd M 132 i = rd M 132 i := fun _ _ => rfl
      have cg : ∀ i, i ≤ dgN (L (pos L j)) → rd M 132 (pos L j + i) = L (pos L j + i) := fun i hi => by
        rw [rd_of (km _ _ (by omega))]
        exact hL _ (by omega)
      have c0 : rd M 132 (pos L j) = L (pos L j) := cg 0 (by omega)
      have dk : DgOk (fun i => rd M 132 i) (pos L j) := by
        refine ⟨by show 0 < dgN (rd M 132 (pos L j)); rw [c0]; exact hst.1.1, fun i h1 h2 => ?_⟩
        have h2' : i ≤ dgN (L (pos L j)) := by
          have : i ≤ dgN (rd M 132 (pos L j)) := h2
          rw [c0] at this; exact this
        show 48 ≤ rd M 132 (pos L j + i) ∧ rd M 132 (pos L j + i) ≤ 57
        rw [cg i h2']
        exact hst.1.2 i h1 h2'
      have ec := e_carriedOut (L := fun i => rd M 132 i) (n := n) (p := pos L j) (M := M) hn hLr dk (by show pos L j + dgN (rd M 132 (pos L j)) + 1 < 96; rw [c0]; omega) sk (by rw [hv]; exact wf)
      refine Ok_bd ec ?_
      rintro r M1 ⟨s1, k1, k56', a1⟩
      have ee : exL (fun i => rd M 132 i) (pos L j) (vw M 22) = exL L (pos L j) u := by rw [hv]; exact exL_congr hst.1.1 cg
      rw [ee] at a1
      cases g : exL L (pos L j) u with
      | none =>
        rw [g] at a1
        repeat (first
            | with_reducible refine Ok_g (by first | assumption | omega) ?_
            | with_reducible refine Ok_lt ?_
            | with_reducible refine Ok_t (by first | assumption | omega) ?_
            | with_reducible refine Ok_f (by first | assumption | omega) ?_)
        exact Ok_ret ⟨rfl, s1, KM_trans km k1, fun q i h => by rw [k56' q i h, k56 q i h]⟩
      | some u1 =>
        rw [g] at a1
        obtain ⟨b1, b2⟩ := a1
        repeat (first
            | with_reducible refine Ok_g (by first | assumption | omega) ?_
            | with_reducible refine Ok_lt ?_
            | with_reducible refine Ok_t (by first | assumption | omega) ?_
            | with_reducible refine Ok_f (by first | assumption | omega) ?_)
        refine Ok_be (e_letterAt (by omega)) ?_
        have r := rd_rng M1 132 (pos L j)
        have c1 : rd M1 132 (pos L j) = L (pos L j) := by rw [rd_of (k1 _ _ (by omega))]; exact c0
        rw [c1] at r ⊢
        refine Ok_be (e_digitsBehind r) ?_
        rw [if_neg (show ¬ dgN (L (pos L j)) = 0 from Nat.ne_of_gt hst.1.1)]
        rw [show (pos L j : Int) + (((dgN (L (pos L j)) : Nat) : Int) + 2) = ((pos L (j + 1) : Nat) : Int) by rw [pos_S]; omega, show (j : Int) + 1 = ((j + 1 : Nat) : Int) by omega]
        exact ih t (j + 1) M1 u1 (by omega) (by omega) (KM_trans km k1) s1 (fun q i h => by rw [k56' q i h, k56 q i h]) b2 (exL_wf hst.1 wf g) (exL_kt hk g)
theorem r_coast_86 {n len S : Nat} {M0 : Mem} {L : Nat → Int} {u0 : US} (hn : 2000 ≤ n) (hl : len ≤ 96) (hA : AllT L len S) (hS : pos L S = len) (hK : Kpt L M0 S) (h24 : rd M0 137 24 = S) (hk1 : kv M0 1 = u0) (h20 : vw M0 137 0 20 = -1) (h21 : vw M0 137 0 21 = 0) :
    ∀ (k t j : Nat) (M : Mem) (u : US), j + k = S → k < t → KT M0 M → vw M 137 = u → WF 999 u →
    Ok (m_X6_coast_86 n t M (j : Int)) (fun r M' => r = (cx L k j u).1 ∧ match (cx L k j u).2 with
      | none => vw M' 137 = u0 ∧ ∀ q i, ¬ (138 ≤ q ∧ q ≤ 147) → q ≠ 149 → q ≠ 150 → ¬ (q = 137 ∧ (i = 3 ∨ i = 7 ∨ i = 12 ∨ i = 13 ∨ i = 14 ∨ i = 27 ∨ i = 28)) → M' q i = M0 q i
      | some u' => ∃ M1, M' = mup M1 137 30 0 ∧ vw M1 137 = u' ∧ KT M0 M1) := by
  intro k
  induction k with
  | zero =>
    intro t j M u hj ht km hv wf
    cases t with
    | zero => omega
    | succ t =>
      rw [m_X6_coast_86]
      have e24 : rd M 137 24 = S := by rw [rd_of (km _ _ (by omega) (by omega) (by omega) (by omega))]; exact h24
      rw [e24]
      have hb := pos_ge hA S (Nat.le_refl _)
      repeat (first
          | with_reducible refine Ok_g (by first | assumption | omega) ?_
          | with_reducible refine Ok_lt ?_
          | with_reducible refine Ok_t (by first | assumption | omega) ?_
          | with_reducible refine Ok_f (by first | assumption | omega) ?_)
      refine Ok_wr (Ok_ret ?_)
      rw [cx]
      refine ⟨?_, M, rfl, hv, km⟩
      show rd (mup M 137 30 0) 137 24 = (j : Int)
      rw [rd_upne _ _ _ _ _ _ (by omega), e24]
      omega
  | succ k ih =>
    intro t j M u hj ht km hv wf
    cases t with
    | zero => omega
    | succ t =>
      rw [m_X6_coast_86, cx]
      have e24 : rd M 137 24 = S := by rw [rd_of (km _ _ (by omega) (by omega) (by omega) (by omega))]; exact h24
      rw [e24]
      have hst := stm_none (hA j (by omega))
      have hlt := pos_lt hA (j := j) (by omega)
      have hb := pos_ge hA j (by omega)
      obtain ⟨p1, p2, p3⟩ := hK j (by omega)
      have kk : ∀ q i, 152 ≤ q → rd M q i = rd M0 q i := fun q i h => rd_of (km _ _ (by omega) (by omega) (by omega) (by omega))
      obtain ⟨t1, t2, t3⟩ := p3
      obtain ⟨b1, b2, b3, b4⟩ := nu_b hst.1
      have dp := hst.1.1
      repeat (first
          | with_reducible refine Ok_g (by first | assumption | omega) ?_
          | with_reducible refine Ok_lt ?_
          | with_reducible refine Ok_t (by first | assumption | omega) ?_
          | with_reducible refine Ok_f (by first | assumption | omega) ?_)
      refine Ok_bd (r_comesTold (n := n) (s := j) (M := M) (c := L (pos L j)) (x := nuX L (pos L j)) (y := rd M 154 (3 * j + 1)) (z := rd M 154 (3 * j + 2)) hn (by omega) (by rw [kk _ _ (by decide)]; exact p1) (by rw [kk _ _ (by decide)]; exact t1) rfl rfl (by rw [hv]; exact wf) dp b1 b2 (fun a b => by rw [kk _ _ (by decide), t2 a b]; exact (b3 a b).1) (fun a => by
          have a1 : 1 < dgN (L (pos L j)) := by rcases a with a | a | a <;> rw [a] <;> decide
          rw [kk _ _ (by decide), t2 a1 (by omega)]
          exact (b3 a1 (by omega)).2 (by omega) (by omega)) (fun a => by rw [kk _ _ (by decide), t3 a]; exact (b4 a).1) (fun a => by rw [kk _ _ (by decide), t3 (.inl a)]; exact (b4 (.inl a)).2 (by omega))) ?_
      rintro r M1 ⟨k1, a1⟩
      have ee : exS (L (pos L j)) (nuX L (pos L j)) (rd M 154 (3 * j + 1)) (rd M 154 (3 * j + 2)) (vw M 137) = exL L (pos L j) u := by
        rw [hv]
        exact exS_congr dp (fun a b => by rw [kk _ _ (by decide), t2 a b]) (fun a => by rw [kk _ _ (by decide), t3 a])
      rw [ee] at a1
      have km1 : KT M0 M1 := fun q i a b c d => by rw [k1 q i a b c d, km q i a b c d]
      cases g : exL L (pos L j) u with
      | none =>
        rw [g] at a1
        repeat (first
            | with_reducible refine Ok_g (by first | assumption | omega) ?_
            | with_reducible refine Ok_lt ?_
            | with_reducible refine Ok_t (by first | assumption | omega) ?_
            | with_reducible refine Ok_f (by first | assumption | omega) ?_)
        have hz20 : vw M1 137 0 20 = -1 := by rw [v137k, rd_of (km1 _ _ (by omega) (by omega) (by omega) (by omega)), ← v137k]; exact h20
        have hz21 : vw M1 137 0 21 = 0 := by rw [v137s, rd_of (km1 _ _ (by omega) (by omega) (by omega) (by omega)), ← v137s]; exact h21
        refine Ok_bd (r_giv (x := 1) hn (by decide) hz20 hz21) ?_
        rintro _ M2 ⟨v2, f2⟩
        repeat (first
            | with_reducible refine Ok_g (by first | assumption | omega) ?_
            | with_reducible refine Ok_lt ?_
            | with_reducible refine Ok_t (by first | assumption | omega) ?_
            | with_reducible refine Ok_f (by first | assumption | omega) ?_)
        refine Ok_ret ⟨?_, ?_, ?_⟩
        · rw [Int.toNat_natCast, rd_of (f2 153 j (by omega) (by omega)), rd_of (km1 _ _ (by omega) (by omega) (by omega) (by omega)), p2]
        · rw [v2, kv_congr (M := M0) (fun x _ _ => km1 _ _ (by omega) (by omega) (by omega) (by omega)), hk1]
        · intro q i a b c d
          rw [f2 q i a (by omega), km1 q i a b c (by omega)]
      | some u1 =>
        rw [g] at a1
        obtain ⟨c1, c2⟩ := a1
        repeat (first
            | with_reducible refine Ok_g (by first | assumption | omega) ?_
            | with_reducible refine Ok_lt ?_
            | with_reducible refine Ok_t (by first | assumption | omega) ?_
            | with_reducible refine Ok_f (by first | assumption | omega) ?_)
        exact ih t (j + 1) M1 u1 (by omega) (by omega) km1 c2 (exL_wf hst.1 wf g)
