/-! statements told one after another -/
theorem exS_congr {c x y z y' z' : Int} {u : US} (hd : 0 < dgN c) (hy : 1 < dgN c → c ≠ 104 → y = y') (hz : c = 102 ∨ c = 112 → z = z') : exS c x y z u = exS c x y' z' u := by
  rcases dg_cases hd with e | e | e | e | e | e | e
  · subst e
    rw [hy (by decide) (by decide), hz (by decide)]
  · subst e
    unfold exS
    simp only [if_neg (show ¬ (104 : Int) = 102 by decide), if_neg (show ¬ (104 : Int) = 112 by decide), if_neg (show ¬ (104 : Int) = 116 by decide), if_neg (show ¬ (104 : Int) = 111 by decide), if_neg (show ¬ (104 : Int) = 109 by decide)]
  · subst e
    unfold exS
    simp only [if_neg (show ¬ (107 : Int) = 102 by decide), if_neg (show ¬ (107 : Int) = 112 by decide), if_neg (show ¬ (107 : Int) = 116 by decide), if_neg (show ¬ (107 : Int) = 111 by decide), if_neg (show ¬ (107 : Int) = 109 by decide)]
  · subst e
    rw [hy (by decide) (by decide)]
    unfold exS
    simp only [if_neg (show ¬ (109 : Int) = 102 by decide), if_neg (show ¬ (109 : Int) = 112 by decide)]
  · subst e
    rw [hy (by decide) (by decide)]
    unfold exS
    simp only [if_neg (show ¬ (111 : Int) = 102 by decide), if_neg (show ¬ (111 : Int) = 112 by decide)]
  · subst e
    rw [hy (by decide) (by decide), hz (by decide)]
  · subst e
    rw [hy (by decide) (by decide)]
    unfold exS
    simp only [if_neg (show ¬ (116 : Int) = 102 by decide), if_neg (show ¬ (116 : Int) = 112 by decide)]
theorem nu_congr {L L' : Nat → Int} {p : Nat} (hd : 0 < dgN (L p)) (h : ∀ i, i ≤ dgN (L p) → L' (p + i) = L (p + i)) : L' p = L p ∧ nuX L' p = nuX L p ∧ (1 < dgN (L p) → L p ≠ 104 → nuY L' p = nuY L p) ∧ (L p = 102 ∨ L p = 112 → nuZ L' p = nuZ L p) := by
  have h0 : L' p = L p := h 0 (by omega)
  have h1 := h 1 (by omega)
  refine ⟨h0, ?_, ?_, ?_⟩
  · unfold nuX
    rw [h0, h1]
    by_cases c : L p = 104
    · rw [if_pos c, if_pos c, h 2 (by rw [c]; decide)]
    · rw [if_neg c, if_neg c]
  · intro g1 g2
    have h2 := h 2 (by omega)
    unfold nuY
    rw [h0, h2]
    by_cases c : L p = 109 ∨ L p = 116
    · rw [if_pos c, if_pos c, h 3 (by rcases c with c | c <;> rw [c] <;> decide)]
    · rw [if_neg c, if_neg c]
  · intro g
    have h3 := h 3 (by rcases g with c | c <;> rw [c] <;> decide)
    unfold nuZ
    rw [h0, h3]
    by_cases c : L p = 112
    · rw [if_pos c, if_pos c, h 4 (by rw [c]; decide)]
    · rw [if_neg c, if_neg c]
theorem exL_congr {L L' : Nat → Int} {p : Nat} {u : US} (hd : 0 < dgN (L p)) (h : ∀ i, i ≤ dgN (L p) → L' (p + i) = L (p + i)) : exL L' p u = exL L p u := by
  obtain ⟨h0, h1, h2, h3⟩ := nu_congr hd h
  unfold exL
  rw [h0, h1]
  exact exS_congr hd h2 h3
/-- no kettle, no sun -/
def Kt (u : US) : Prop := u 0 20 = -1 ∧ u 0 21 = 0
theorem Kt_set {u : US} (h : Kt u) (k i : Nat) (v : Int) (g : k ≠ 0 ∨ (i ≠ 20 ∧ i ≠ 21)) : Kt (uset u k i v) := by
  have a : uset u k i v 0 20 = u 0 20 := by
    show (if 0 = k ∧ 20 = i then v else u 0 20) = _
    rw [if_neg (by omega)]
  have b : uset u k i v 0 21 = u 0 21 := by
    show (if 0 = k ∧ 21 = i then v else u 0 21) = _
    rw [if_neg (by omega)]
  exact ⟨a.trans h.1, b.trans h.2⟩
theorem exS_kt {u u' : US} {c x y z : Int} (hk : Kt u) (h : exS c x y z u = some u') : Kt u' := by
  unfold exS at h
  by_cases c1 : c = 102
  · rw [if_pos c1] at h
    by_cases g : x < 7 ∧ u 0 3 < 6
    · rw [if_pos g] at h
      cases h
      exact Kt_set (Kt_set (Kt_set (Kt_set hk _ _ _ (by omega)) _ _ _ (by omega)) _ _ _ (by omega)) _ _ _ (by omega)
    · rw [if_neg g] at h; cases h
  rw [if_neg c1] at h
  by_cases c2 : c = 112
  · rw [if_pos c2] at h
    by_cases g : x < 8 ∧ z < 24 ∧ u 0 12 < 5
    · rw [if_pos g] at h
      cases h
      exact Kt_set (Kt_set (Kt_set (Kt_set (Kt_set hk _ _ _ (by omega)) _ _ _ (by omega)) _ _ _ (by omega)) _ _ _ (by omega)) _ _ _ (by omega)
    · rw [if_neg g] at h; cases h
  rw [if_neg c2] at h
  by_cases c3 : c = 116
  · rw [if_pos c3] at h
    by_cases g : y < 24 ∧ u 0 7 < 8
    · rw [if_pos g] at h
      cases h
      exact Kt_set (Kt_set (Kt_set (Kt_set hk _ _ _ (by omega)) _ _ _ (by omega)) _ _ _ (by omega)) _ _ _ (by omega)
    · rw [if_neg g] at h; cases h
  rw [if_neg c3] at h
  by_cases c4 : c = 111
  · rw [if_pos c4] at h
    by_cases g : x < u 0 7 ∧ (y = 9 ∨ y < u 0 12)
    · rw [if_pos g] at h
      cases h
      exact Kt_set hk _ _ _ (by omega)
    · rw [if_neg g] at h; cases h
  rw [if_neg c4] at h
  by_cases c5 : c = 109
  · rw [if_pos c5] at h
    by_cases g : x < u 0 12 ∧ y < 24
    · rw [if_pos g] at h
      cases h
      exact Kt_set hk _ _ _ (by omega)
    · rw [if_neg g] at h; cases h
  rw [if_neg c5] at h
  by_cases c6 : c = 107
  · rw [if_pos c6] at h
    by_cases g : x = 0
    · rw [if_pos g] at h; cases h
    · rw [if_neg g] at h
      cases h
      exact Kt_set hk _ _ _ (by omega)
  rw [if_neg c6] at h
  by_cases g : 1 ≤ x ∧ x ≤ 60 ∧ u 0 13 + x ≤ 999
  · rw [if_pos g] at h
    cases h
    unfold hoursS
    refine ⟨?_, ?_⟩
    · rw [hoursS_o _ _ _ (by decide) (by decide) (by omega)]; exact hk.1
    · rw [hoursS_o _ _ _ (by decide) (by decide) (by omega)]; exact hk.2
  · rw [if_neg g] at h; cases h
/-- where a statement begins -/
def pos (L : Nat → Int) : Nat → Nat
  | 0 => 0
  | j + 1 => pos L j + dgN (L (pos L j)) + 2
theorem pos_S (L : Nat → Int) (j : Nat) : pos L (j + 1) = pos L j + dgN (L (pos L j)) + 2 := rfl
/-- all statements told up to S -/
def AllT (L : Nat → Int) (len S : Nat) : Prop := ∀ j, j < S → stm L len (pos L j) = none
theorem pos_ge {L : Nat → Int} {len S : Nat} (h : AllT L len S) : ∀ j, j ≤ S → 3 * j ≤ pos L j := by
  intro j
  induction j with
  | zero => intro _; exact Nat.zero_le _
  | succ j ih =>
    intro hj
    have a := (stm_none (h j (by omega))).1.1
    have b := ih (by omega)
    rw [pos_S]
    omega
theorem pos_lt {L : Nat → Int} {len S : Nat} (h : AllT L len S) {j : Nat} (hj : j < S) : pos L j + dgN (L (pos L j)) + 1 < len := (stm_none (h j hj)).2.1
theorem wrS_S {L : Nat → Int} {len : Nat} : ∀ k s, len < k + pos L s → pos L s ≤ len → AllT L len s → wrS L len k (pos L s) = none → ∃ S, s ≤ S ∧ AllT L len S ∧ pos L S = len := by
  intro k
  induction k with
  | zero => intro s h1 h2; omega
  | succ k ih =>
    intro s h1 h2 h3 h4
    rw [wrS] at h4
    by_cases c : pos L s < len
    · rw [if_pos c] at h4
      cases e : stm L len (pos L s) with
      | some x => rw [e] at h4; cases h4
      | none =>
        rw [e] at h4
        have hn := stm_none e
        obtain ⟨S, a, b, d⟩ := ih (s + 1) (by rw [pos_S]; omega) (by rw [pos_S]; omega) (fun j hj => by
          by_cases q : j = s
          · rw [q]; exact e
          · exact h3 j (by omega)) h4
        exact ⟨S, by omega, b, d⟩
    · exact ⟨s, Nat.le_refl _, h3, by omega⟩
/-- what the second side keeps of the statements -/
def Kpt (L : Nat → Int) (M : Mem) (s : Nat) : Prop := ∀ j, j < s → rd M 152 j = L (pos L j) ∧ rd M 153 j = pos L j ∧ Tld L M (pos L j) j
def KQ (M M' : Mem) : Prop := ∀ q i, ¬ (q = 137 ∧ (i = 23 ∨ i = 24 ∨ i = 25)) → ¬ (152 ≤ q ∧ q ≤ 154) → M' q i = M q i
theorem r_coast_12 {n len : Nat} {M0 : Mem} {L : Nat → Int} {P : Int → Mem → Prop} (hn : 2000 ≤ n) (hl : len ≤ 96) (hl0 : 0 < len) (hB : ∀ i, 0 ≤ L i ∧ L i ≤ 255) (hL0 : ∀ i, len ≤ i → L i = 0) (hL : ∀ i, i < len → rd M0 151 i = L i) (h22 : rd M0 137 22 = len) :
    ∀ (k t s : Nat) (M : Mem), len < k + pos L s → k < t → pos L s ≤ len → AllT L len s → KQ M0 M → Kpt L M s → rd M 137 23 = pos L s → rd M 137 24 = s →
    (match wrS L len k (pos L s) with
      | some x => ∀ M', KQ M0 M' → rd M' 137 23 = x → Ok (m_X6_coast_60 n M' 0) P
      | none => ∀ M' S, KQ M0 M' → AllT L len S → pos L S = len → Kpt L M' S → rd M' 137 24 = (S : Int) → Ok (m_X6_coast_60 n M' 1) P) →
    Ok (m_X6_coast_12 n t M 1) P := by
  intro k
  induction k with
  | zero => intro t s M h1 h2 h3; omega
  | succ k ih =>
    intro t s M hk ht hp at0 kq kp h23 h24 h
    cases t with
    | zero => omega
    | succ t =>
      rw [m_X6_coast_12]
      have hL' : ∀ i, i < len → rd M 151 i = L i := fun i hi => by rw [rd_of (kq _ _ (by omega) (by omega))]; exact hL i hi
      have h22' : rd M 137 22 = len := by rw [rd_of (kq _ _ (by omega) (by omega))]; exact h22
      rw [h23, h22', h24]
      have g3 := pos_ge at0 s (Nat.le_refl _)
      rw [wrS] at h
      by_cases c : pos L s < len
      · rw [if_pos c] at h
        repeat (first
            | with_reducible refine Ok_g (by first | assumption | omega) ?_
            | with_reducible refine Ok_lt ?_
            | with_reducible refine Ok_t (by first | assumption | omega) ?_
            | with_reducible refine Ok_f (by first | assumption | omega) ?_)
        unfold m_X6_coast_34
        refine Ok_bd (r_statement (s := s) hn hl (by omega) hB hL0 hL' h22' h23 hp h24) ?_
        rintro r M1 ⟨k1, a1⟩
        have kq1 : KQ M0 M1 := fun q i a b => by rw [k1 q i (by omega) (by omega) (by omega)]; exact kq q i a b
        have e24 : rd M1 137 24 = s := by rw [rd_of (k1 _ _ (by omega) (by omega) (by omega))]; exact h24
        cases e : stm L len (pos L s) with
        | some x =>
          rw [e] at a1 h
          obtain ⟨b1, b2⟩ := a1
          repeat (first
              | with_reducible refine Ok_g (by first | assumption | omega) ?_
              | with_reducible refine Ok_lt ?_
              | with_reducible refine Ok_t (by first | assumption | omega) ?_
              | with_reducible refine Ok_f (by first | assumption | omega) ?_)
          unfold m_X6_coast_53
          refine Ok_wr ?_
          rw [e24, b1]
          cases t with
          | zero => omega
          | succ t =>
            rw [m_X6_coast_12]
            repeat (first
                | with_reducible refine Ok_g (by first | assumption | omega) ?_
                | with_reducible refine Ok_lt ?_
                | with_reducible refine Ok_t (by first | assumption | omega) ?_
                | with_reducible refine Ok_f (by first | assumption | omega) ?_)
            refine h _ (fun q i a b => by rw [mup_n _ (by omega)]; exact kq1 q i a b) ?_
            rw [rd_upne _ _ _ _ _ _ (by omega)]; exact b2
        | none =>
          rw [e] at a1 h
          obtain ⟨b1, b2, b3, b4, b5⟩ := a1
          have hn' := stm_none e
          repeat (first
              | with_reducible refine Ok_g (by first | assumption | omega) ?_
              | with_reducible refine Ok_lt ?_
              | with_reducible refine Ok_t (by first | assumption | omega) ?_
              | with_reducible refine Ok_f (by first | assumption | omega) ?_)
          unfold m_X6_coast_53
          refine Ok_wr ?_
          rw [e24, b1]
          refine ih t (s + 1) _ (by rw [pos_S]; omega) (by omega) (by rw [pos_S]; omega) ?_ (fun q i a b => by rw [mup_n _ (by omega)]; exact kq1 q i a b) ?_ ?_ ?_ ?_
          · intro j hj
            by_cases q : j = s
            · rw [q]; exact e
            · exact at0 j (by omega)
          · intro j hj
            by_cases q : j = s
            · subst q
              refine ⟨?_, ?_, Tld_keep b5 (fun i _ => mup_n _ (by omega))⟩
              · rw [rd_upne _ _ _ _ _ _ (by omega)]; exact b3
              · rw [rd_upne _ _ _ _ _ _ (by omega)]; exact b4
            · obtain ⟨d1, d2, d3⟩ := kp j (by omega)
              refine ⟨?_, ?_, Tld_keep d3 (fun i hi => by rw [mup_n _ (by omega), k1 _ _ (by omega) (by omega) (by omega)])⟩
              · rw [rd_upne _ _ _ _ _ _ (by omega), rd_of (k1 _ _ (by omega) (by omega) (by omega))]; exact d1
              · rw [rd_upne _ _ _ _ _ _ (by omega), rd_of (k1 _ _ (by omega) (by omega) (by omega))]; exact d2
          · rw [rd_upne _ _ _ _ _ _ (by omega), b2, pos_S]
          · rw [rd_ups _ _ _ (by omega)]; omega
          · rw [pos_S]
            exact h
      · rw [if_neg c] at h
        have hs : s ≠ 0 := by
          intro q
          rw [q] at c
          exact c hl0
        repeat (first
            | with_reducible refine Ok_g (by first | assumption | omega) ?_
            | with_reducible refine Ok_lt ?_
            | with_reducible refine Ok_t (by first | assumption | omega) ?_
            | with_reducible refine Ok_f (by first | assumption | omega) ?_)
        exact h M s kq at0 (by omega) kp h24
