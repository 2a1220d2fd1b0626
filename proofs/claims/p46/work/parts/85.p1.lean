/-! the class's own state between calls, and what each call answers -/
def St (M : Mem) (u : US) (b : Nat) (B : Nat → US) (o : Option US) : Prop := (vw M 0 = u ∧ WF 999 u ∧ SkyOk M ∧ EarlyOk M) ∧ (b ≤ 8 ∧ rd M 130 4 = b ∧ ∀ j, j < b → vw M (ea M j) = B j ∧ WF 999 (B j)) ∧ ∀ w, o = some w → rd M 130 2 = 1 ∧ vw M 11 = w ∧ WF 999 w
theorem st_keep {M M' : Mem} {u : US} {b : Nat} {B : Nat → US} {o : Option US} (s : St M u b B o) (sk : SkyOk M') (v : vw M' 0 = u) (k : ∀ q i, (10 < q ∧ q < 22) ∨ (32 < q ∧ q < 121) ∨ (q = 130 ∧ (i = 2 ∨ i = 4)) ∨ q = 131 → M' q i = M q i) : St M' u b B o := by
  obtain ⟨⟨v0, wf, _, ek⟩, ⟨hb, h4, hB⟩, hi⟩ := s
  have ek' : EarlyOk M' := early_keep ek (fun i => k _ _ (by omega))
  refine ⟨⟨v, wf, sk, ek'⟩, ⟨hb, by rw [rd_of (k 130 4 (by omega))]; exact h4, fun j hj => ?_⟩, fun w hw => ?_⟩
  · have e1 : ea M' j = ea M j := by unfold ea; rw [rd_of (k 131 j (by omega))]
    have w := ea_W ek (j := j) (by omega)
    rw [e1, vwE_congr (M := M) (by omega) (fun q i _ _ => k q i (by omega))]
    exact hB j hj
  · obtain ⟨h1, h2, h3⟩ := hi w hw
    refine ⟨by rw [rd_of (k 130 2 (by omega))]; exact h1, ?_, h3⟩
    rw [vwW_congr (M := M) (by decide) (fun q i _ _ => k q i (by omega))]
    exact h2
theorem st_km {M M' : Mem} {u : US} {b : Nat} {B : Nat → US} {o : Option US} (s : St M u b B o) (sk : SkyOk M') (k : KM M M') : St M' u b B o :=
  st_keep s sk (by rw [vw0_KM k]; exact s.1.1) (fun q i h => k q i (by omega))
theorem st_B {M : Mem} {u : US} {b b' : Nat} {B B' : Nat → US} {o : Option US} (s : St M u b B o) (e : b = b') (h : ∀ j, j < b → B j = B' j) : St M u b' B' o := by
  subst e
  exact ⟨s.1, ⟨s.2.1.1, s.2.1.2.1, fun j hj => by rw [← h j hj]; exact s.2.1.2.2 j hj⟩, s.2.2⟩
theorem srch_ge (Q : US → Prop) (d : ∀ u, Decidable (Q u)) : ∀ k i u, srch Q d k i u = -9 ∨ (i : Int) ≤ srch Q d k i u
  | 0, _, _ => .inl rfl
  | k + 1, i, u => by
    show (if Q u then (i : Int) else srch Q d k (i + 1) (hourS u)) = -9 ∨ (i : Int) ≤ (if Q u then (i : Int) else srch Q d k (i + 1) (hourS u))
    by_cases h : Q u
    · rw [if_pos h]; exact .inr (Int.le_refl _)
    · rw [if_neg h]
      have := srch_ge Q d k (i + 1) (hourS u)
      omega
section PC
variable {n : Nat} {M : Mem} {u : US} {b : Nat} {B : Nat → US} {o : Option US}
theorem st_n (s : St M u b B o) : (rd M 0 3 = u 0 3 ∧ rd M 0 7 = u 0 7 ∧ rd M 0 12 = u 0 12 ∧ rd M 0 13 = u 0 13 ∧ rd M 0 14 = u 0 14) ∧ (0 ≤ u 0 3 ∧ u 0 3 ≤ 6) ∧ (0 ≤ u 0 7 ∧ u 0 7 ≤ 8) ∧ (0 ≤ u 0 12 ∧ u 0 12 ≤ 5) ∧ (0 ≤ u 0 13 ∧ u 0 13 ≤ 999) ∧ (0 ≤ u 0 14 ∧ u 0 14 ≤ 9) := by
  obtain ⟨⟨v0, wf, _⟩, _⟩ := s
  subst v0
  have b0 := sW wf
  exact ⟨⟨b0.1.1.symm, b0.1.2.1.symm, b0.1.2.2.1.symm, b0.1.2.2.2.1.symm, b0.1.2.2.2.2.symm⟩, by omega, by omega, by omega, by omega, by omega⟩
theorem st_q (s : St M u b B o) : u 0 20 = -1 ∧ u 0 21 = 0 := by
  obtain ⟨⟨v0, _⟩, _⟩ := s
  subst v0
  exact w_ket M (by decide) (by decide)
theorem st_t (s : St M u b B o) {t : Nat} (h : t < 8) : rd M 4 t = u 4 t ∧ rd M 5 t = u 5 t ∧ rd M 6 t = u 6 t := by
  obtain ⟨⟨v0, wf, _⟩, _⟩ := s
  subst v0
  have := (tW (w := 0) (by decide) wf h).1
  exact ⟨this.1.symm, this.2.1.symm, this.2.2.symm⟩
theorem st_p (s : St M u b B o) {p : Nat} (h : p < 5) : rd M 7 p = u 7 p ∧ rd M 8 p = u 8 p ∧ rd M 9 p = u 9 p ∧ rd M 10 p = u 10 p := by
  obtain ⟨⟨v0, wf, _⟩, _⟩ := s
  subst v0
  have := (pW (w := 0) wf h).1
  exact ⟨this.1.symm, this.2.1.symm, this.2.2.1.symm, this.2.2.2.symm⟩
theorem st_think {N : Int} (hn : 2000 ≤ n) (s : St M u b B o) (hN : 0 ≤ N ∧ N ≤ 100) : Ok (m_X5_thinkOn n M N) (fun _ M' => vw M' 22 = hoursS N.toNat u ∧ WF 1200 (vw M' 22) ∧ SkyOk M' ∧ Lk M' ∧ KM M M') := by
  obtain ⟨⟨v0, wf, sk, ek⟩, _⟩ := s
  subst v0
  unfold m_X5_thinkOn
  refine Ok_bd (e_begin hn sk wf (by decide)) ?_
  rintro _ M1 ⟨v1, k1, l1, f1⟩
  refine Ok_bd (e_goOn (H := 999) hn ⟨hN.1, by omega⟩ (by omega) k1 (by rw [v1]; exact wf)) ?_
  rintro _ M2 ⟨v2, k2, l2, f2⟩
  refine Ok_ret ⟨by rw [v2, v1], ?_, k2, l2, ?_⟩
  · rw [v2, v1]
    exact WF_le (hoursS_wf N.toNat 0 _ wf) (by omega)
  · intro q i hq
    rw [f2 q i (by omega) (by omega), f1 q i (by omega)]
theorem st_begin (hn : 2000 ≤ n) (s : St M u b B o) : Ok (m_X0_begin n M 0) (fun _ M' => vw M' 22 = u ∧ SkyOk M' ∧ Lk M' ∧ KM M M') := by
  obtain ⟨⟨v0, wf, sk, ek⟩, _⟩ := s
  refine Ok_mono (e_begin hn sk (by rw [v0]; exact wf) (by decide)) ?_
  rintro _ M1 ⟨v1, k1, l1, f1⟩
  exact ⟨by rw [v1, v0], k1, l1, fun q i hq => f1 q i (by omega)⟩
/-! plain questions -/
theorem q_thing (s : St M u b B o) {t : Nat} (ht : (t : Int) < u 0 7) : m_X5_thing n M (t : Int) 0 = some (u 4 t, M) ∧ m_X5_thing n M (t : Int) 1 = some (u 5 t, M) ∧ m_X5_thing n M (t : Int) 2 = some (if u 6 t = -1 then -9 else u 6 t, M) := by
  have c := st_n s
  have e := st_t s (t := t) (by omega)
  have ea : I32 (t : Int) := ⟨by omega, by omega⟩
  refine ⟨Ok_eq ?_, Ok_eq ?_, Ok_eq ?_⟩
  · unfold m_X5_thing
    repeat (first
        | with_reducible refine Ok_g (by first | assumption | omega) ?_
        | with_reducible refine Ok_lt ?_
        | with_reducible refine Ok_t (by first | assumption | omega) ?_
        | with_reducible refine Ok_f (by first | assumption | omega) ?_
        | with_reducible refine Ok_be (e_hasF (by decide) (by assumption)) ?_
        | with_reducible refine Ok_be (e_hasT (by decide) (by first | assumption | omega)) ?_
        | with_reducible refine Ok_be (e_hasP (by decide) (by first | assumption | omega)) ?_
        | with_reducible refine Ok_be (e_isCell (by first | assumption | omega)) ?_
        | with_reducible refine Ok_be (e_oor (by first | assumption | omega) (by decide) (by decide)) ?_)
    exact Ok_ret ⟨e.1, rfl⟩
  · unfold m_X5_thing
    repeat (first
        | with_reducible refine Ok_g (by first | assumption | omega) ?_
        | with_reducible refine Ok_lt ?_
        | with_reducible refine Ok_t (by first | assumption | omega) ?_
        | with_reducible refine Ok_f (by first | assumption | omega) ?_
        | with_reducible refine Ok_be (e_hasF (by decide) (by assumption)) ?_
        | with_reducible refine Ok_be (e_hasT (by decide) (by first | assumption | omega)) ?_
        | with_reducible refine Ok_be (e_hasP (by decide) (by first | assumption | omega)) ?_
        | with_reducible refine Ok_be (e_isCell (by first | assumption | omega)) ?_
        | with_reducible refine Ok_be (e_oor (by first | assumption | omega) (by decide) (by decide)) ?_)
    exact Ok_ret ⟨e.2.1, rfl⟩
  · unfold m_X5_thing
    repeat (first
        | with_reducible refine Ok_g (by first | assumption | omega) ?_
        | with_reducible refine Ok_lt ?_
        | with_reducible refine Ok_t (by first | assumption | omega) ?_
        | with_reducible refine Ok_f (by first | assumption | omega) ?_
        | with_reducible refine Ok_be (e_hasF (by decide) (by assumption)) ?_
        | with_reducible refine Ok_be (e_hasT (by decide) (by first | assumption | omega)) ?_
        | with_reducible refine Ok_be (e_hasP (by decide) (by first | assumption | omega)) ?_
        | with_reducible refine Ok_be (e_isCell (by first | assumption | omega)) ?_
        | with_reducible refine Ok_be (e_oor (by first | assumption | omega) (by decide) (by decide)) ?_)
    refine Ok_be (e_orNone (rd_rng _ _ _)) (Ok_ret ⟨?_, rfl⟩)
    show (if rd M 6 t = -1 then -9 else rd M 6 t) = _
    rw [e.2.2]
theorem q_person (hn : 2000 ≤ n) (s : St M u b B o) {p : Nat} (hp : (p : Int) < u 0 12) : m_X5_person n M (p : Int) 0 = some (u 7 p, M) ∧ m_X5_person n M (p : Int) 2 = some (u 9 p, M) ∧ m_X5_person n M (p : Int) 3 = some (u 10 p, M) ∧ m_X5_person n M (p : Int) 4 = some (paceS (u 7 p) (u 8 p), M) ∧ m_X5_person n M (p : Int) 5 = some (grabsS (u 7 p) (u 8 p), M) ∧ m_X5_person n M (p : Int) 8 = some (worthsS u (p : Int), M) := by
  have c := st_n s
  have hp5 : p < 5 := by omega
  have e := st_p s hp5
  have wf := s.1.2.1
  have q8 : 0 ≤ rd M 8 p ∧ rd M 8 p ≤ 9 := by rw [e.2.1]; exact (wFp wf p).2.1
  have ea : I32 (p : Int) := ⟨by omega, by omega⟩
  refine ⟨Ok_eq ?_, Ok_eq ?_, Ok_eq ?_, Ok_eq ?_, Ok_eq ?_, Ok_eq ?_⟩
  · unfold m_X5_person
    repeat (first
        | with_reducible refine Ok_g (by first | assumption | omega) ?_
        | with_reducible refine Ok_lt ?_
        | with_reducible refine Ok_t (by first | assumption | omega) ?_
        | with_reducible refine Ok_f (by first | assumption | omega) ?_
        | with_reducible refine Ok_be (e_hasF (by decide) (by assumption)) ?_
        | with_reducible refine Ok_be (e_hasT (by decide) (by first | assumption | omega)) ?_
        | with_reducible refine Ok_be (e_hasP (by decide) (by first | assumption | omega)) ?_
        | with_reducible refine Ok_be (e_isCell (by first | assumption | omega)) ?_
        | with_reducible refine Ok_be (e_oor (by first | assumption | omega) (by decide) (by decide)) ?_)
    exact Ok_ret ⟨e.1, rfl⟩
  · unfold m_X5_person
    repeat (first
        | with_reducible refine Ok_g (by first | assumption | omega) ?_
        | with_reducible refine Ok_lt ?_
        | with_reducible refine Ok_t (by first | assumption | omega) ?_
        | with_reducible refine Ok_f (by first | assumption | omega) ?_
        | with_reducible refine Ok_be (e_hasF (by decide) (by assumption)) ?_
        | with_reducible refine Ok_be (e_hasT (by decide) (by first | assumption | omega)) ?_
        | with_reducible refine Ok_be (e_hasP (by decide) (by first | assumption | omega)) ?_
        | with_reducible refine Ok_be (e_isCell (by first | assumption | omega)) ?_
        | with_reducible refine Ok_be (e_oor (by first | assumption | omega) (by decide) (by decide)) ?_)
    exact Ok_ret ⟨e.2.2.1, rfl⟩
  · unfold m_X5_person
    repeat (first
        | with_reducible refine Ok_g (by first | assumption | omega) ?_
        | with_reducible refine Ok_lt ?_
        | with_reducible refine Ok_t (by first | assumption | omega) ?_
        | with_reducible refine Ok_f (by first | assumption | omega) ?_
        | with_reducible refine Ok_be (e_hasF (by decide) (by assumption)) ?_
        | with_reducible refine Ok_be (e_hasT (by decide) (by first | assumption | omega)) ?_
        | with_reducible refine Ok_be (e_hasP (by decide) (by first | assumption | omega)) ?_
        | with_reducible refine Ok_be (e_isCell (by first | assumption | omega)) ?_
        | with_reducible refine Ok_be (e_oor (by first | assumption | omega) (by decide) (by decide)) ?_)
    exact Ok_ret ⟨e.2.2.2, rfl⟩
  · unfold m_X5_person
    repeat (first
        | with_reducible refine Ok_g (by first | assumption | omega) ?_
        | with_reducible refine Ok_lt ?_
        | with_reducible refine Ok_t (by first | assumption | omega) ?_
        | with_reducible refine Ok_f (by first | assumption | omega) ?_
        | with_reducible refine Ok_be (e_hasF (by decide) (by assumption)) ?_
        | with_reducible refine Ok_be (e_hasT (by decide) (by first | assumption | omega)) ?_
        | with_reducible refine Ok_be (e_hasP (by decide) (by first | assumption | omega)) ?_
        | with_reducible refine Ok_be (e_isCell (by first | assumption | omega)) ?_
        | with_reducible refine Ok_be (e_oor (by first | assumption | omega) (by decide) (by decide)) ?_)
    refine Ok_be (e_X1_pace (rd_rng _ _ _) q8) (Ok_ret ⟨?_, rfl⟩)
    show paceS (rd M 7 p) (rd M 8 p) = _
    rw [e.1, e.2.1]
  · unfold m_X5_person
    repeat (first
        | with_reducible refine Ok_g (by first | assumption | omega) ?_
        | with_reducible refine Ok_lt ?_
        | with_reducible refine Ok_t (by first | assumption | omega) ?_
        | with_reducible refine Ok_f (by first | assumption | omega) ?_
        | with_reducible refine Ok_be (e_hasF (by decide) (by assumption)) ?_
        | with_reducible refine Ok_be (e_hasT (by decide) (by first | assumption | omega)) ?_
        | with_reducible refine Ok_be (e_hasP (by decide) (by first | assumption | omega)) ?_
        | with_reducible refine Ok_be (e_isCell (by first | assumption | omega)) ?_
        | with_reducible refine Ok_be (e_oor (by first | assumption | omega) (by decide) (by decide)) ?_)
    refine Ok_be (e_X1_grabs (rd_rng _ _ _) q8) (Ok_ret ⟨?_, rfl⟩)
    show grabsS (rd M 7 p) (rd M 8 p) = _
    rw [e.1, e.2.1]
  · unfold m_X5_person
    repeat (first
        | with_reducible refine Ok_g (by first | assumption | omega) ?_
        | with_reducible refine Ok_lt ?_
        | with_reducible refine Ok_t (by first | assumption | omega) ?_
        | with_reducible refine Ok_f (by first | assumption | omega) ?_
        | with_reducible refine Ok_be (e_hasF (by decide) (by assumption)) ?_
        | with_reducible refine Ok_be (e_hasT (by decide) (by first | assumption | omega)) ?_
        | with_reducible refine Ok_be (e_hasP (by decide) (by first | assumption | omega)) ?_
        | with_reducible refine Ok_be (e_isCell (by first | assumption | omega)) ?_
        | with_reducible refine Ok_be (e_oor (by first | assumption | omega) (by decide) (by decide)) ?_)
    refine Ok_be (e_worthsOf hn (by decide) (by rw [s.1.1]; exact wf) ea) (Ok_ret ⟨?_, rfl⟩)
    rw [s.1.1]
theorem q_goal (hn : 2000 ≤ n) (s : St M u b B o) {p : Nat} (hp : (p : Int) < u 0 12) : Ok (m_X5_person n M (p : Int) 7) (fun r M' => r = goalS u p (u 0 13 + 1) ∧ St M' u b B o) := by
  have c := st_n s
  have hp5 : p < 5 := by omega
  have wf := s.1.2.1
  have ea : I32 (p : Int) := ⟨by omega, by omega⟩
  unfold m_X5_person
  repeat (first
      | with_reducible refine Ok_g (by first | assumption | omega) ?_
      | with_reducible refine Ok_lt ?_
      | with_reducible refine Ok_t (by first | assumption | omega) ?_
      | with_reducible refine Ok_f (by first | assumption | omega) ?_
      | with_reducible refine Ok_be (e_hasF (by decide) (by assumption)) ?_
      | with_reducible refine Ok_be (e_hasT (by decide) (by first | assumption | omega)) ?_
      | with_reducible refine Ok_be (e_hasP (by decide) (by first | assumption | omega)) ?_
      | with_reducible refine Ok_be (e_isCell (by first | assumption | omega)) ?_
      | with_reducible refine Ok_be (e_oor (by first | assumption | omega) (by decide) (by decide)) ?_)
  refine Ok_bd (st_begin hn s) ?_
  rintro _ M1 ⟨v1, k1, l1, km⟩
  refine Ok_wr ?_
  have w1 : WF 999 (vw M1 22) := by rw [v1]; exact wf
  have b1 := sW w1
  have e1 : vw (mup M1 22 13 (rd M1 22 13 + 1)) 22 = uset (vw M1 22) 0 13 (rd M1 22 13 + 1) := vw_sets (by omega) (by omega) (by omega)
  have w2 : WF 1000 (vw (mup M1 22 13 (rd M1 22 13 + 1)) 22) := by
    rw [e1]
    exact WF_set (WF_le w1 (by omega)) 0 13 (by show (0 : Int) ≤ _; omega) (by show _ ≤ (1000 : Int); omega)
  refine Ok_bd (e_look (H := 1000) hn (SkyOk_keep k1 (fun q i _ _ => mup_n _ (by omega))) w2 (by decide)) ?_
  rintro _ M2 ⟨k2, l2, v2, f2⟩
  have w3 : WF 1000 (vw M2 22) := by rw [v2]; exact w2
  refine Ok_be (e_goal hn w3 l2 hp5) (Ok_ret ⟨?_, st_km s k2 (fun q i hq => by rw [f2 q i (by omega) (by omega), mup_n _ (by omega), km q i (by omega)])⟩)
  rw [v2, e1, uset_same, goalS_hour, v1, ← b1.1.2.2.2.1, v1]
theorem q_cell (hn : 2000 ≤ n) (s : St M u b B o) {c : Nat} (hc : c < 24) : Ok (m_X5_cell n M (c : Int) 0) (fun r M' => r = airOS u c (u 0 13) ∧ St M' u b B o) ∧ Ok (m_X5_cell n M (c : Int) 1) (fun r M' => r = fogS u c ∧ St M' u b B o) ∧ Ok (m_X5_cell n M (c : Int) 3) (fun r M' => r = atS u 10 (u 0 12).toNat c ∧ St M' u b B o) := by
  have wf := s.1.2.1
  have ea : I32 (c : Int) := ⟨by omega, by omega⟩
  refine ⟨?_, ?_, ?_⟩
  · unfold m_X5_cell
    repeat (first
        | with_reducible refine Ok_g (by first | assumption | omega) ?_
        | with_reducible refine Ok_lt ?_
        | with_reducible refine Ok_t (by first | assumption | omega) ?_
        | with_reducible refine Ok_f (by first | assumption | omega) ?_
        | with_reducible refine Ok_be (e_hasF (by decide) (by assumption)) ?_
        | with_reducible refine Ok_be (e_hasT (by decide) (by first | assumption | omega)) ?_
        | with_reducible refine Ok_be (e_hasP (by decide) (by first | assumption | omega)) ?_
        | with_reducible refine Ok_be (e_isCell (by first | assumption | omega)) ?_
        | with_reducible refine Ok_be (e_oor (by first | assumption | omega) (by decide) (by decide)) ?_)
    refine Ok_bd (st_begin hn s) ?_
    rintro _ M1 ⟨v1, k1, l1, km⟩
    repeat (first
        | with_reducible refine Ok_g (by first | assumption | omega) ?_
        | with_reducible refine Ok_lt ?_
        | with_reducible refine Ok_t (by first | assumption | omega) ?_
        | with_reducible refine Ok_f (by first | assumption | omega) ?_)
    refine Ok_be (e_airOn l1 (by omega)) (Ok_ret ⟨by rw [v1], st_km s k1 km⟩)
  · unfold m_X5_cell
    repeat (first
        | with_reducible refine Ok_g (by first | assumption | omega) ?_
        | with_reducible refine Ok_lt ?_
        | with_reducible refine Ok_t (by first | assumption | omega) ?_
        | with_reducible refine Ok_f (by first | assumption | omega) ?_
        | with_reducible refine Ok_be (e_hasF (by decide) (by assumption)) ?_
        | with_reducible refine Ok_be (e_hasT (by decide) (by first | assumption | omega)) ?_
        | with_reducible refine Ok_be (e_hasP (by decide) (by first | assumption | omega)) ?_
        | with_reducible refine Ok_be (e_isCell (by first | assumption | omega)) ?_
        | with_reducible refine Ok_be (e_oor (by first | assumption | omega) (by decide) (by decide)) ?_)
    refine Ok_bd (st_begin hn s) ?_
    rintro _ M1 ⟨v1, k1, l1, km⟩
    repeat (first
        | with_reducible refine Ok_g (by first | assumption | omega) ?_
        | with_reducible refine Ok_lt ?_
        | with_reducible refine Ok_t (by first | assumption | omega) ?_
        | with_reducible refine Ok_f (by first | assumption | omega) ?_)
    refine Ok_be (e_fogOn (H := 999) hn (by rw [v1]; exact wf) l1 (by omega)) (Ok_ret ⟨by rw [v1], st_km s k1 km⟩)
  · unfold m_X5_cell
    repeat (first
        | with_reducible refine Ok_g (by first | assumption | omega) ?_
        | with_reducible refine Ok_lt ?_
        | with_reducible refine Ok_t (by first | assumption | omega) ?_
        | with_reducible refine Ok_f (by first | assumption | omega) ?_
        | with_reducible refine Ok_be (e_hasF (by decide) (by assumption)) ?_
        | with_reducible refine Ok_be (e_hasT (by decide) (by first | assumption | omega)) ?_
        | with_reducible refine Ok_be (e_hasP (by decide) (by first | assumption | omega)) ?_
        | with_reducible refine Ok_be (e_isCell (by first | assumption | omega)) ?_
        | with_reducible refine Ok_be (e_oor (by first | assumption | omega) (by decide) (by decide)) ?_)
    refine Ok_bd (st_begin hn s) ?_
    rintro _ M1 ⟨v1, k1, l1, km⟩
    repeat (first
        | with_reducible refine Ok_g (by first | assumption | omega) ?_
        | with_reducible refine Ok_lt ?_
        | with_reducible refine Ok_t (by first | assumption | omega) ?_
        | with_reducible refine Ok_f (by first | assumption | omega) ?_)
    have e0 : vw M1 0 = u := by rw [vw0_KM km]; exact s.1.1
    refine Ok_be (e_peopleOn (H := 999) hn (by decide) (by rw [e0]; exact wf) ea) (Ok_ret ⟨by rw [e0], st_km s k1 km⟩)
theorem q_cnt (hn : 2000 ≤ n) (s : St M u b B o) : m_X5_count n M 0 = some (u 0 12, M) ∧ m_X5_count n M 1 = some (u 0 7, M) ∧ m_X5_count n M 3 = some (u 0 13, M) ∧ m_X5_count n M 4 = some (u 0 14, M) ∧ m_X5_count n M 5 = some (manyS u, M) ∧ m_X5_count n M 8 = some ((b : Int), M) := by
  have c := st_n s
  have wf := s.1.2.1
  refine ⟨Ok_eq ?_, Ok_eq ?_, Ok_eq ?_, Ok_eq ?_, Ok_eq ?_, Ok_eq ?_⟩
  · unfold m_X5_count
    repeat (first
        | with_reducible refine Ok_g (by first | assumption | omega) ?_
        | with_reducible refine Ok_lt ?_
        | with_reducible refine Ok_t (by first | assumption | omega) ?_
        | with_reducible refine Ok_f (by first | assumption | omega) ?_
        | with_reducible refine Ok_be (e_hasF (by decide) (by assumption)) ?_
        | with_reducible refine Ok_be (e_hasT (by decide) (by first | assumption | omega)) ?_
        | with_reducible refine Ok_be (e_hasP (by decide) (by first | assumption | omega)) ?_
        | with_reducible refine Ok_be (e_isCell (by first | assumption | omega)) ?_
        | with_reducible refine Ok_be (e_oor (by first | assumption | omega) (by decide) (by decide)) ?_)
    exact Ok_ret ⟨by omega, rfl⟩
  · unfold m_X5_count
    repeat (first
        | with_reducible refine Ok_g (by first | assumption | omega) ?_
        | with_reducible refine Ok_lt ?_
        | with_reducible refine Ok_t (by first | assumption | omega) ?_
        | with_reducible refine Ok_f (by first | assumption | omega) ?_
        | with_reducible refine Ok_be (e_hasF (by decide) (by assumption)) ?_
        | with_reducible refine Ok_be (e_hasT (by decide) (by first | assumption | omega)) ?_
        | with_reducible refine Ok_be (e_hasP (by decide) (by first | assumption | omega)) ?_
        | with_reducible refine Ok_be (e_isCell (by first | assumption | omega)) ?_
        | with_reducible refine Ok_be (e_oor (by first | assumption | omega) (by decide) (by decide)) ?_)
    exact Ok_ret ⟨by omega, rfl⟩
  · unfold m_X5_count
    repeat (first
        | with_reducible refine Ok_g (by first | assumption | omega) ?_
        | with_reducible refine Ok_lt ?_
        | with_reducible refine Ok_t (by first | assumption | omega) ?_
        | with_reducible refine Ok_f (by first | assumption | omega) ?_
        | with_reducible refine Ok_be (e_hasF (by decide) (by assumption)) ?_
        | with_reducible refine Ok_be (e_hasT (by decide) (by first | assumption | omega)) ?_
        | with_reducible refine Ok_be (e_hasP (by decide) (by first | assumption | omega)) ?_
        | with_reducible refine Ok_be (e_isCell (by first | assumption | omega)) ?_
        | with_reducible refine Ok_be (e_oor (by first | assumption | omega) (by decide) (by decide)) ?_)
    exact Ok_ret ⟨by omega, rfl⟩
  · unfold m_X5_count
    repeat (first
        | with_reducible refine Ok_g (by first | assumption | omega) ?_
        | with_reducible refine Ok_lt ?_
        | with_reducible refine Ok_t (by first | assumption | omega) ?_
        | with_reducible refine Ok_f (by first | assumption | omega) ?_
        | with_reducible refine Ok_be (e_hasF (by decide) (by assumption)) ?_
        | with_reducible refine Ok_be (e_hasT (by decide) (by first | assumption | omega)) ?_
        | with_reducible refine Ok_be (e_hasP (by decide) (by first | assumption | omega)) ?_
        | with_reducible refine Ok_be (e_isCell (by first | assumption | omega)) ?_
        | with_reducible refine Ok_be (e_oor (by first | assumption | omega) (by decide) (by decide)) ?_)
    exact Ok_ret ⟨by omega, rfl⟩
  · unfold m_X5_count
    repeat (first
        | with_reducible refine Ok_g (by first | assumption | omega) ?_
        | with_reducible refine Ok_lt ?_
        | with_reducible refine Ok_t (by first | assumption | omega) ?_
        | with_reducible refine Ok_f (by first | assumption | omega) ?_
        | with_reducible refine Ok_be (e_hasF (by decide) (by assumption)) ?_
        | with_reducible refine Ok_be (e_hasT (by decide) (by first | assumption | omega)) ?_
        | with_reducible refine Ok_be (e_hasP (by decide) (by first | assumption | omega)) ?_
        | with_reducible refine Ok_be (e_isCell (by first | assumption | omega)) ?_
        | with_reducible refine Ok_be (e_oor (by first | assumption | omega) (by decide) (by decide)) ?_)
    refine Ok_be (e_owned hn (by decide) (by rw [s.1.1]; exact wf)) (Ok_ret ⟨by rw [s.1.1], rfl⟩)
  · unfold m_X5_count
    repeat (first
        | with_reducible refine Ok_g (by first | assumption | omega) ?_
        | with_reducible refine Ok_lt ?_
        | with_reducible refine Ok_t (by first | assumption | omega) ?_
        | with_reducible refine Ok_f (by first | assumption | omega) ?_
        | with_reducible refine Ok_be (e_hasF (by decide) (by assumption)) ?_
        | with_reducible refine Ok_be (e_hasT (by decide) (by first | assumption | omega)) ?_
        | with_reducible refine Ok_be (e_hasP (by decide) (by first | assumption | omega)) ?_
        | with_reducible refine Ok_be (e_isCell (by first | assumption | omega)) ?_
        | with_reducible refine Ok_be (e_oor (by first | assumption | omega) (by decide) (by decide)) ?_)
    exact Ok_ret ⟨s.2.1.2.1, rfl⟩
theorem q_fog (hn : 2000 ≤ n) (s : St M u b B o) : Ok (m_X5_count n M 9) (fun r M' => r = ((cellsN u : Nat) : Int) ∧ St M' u b B o) := by
  have wf := s.1.2.1
  unfold m_X5_count
  repeat (first
      | with_reducible refine Ok_g (by first | assumption | omega) ?_
      | with_reducible refine Ok_lt ?_
      | with_reducible refine Ok_t (by first | assumption | omega) ?_
      | with_reducible refine Ok_f (by first | assumption | omega) ?_
      | with_reducible refine Ok_be (e_hasF (by decide) (by assumption)) ?_
      | with_reducible refine Ok_be (e_hasT (by decide) (by first | assumption | omega)) ?_
      | with_reducible refine Ok_be (e_hasP (by decide) (by first | assumption | omega)) ?_
      | with_reducible refine Ok_be (e_isCell (by first | assumption | omega)) ?_
      | with_reducible refine Ok_be (e_oor (by first | assumption | omega) (by decide) (by decide)) ?_)
  refine Ok_bd (st_begin hn s) ?_
  rintro _ M1 ⟨v1, k1, l1, km⟩
  refine Ok_be (e_foggyCells (H := 999) hn (by rw [v1]; exact wf) l1) (Ok_ret ⟨by rw [v1]; exact (cells_N u).1, st_km s k1 km⟩)
theorem q_sight (hn : 2000 ≤ n) (s : St M u b B o) : m_X5_sight n M 1 = some (noS u, M) := by
  have wf := s.1.2.1
  refine Ok_eq ?_
  unfold m_X5_sight
  repeat (first
      | with_reducible refine Ok_g (by first | assumption | omega) ?_
      | with_reducible refine Ok_lt ?_
      | with_reducible refine Ok_t (by first | assumption | omega) ?_
      | with_reducible refine Ok_f (by first | assumption | omega) ?_
      | with_reducible refine Ok_be (e_hasF (by decide) (by assumption)) ?_
      | with_reducible refine Ok_be (e_hasT (by decide) (by first | assumption | omega)) ?_
      | with_reducible refine Ok_be (e_hasP (by decide) (by first | assumption | omega)) ?_
      | with_reducible refine Ok_be (e_isCell (by first | assumption | omega)) ?_
      | with_reducible refine Ok_be (e_oor (by first | assumption | omega) (by decide) (by decide)) ?_)
  exact Ok_be (e_nobodys hn (by decide) (by rw [s.1.1]; exact wf)) (Ok_ret ⟨by rw [s.1.1], rfl⟩)
theorem q_then (hn : 2000 ≤ n) (s : St M u b B o) : Ok (m_X5_then n M 1 0) (fun r M' => r = ((cellsN (hourS u) : Nat) : Int) ∧ St M' u b B o) ∧ Ok (m_X5_then n M 1 1) (fun r M' => r = manyS (hourS u) ∧ St M' u b B o) ∧ Ok (m_X5_then n M 1 2) (fun r M' => r = noS (hourS u) ∧ St M' u b B o) := by
  refine ⟨?_, ?_, ?_⟩
  · unfold m_X5_then
    repeat (first
        | with_reducible refine Ok_g (by first | assumption | omega) ?_
        | with_reducible refine Ok_lt ?_
        | with_reducible refine Ok_t (by first | assumption | omega) ?_
        | with_reducible refine Ok_f (by first | assumption | omega) ?_
        | with_reducible refine Ok_be (e_hasF (by decide) (by assumption)) ?_
        | with_reducible refine Ok_be (e_hasT (by decide) (by first | assumption | omega)) ?_
        | with_reducible refine Ok_be (e_hasP (by decide) (by first | assumption | omega)) ?_
        | with_reducible refine Ok_be (e_isCell (by first | assumption | omega)) ?_
        | with_reducible refine Ok_be (e_oor (by first | assumption | omega) (by decide) (by decide)) ?_)
    refine Ok_bd (st_think (N := 1) hn s (by decide)) ?_
    rintro _ M1 ⟨v1, w1, k1, l1, km⟩
    have v1 : vw M1 22 = hourS u := v1
    repeat (first
        | with_reducible refine Ok_g (by first | assumption | omega) ?_
        | with_reducible refine Ok_lt ?_
        | with_reducible refine Ok_t (by first | assumption | omega) ?_
        | with_reducible refine Ok_f (by first | assumption | omega) ?_)
    exact Ok_be (e_foggyCells hn w1 l1) (Ok_ret ⟨by rw [v1]; exact (cells_N _).1, st_km s k1 km⟩)
  · unfold m_X5_then
    repeat (first
        | with_reducible refine Ok_g (by first | assumption | omega) ?_
        | with_reducible refine Ok_lt ?_
        | with_reducible refine Ok_t (by first | assumption | omega) ?_
        | with_reducible refine Ok_f (by first | assumption | omega) ?_
        | with_reducible refine Ok_be (e_hasF (by decide) (by assumption)) ?_
        | with_reducible refine Ok_be (e_hasT (by decide) (by first | assumption | omega)) ?_
        | with_reducible refine Ok_be (e_hasP (by decide) (by first | assumption | omega)) ?_
        | with_reducible refine Ok_be (e_isCell (by first | assumption | omega)) ?_
        | with_reducible refine Ok_be (e_oor (by first | assumption | omega) (by decide) (by decide)) ?_)
    refine Ok_bd (st_think (N := 1) hn s (by decide)) ?_
    rintro _ M1 ⟨v1, w1, k1, l1, km⟩
    have v1 : vw M1 22 = hourS u := v1
    repeat (first
        | with_reducible refine Ok_g (by first | assumption | omega) ?_
        | with_reducible refine Ok_lt ?_
        | with_reducible refine Ok_t (by first | assumption | omega) ?_
        | with_reducible refine Ok_f (by first | assumption | omega) ?_)
    exact Ok_be (e_owned hn (by decide) w1) (Ok_ret ⟨by rw [v1], st_km s k1 km⟩)
  · unfold m_X5_then
    repeat (first
        | with_reducible refine Ok_g (by first | assumption | omega) ?_
        | with_reducible refine Ok_lt ?_
        | with_reducible refine Ok_t (by first | assumption | omega) ?_
        | with_reducible refine Ok_f (by first | assumption | omega) ?_
        | with_reducible refine Ok_be (e_hasF (by decide) (by assumption)) ?_
        | with_reducible refine Ok_be (e_hasT (by decide) (by first | assumption | omega)) ?_
        | with_reducible refine Ok_be (e_hasP (by decide) (by first | assumption | omega)) ?_
        | with_reducible refine Ok_be (e_isCell (by first | assumption | omega)) ?_
        | with_reducible refine Ok_be (e_oor (by first | assumption | omega) (by decide) (by decide)) ?_)
    refine Ok_bd (st_think (N := 1) hn s (by decide)) ?_
    rintro _ M1 ⟨v1, w1, k1, l1, km⟩
    have v1 : vw M1 22 = hourS u := v1
    repeat (first
        | with_reducible refine Ok_g (by first | assumption | omega) ?_
        | with_reducible refine Ok_lt ?_
        | with_reducible refine Ok_t (by first | assumption | omega) ?_
        | with_reducible refine Ok_f (by first | assumption | omega) ?_)
    exact Ok_be (e_nobodys hn (by decide) w1) (Ok_ret ⟨by rw [v1], st_km s k1 km⟩)
theorem q_pthen (hn : 2000 ≤ n) (s : St M u b B o) {p : Nat} (hp : (p : Int) < u 0 12) : Ok (m_X5_personThen n M (p : Int) 9 1) (fun r M' => r = worthsS (hoursS 9 u) (p : Int) ∧ St M' u b B o) := by
  have c := st_n s
  have ea : I32 (p : Int) := ⟨by omega, by omega⟩
  unfold m_X5_personThen m_X5_personThen_54
  repeat (first
      | with_reducible refine Ok_g (by first | assumption | omega) ?_
      | with_reducible refine Ok_lt ?_
      | with_reducible refine Ok_t (by first | assumption | omega) ?_
      | with_reducible refine Ok_f (by first | assumption | omega) ?_
      | with_reducible refine Ok_be (e_hasF (by decide) (by assumption)) ?_
      | with_reducible refine Ok_be (e_hasT (by decide) (by first | assumption | omega)) ?_
      | with_reducible refine Ok_be (e_hasP (by decide) (by first | assumption | omega)) ?_
      | with_reducible refine Ok_be (e_isCell (by first | assumption | omega)) ?_
      | with_reducible refine Ok_be (e_oor (by first | assumption | omega) (by decide) (by decide)) ?_)
  refine Ok_bd (st_think (N := 9) hn s (by decide)) ?_
  rintro _ M1 ⟨v1, w1, k1, l1, km⟩
  have v1 : vw M1 22 = hoursS 9 u := v1
  repeat (first
      | with_reducible refine Ok_g (by first | assumption | omega) ?_
      | with_reducible refine Ok_lt ?_
      | with_reducible refine Ok_t (by first | assumption | omega) ?_
      | with_reducible refine Ok_f (by first | assumption | omega) ?_)
  exact Ok_be (e_worthsOf hn (by decide) w1 ea) (Ok_ret ⟨by rw [v1], st_km s k1 km⟩)
theorem q_clears (hn : 2000 ≤ n) (s : St M u b B o) {c : Nat} (hc : c < 24) : Ok (m_X5_clears n M (c : Int)) (fun r M' => I32 r ∧ (r = 0 ↔ ¬ u 0 14 ≤ fogS u c) ∧ St M' u b B o) := by
  have wf := s.1.2.1
  have ea : I32 (c : Int) := ⟨by omega, by omega⟩
  unfold m_X5_clears
  repeat (first
      | with_reducible refine Ok_g (by first | assumption | omega) ?_
      | with_reducible refine Ok_lt ?_
      | with_reducible refine Ok_t (by first | assumption | omega) ?_
      | with_reducible refine Ok_f (by first | assumption | omega) ?_
      | with_reducible refine Ok_be (e_hasF (by decide) (by assumption)) ?_
      | with_reducible refine Ok_be (e_hasT (by decide) (by first | assumption | omega)) ?_
      | with_reducible refine Ok_be (e_hasP (by decide) (by first | assumption | omega)) ?_
      | with_reducible refine Ok_be (e_isCell (by first | assumption | omega)) ?_
      | with_reducible refine Ok_be (e_oor (by first | assumption | omega) (by decide) (by decide)) ?_)
  refine Ok_bd (st_begin hn s) ?_
  rintro _ M1 ⟨v1, k1, l1, km⟩
  refine Ok_mono (e_clears_26 (c := (c : Int)) hn (by omega) 61 n 0 999 M1 (by omega) (by omega) (by omega) k1 l1 (by rw [v1]; exact wf)) ?_
  rintro r M2 ⟨e2, k2, km2⟩
  have bb := srch_b (fun u => fogS u (c : Int) < u 0 14) (fun _ => inferInstance) 61 0 (vw M1 22)
  refine ⟨⟨by omega, by omega⟩, ?_, st_km s k2 (KM_trans km km2)⟩
  rw [e2, v1]
  show (if fogS u c < u 0 14 then ((0 : Nat) : Int) else srch (fun u => fogS u (c : Int) < u 0 14) (fun _ => inferInstance) 60 1 (hourS u)) = 0 ↔ _
  by_cases g : fogS u c < u 0 14
  · rw [if_pos g]
    omega
  · rw [if_neg g]
    have := srch_ge (fun u => fogS u (c : Int) < u 0 14) (fun _ => inferInstance) 60 1 (hourS u)
    omega
theorem q_stand (hn : 2000 ≤ n) (s : St M u b B o) {p : Nat} (hp : (p : Int) < u 0 12) : Ok (m_X5_stand n M (p : Int) 9 0) (fun r M' => r = (frm (stF u p 9) 24 0 (-1, -1)).1 ∧ St M' u b B o) ∧ Ok (m_X5_stand n M (p : Int) 9 1) (fun r M' => r = (frm (stF u p 9) 24 0 (-1, -1)).2 ∧ St M' u b B o) := by
  have c := st_n s
  have wf := s.1.2.1
  have ea : I32 (p : Int) := ⟨by omega, by omega⟩
  have hv := s.1.1
  refine ⟨?_, ?_⟩
  · unfold m_X5_stand m_X5_stand_54
    repeat (first
        | with_reducible refine Ok_g (by first | assumption | omega) ?_
        | with_reducible refine Ok_lt ?_
        | with_reducible refine Ok_t (by first | assumption | omega) ?_
        | with_reducible refine Ok_f (by first | assumption | omega) ?_
        | with_reducible refine Ok_be (e_hasF (by decide) (by assumption)) ?_
        | with_reducible refine Ok_be (e_hasT (by decide) (by first | assumption | omega)) ?_
        | with_reducible refine Ok_be (e_hasP (by decide) (by first | assumption | omega)) ?_
        | with_reducible refine Ok_be (e_isCell (by first | assumption | omega)) ?_
        | with_reducible refine Ok_be (e_oor (by first | assumption | omega) (by decide) (by decide)) ?_)
    refine Ok_mono (e_stand_63 (N := 9) (c3 := 0) hn (by omega) (by omega) (by decide) (by rw [hv]; exact wf) 24 n 0 (-1, -1) M (by omega) (by omega) s.1.2.2.1 (KM_refl M) (by decide) (by decide)) ?_
    rintro r M1 ⟨er, ir, k1, km⟩
    exact ⟨by rw [er, hv, if_pos rfl], st_km s k1 km⟩
  · unfold m_X5_stand m_X5_stand_54
    repeat (first
        | with_reducible refine Ok_g (by first | assumption | omega) ?_
        | with_reducible refine Ok_lt ?_
        | with_reducible refine Ok_t (by first | assumption | omega) ?_
        | with_reducible refine Ok_f (by first | assumption | omega) ?_
        | with_reducible refine Ok_be (e_hasF (by decide) (by assumption)) ?_
        | with_reducible refine Ok_be (e_hasT (by decide) (by first | assumption | omega)) ?_
        | with_reducible refine Ok_be (e_hasP (by decide) (by first | assumption | omega)) ?_
        | with_reducible refine Ok_be (e_isCell (by first | assumption | omega)) ?_
        | with_reducible refine Ok_be (e_oor (by first | assumption | omega) (by decide) (by decide)) ?_)
    refine Ok_mono (e_stand_63 (N := 9) (c3 := 1) hn (by omega) (by omega) (by decide) (by rw [hv]; exact wf) 24 n 0 (-1, -1) M (by omega) (by omega) s.1.2.2.1 (KM_refl M) (by decide) (by decide)) ?_
    rintro r M1 ⟨er, ir, k1, km⟩
    exact ⟨by rw [er, hv, if_neg (by decide)], st_km s k1 km⟩
theorem q_isl (hn : 2000 ≤ n) (s : St M u b B o) : Ok (m_X5_islands n M (-1)) (fun r M' => r = ((hmN (cellsN u) 24 0 (cellsN u) 0 : Nat) : Int) ∧ St M' u b B o) ∧ Ok (m_X5_islands n M (-2)) (fun r M' => r = ((gmN (cellsN u) 24 0 0 : Nat) : Int) ∧ St M' u b B o) := by
  have wf := s.1.2.1
  obtain ⟨ec, hc⟩ := cells_N u
  refine ⟨?_, ?_⟩
  · unfold m_X5_islands
    repeat (first
        | with_reducible refine Ok_g (by first | assumption | omega) ?_
        | with_reducible refine Ok_lt ?_
        | with_reducible refine Ok_t (by first | assumption | omega) ?_
        | with_reducible refine Ok_f (by first | assumption | omega) ?_)
    refine Ok_bd (st_begin hn s) ?_
    rintro _ M1 ⟨v1, k1, l1, km⟩
    refine Ok_be (e_foggyCells (H := 999) hn (by rw [v1]; exact wf) l1) ?_
    rw [v1, ec]
    repeat (first
        | with_reducible refine Ok_g (by first | assumption | omega) ?_
        | with_reducible refine Ok_lt ?_
        | with_reducible refine Ok_t (by first | assumption | omega) ?_
        | with_reducible refine Ok_f (by first | assumption | omega) ?_)
    unfold m_X2_howMany
    exact Ok_be (e_howMany_6 hn hc 24 n 0 _ 0 (by omega) (by omega) hc) (Ok_ret ⟨rfl, st_km s k1 km⟩)
  · unfold m_X5_islands
    repeat (first
        | with_reducible refine Ok_g (by first | assumption | omega) ?_
        | with_reducible refine Ok_lt ?_
        | with_reducible refine Ok_t (by first | assumption | omega) ?_
        | with_reducible refine Ok_f (by first | assumption | omega) ?_)
    refine Ok_bd (st_begin hn s) ?_
    rintro _ M1 ⟨v1, k1, l1, km⟩
    refine Ok_be (e_foggyCells (H := 999) hn (by rw [v1]; exact wf) l1) ?_
    rw [v1, ec]
    repeat (first
        | with_reducible refine Ok_g (by first | assumption | omega) ?_
        | with_reducible refine Ok_lt ?_
        | with_reducible refine Ok_t (by first | assumption | omega) ?_
        | with_reducible refine Ok_f (by first | assumption | omega) ?_)
    unfold m_X2_greatest
    exact Ok_be (e_greatest_4 hn hc 24 n 0 0 (by omega) (by omega) (by omega)) (Ok_ret ⟨rfl, st_km s k1 km⟩)
theorem q_islc (hn : 2000 ≤ n) (s : St M u b B o) {c : Nat} (h : c < 24) : Ok (m_X5_islands n M (c : Int)) (fun r M' => r = ((pieceN (cellsN u) c : Nat) : Int) ∧ St M' u b B o) := by
  have wf := s.1.2.1
  obtain ⟨ec, hc⟩ := cells_N u
  unfold m_X5_islands
  repeat (first
      | with_reducible refine Ok_g (by first | assumption | omega) ?_
      | with_reducible refine Ok_lt ?_
      | with_reducible refine Ok_t (by first | assumption | omega) ?_
      | with_reducible refine Ok_f (by first | assumption | omega) ?_)
  refine Ok_bd (st_begin hn s) ?_
  rintro _ M1 ⟨v1, k1, l1, km⟩
  refine Ok_be (e_foggyCells (H := 999) hn (by rw [v1]; exact wf) l1) ?_
  rw [v1, ec]
  repeat (first
      | with_reducible refine Ok_g (by first | assumption | omega) ?_
      | with_reducible refine Ok_lt ?_
      | with_reducible refine Ok_t (by first | assumption | omega) ?_
      | with_reducible refine Ok_f (by first | assumption | omega) ?_)
  exact Ok_be (e_pieceWith hn hc h) (Ok_ret ⟨rfl, st_km s k1 km⟩)
theorem q_way (hn : 2000 ≤ n) (s : St M u b B o) {c : Nat} (h : c < 24) : Ok (m_X5_way n M (c : Int) (c : Int)) (fun r M' => r = (if (cellsN u).testBit c = true then 0 else -9) ∧ St M' u b B o) := by
  have wf := s.1.2.1
  have ea : I32 (c : Int) := ⟨by omega, by omega⟩
  obtain ⟨ec, hc⟩ := cells_N u
  unfold m_X5_way
  repeat (first
      | with_reducible refine Ok_g (by first | assumption | omega) ?_
      | with_reducible refine Ok_lt ?_
      | with_reducible refine Ok_t (by first | assumption | omega) ?_
      | with_reducible refine Ok_f (by first | assumption | omega) ?_
      | with_reducible refine Ok_be (e_hasF (by decide) (by assumption)) ?_
      | with_reducible refine Ok_be (e_hasT (by decide) (by first | assumption | omega)) ?_
      | with_reducible refine Ok_be (e_hasP (by decide) (by first | assumption | omega)) ?_
      | with_reducible refine Ok_be (e_isCell (by first | assumption | omega)) ?_
      | with_reducible refine Ok_be (e_oor (by first | assumption | omega) (by decide) (by decide)) ?_)
  refine Ok_bd (st_begin hn s) ?_
  rintro _ M1 ⟨v1, k1, l1, km⟩
  refine Ok_be (e_foggyCells (H := 999) hn (by rw [v1]; exact wf) l1) ?_
  rw [v1, ec]
  unfold m_X2_steps
  rw [bAnd_pow (by omega) (by omega)]
  refine Ok_be (e_steps_9 hc h 24 n 0 (st0 (cellsN u) c) (by omega) (by omega) (st0_lt h)) (Ok_ret ⟨?_, st_km s k1 km⟩)
  by_cases g : (cellsN u).testBit c = true
  · rw [if_pos g]
    show (if (st0 (cellsN u) c).testBit c = true then ((0 : Nat) : Int) else _) = 0
    rw [if_pos ((st0_bit _ _ _).mpr ⟨rfl, g⟩)]
    rfl
  · rw [if_neg g]
    have e0 : st0 (cellsN u) c = 0 := by unfold st0; rw [if_neg g]
    rw [e0]
    refine stS_none 24 0 0 (by decide) (fun d h => by simp at h) ?_
    rw [it_fix (it_0 _)]
    simp
/-! calls that change the coast and can be taken back -/
theorem chgc {Kc : Mem → Rs} {u1 : US} {r : Int} (hn : 2000 ≤ n) (s : St M u b B o) (wu : WF 999 u1)
    (hcl : ∀ M1, (∀ q i, q < 11 → M1 q i = M q i) → vw M1 0 = u → SkyOk M1 → Ok (Kc M1) (fun r' Mc => r' = r ∧ vw Mc 0 = u1 ∧ SkyOk Mc ∧ ∀ q i, ¬ (q ≤ 10 ∨ 22 ≤ q ∧ q ≤ 32 ∨ 121 ≤ q ∧ q ≤ 129) → Mc q i = M1 q i)) :
    Ok (bd (m_X5_keepForBack n M) (fun _ M1 => Kc M1)) (fun r' Mc => r' = r ∧ ∃ b1 B1, St Mc u1 b1 B1 o ∧ 1 ≤ b1 ∧ B1 (b1 - 1) = u ∧ (1 ≤ b → 2 ≤ b1 ∧ B1 (b1 - 2) = B (b - 1))) := by
  have s' := s
  obtain ⟨⟨v0, wf, sk, ek⟩, ⟨hb, h4, hB⟩, hi⟩ := s'
  refine Ok_bd (e_keep hn ek h4 hb) ?_
  rintro _ M1 ⟨b1, sh, hc, kc⟩
  obtain ⟨a1, a2, a3, a4⟩ := kc
  refine Ok_mono (hcl M1 (fun q i h => a4 q i (by omega) (by omega) (by omega)) (by rw [← v0]; exact vwW_congr (by decide) (fun q i _ _ => a4 q i (by omega) (by omega) (by omega))) (SkyOk_keep sk (fun q i _ _ => a4 q i (by omega) (by omega) (by omega)))) ?_
  rintro r' Mc ⟨er, v1, k1, f1⟩
  have ec : ∀ j, ea Mc j = ea M1 j := fun j => by unfold ea; rw [rd_of (f1 131 j (by omega))]
  refine ⟨er, b1, fun j => if j + 1 = b1 then u else B (j + sh), ⟨⟨v1, wu, k1, early_keep a2 (fun i => f1 _ _ (by omega))⟩, ⟨by omega, by rw [rd_of (f1 130 4 (by omega))]; exact a1, fun j hj => ?_⟩, fun w hw => ?_⟩, by omega, ?_, fun h1 => ⟨by omega, ?_⟩⟩
  · have w := ea_W a2 (j := j) (by omega)
    rw [ec, vwE_congr (M := M1) (by omega) (fun q i _ _ => f1 q i (by omega)), a3 j hj]
    show (if j + 1 = b1 then vw M 0 else vw M (ea M (j + sh))) = (if j + 1 = b1 then u else B (j + sh)) ∧ WF 999 (if j + 1 = b1 then u else B (j + sh))
    by_cases c : j + 1 = b1
    · rw [if_pos c, if_pos c, v0]
      exact ⟨rfl, wf⟩
    · rw [if_neg c, if_neg c]
      exact hB (j + sh) (by omega)
  · obtain ⟨i1, i2, i3⟩ := hi w hw
    refine ⟨by rw [rd_of (f1 130 2 (by omega)), rd_of (a4 130 2 (by omega) (by omega) (by omega))]; exact i1, ?_, i3⟩
    rw [vwW_congr (M := M) (by decide) (fun q i _ _ => by rw [f1 q i (by omega), a4 q i (by omega) (by omega) (by omega)])]
    exact i2
  · show (if b1 - 1 + 1 = b1 then u else _) = u
    rw [if_pos (by omega)]
  · show (if b1 - 2 + 1 = b1 then u else _) = _
    rw [if_neg (by omega)]
    congr 1
    omega
theorem q_thick (hn : 2000 ≤ n) (s : St M u b B o) {a : Int} (ha : 1 ≤ a ∧ a ≤ 9) : Ok (m_X5_thick n M a) (fun r M' => r = u 0 14 ∧ ∃ b1 B1, St M' (uset u 0 14 a) b1 B1 o ∧ 1 ≤ b1 ∧ B1 (b1 - 1) = u ∧ (1 ≤ b → 2 ≤ b1 ∧ B1 (b1 - 2) = B (b - 1))) := by
  have c := st_n s
  have wf := s.1.2.1
  have ea : I32 a := ⟨by omega, by omega⟩
  unfold m_X5_thick
  repeat (first
      | with_reducible refine Ok_g (by first | assumption | omega) ?_
      | with_reducible refine Ok_lt ?_
      | with_reducible refine Ok_t (by first | assumption | omega) ?_
      | with_reducible refine Ok_f (by first | assumption | omega) ?_
      | with_reducible refine Ok_be (e_hasF (by decide) (by assumption)) ?_
      | with_reducible refine Ok_be (e_hasT (by decide) (by first | assumption | omega)) ?_
      | with_reducible refine Ok_be (e_hasP (by decide) (by first | assumption | omega)) ?_
      | with_reducible refine Ok_be (e_isCell (by first | assumption | omega)) ?_
      | with_reducible refine Ok_be (e_oor (by first | assumption | omega) (by decide) (by decide)) ?_)
  refine chgc (u1 := uset u 0 14 a) (r := u 0 14) hn s (WF_set wf 0 14 (by show (0 : Int) ≤ _; omega) (by show _ ≤ (9 : Int); omega)) ?_
  intro M1 h1 h2 h3
  refine Ok_wr (Ok_ret ⟨by rw [rd_of (h1 0 14 (by decide))]; omega, ?_, SkyOk_keep h3 (fun q i _ _ => mup_n _ (by omega)), fun q i h => mup_n _ (by omega)⟩)
  rw [← h2]
  exact vw_sets (by omega) (by omega) (by omega)
theorem q_stands (hn : 2000 ≤ n) (s : St M u b B o) {p : Nat} (hp : (p : Int) < u 0 12) {c : Int} (hc : 0 ≤ c ∧ c ≤ 23) : Ok (m_X5_stands n M (p : Int) c) (fun r M' => r = u 10 p ∧ ∃ b1 B1, St M' (uset u 10 p c) b1 B1 o ∧ 1 ≤ b1 ∧ B1 (b1 - 1) = u ∧ (1 ≤ b → 2 ≤ b1 ∧ B1 (b1 - 2) = B (b - 1))) := by
  have cn := st_n s
  have wf := s.1.2.1
  have hp5 : p < 5 := by omega
  have e := st_p s hp5
  have ea : I32 (p : Int) := ⟨by omega, by omega⟩
  have eb : I32 c := ⟨by omega, by omega⟩
  unfold m_X5_stands
  repeat (first
      | with_reducible refine Ok_g (by first | assumption | omega) ?_
      | with_reducible refine Ok_lt ?_
      | with_reducible refine Ok_t (by first | assumption | omega) ?_
      | with_reducible refine Ok_f (by first | assumption | omega) ?_
      | with_reducible refine Ok_be (e_hasF (by decide) (by assumption)) ?_
      | with_reducible refine Ok_be (e_hasT (by decide) (by first | assumption | omega)) ?_
      | with_reducible refine Ok_be (e_hasP (by decide) (by first | assumption | omega)) ?_
      | with_reducible refine Ok_be (e_isCell (by first | assumption | omega)) ?_
      | with_reducible refine Ok_be (e_oor (by first | assumption | omega) (by decide) (by decide)) ?_)
  simp only [Int.toNat_natCast]
  refine chgc (u1 := uset u 10 p c) (r := u 10 p) hn s (WF_set wf 10 p (by show (0 : Int) ≤ _; omega) (by show _ ≤ (23 : Int); omega)) ?_
  intro M1 h1 h2 h3
  repeat (first
      | with_reducible refine Ok_g (by first | assumption | omega) ?_
      | with_reducible refine Ok_lt ?_
      | with_reducible refine Ok_t (by first | assumption | omega) ?_
      | with_reducible refine Ok_f (by first | assumption | omega) ?_)
  refine Ok_wr (Ok_ret ⟨by rw [rd_of (h1 10 p (by decide))]; exact e.2.2.2, ?_, SkyOk_keep h3 (fun q i _ _ => mup_n _ (by omega)), fun q i h => mup_n _ (by omega)⟩)
  rw [← h2]
  exact vw_set (w := 0) (k := 10) (by omega) (by decide) (by decide) (by decide) (show p < 5 by omega)
theorem q_owns (hn : 2000 ≤ n) (s : St M u b B o) {t : Nat} (ht : (t : Int) < u 0 7) {p : Int} (hp : -1 ≤ p ∧ p < u 0 12) : Ok (m_X5_owns n M (t : Int) p) (fun r M' => ∃ b1 B1, St M' (uset u 6 t p) b1 B1 o) := by
  have cn := st_n s
  have wf := s.1.2.1
  have ht8 : t < 8 := by omega
  have ea : I32 (t : Int) := ⟨by omega, by omega⟩
  have eb : I32 p := ⟨by omega, by omega⟩
  have main : Ok (m_X5_owns_33 n M (t : Int) p) (fun r M' => ∃ b1 B1, St M' (uset u 6 t p) b1 B1 o) := by
    unfold m_X5_owns_33
    simp only [Int.toNat_natCast]
    refine Ok_mono (chgc (u1 := uset u 6 t p) (r := if rd M 6 t = -1 then -9 else rd M 6 t) hn s (WF_set wf 6 t (by show (-1 : Int) ≤ _; omega) (by show _ ≤ (4 : Int); omega)) ?_) ?_
    · intro M1 h1 h2 h3
      repeat (first
          | with_reducible refine Ok_g (by first | assumption | omega) ?_
          | with_reducible refine Ok_lt ?_
          | with_reducible refine Ok_t (by first | assumption | omega) ?_
          | with_reducible refine Ok_f (by first | assumption | omega) ?_)
      refine Ok_wr ?_
      refine Ok_be (e_orNone (rd_rng _ _ _)) (Ok_ret ⟨by rw [rd_of (h1 6 t (by decide))], ?_, SkyOk_keep h3 (fun q i _ _ => mup_n _ (by omega)), fun q i h => mup_n _ (by omega)⟩)
      rw [← h2]
      exact vw_set (w := 0) (k := 6) (by omega) (by decide) (by decide) (by decide) (show t < 8 by omega)
    · rintro r M' ⟨_, b1, B1, h, _⟩
      exact ⟨b1, B1, h⟩
  unfold m_X5_owns
  repeat (first
      | with_reducible refine Ok_g (by first | assumption | omega) ?_
      | with_reducible refine Ok_lt ?_
      | with_reducible refine Ok_t (by first | assumption | omega) ?_
      | with_reducible refine Ok_f (by first | assumption | omega) ?_
      | with_reducible refine Ok_be (e_hasF (by decide) (by assumption)) ?_
      | with_reducible refine Ok_be (e_hasT (by decide) (by first | assumption | omega)) ?_
      | with_reducible refine Ok_be (e_hasP (by decide) (by first | assumption | omega)) ?_
      | with_reducible refine Ok_be (e_isCell (by first | assumption | omega)) ?_
      | with_reducible refine Ok_be (e_oor (by first | assumption | omega) (by decide) (by decide)) ?_)
  refine Ok_if (fun g => main) (fun g => ?_)
  repeat (first
      | with_reducible refine Ok_g (by first | assumption | omega) ?_
      | with_reducible refine Ok_lt ?_
      | with_reducible refine Ok_t (by first | assumption | omega) ?_
      | with_reducible refine Ok_f (by first | assumption | omega) ?_
      | with_reducible refine Ok_be (e_hasF (by decide) (by assumption)) ?_
      | with_reducible refine Ok_be (e_hasT (by decide) (by first | assumption | omega)) ?_
      | with_reducible refine Ok_be (e_hasP (by decide) (by first | assumption | omega)) ?_
      | with_reducible refine Ok_be (e_isCell (by first | assumption | omega)) ?_
      | with_reducible refine Ok_be (e_oor (by first | assumption | omega) (by decide) (by decide)) ?_)
  exact main
theorem hours_kt (M : Mem) : ∀ N : Nat, hoursS N (vw M 0) 0 20 = -1 ∧ hoursS N (vw M 0) 0 21 = 0 := by
  intro N
  have k0 := w_ket M (w := 0) (by decide) (by decide)
  unfold hoursS
  rw [hoursS_o _ _ _ (by decide) (by decide) (by omega), hoursS_o _ _ _ (by decide) (by decide) (by omega)]
  exact k0
theorem q_hours (hn : 2000 ≤ n) (s : St M u b B o) {N : Int} (hN : 1 ≤ N ∧ N ≤ 60) (hh : u 0 13 + N ≤ 999) : Ok (m_X5_hours n M N) (fun r M' => r = manyS (hoursS N.toNat u) ∧ ∃ b1 B1, St M' (hoursS N.toNat u) b1 B1 o ∧ 1 ≤ b1 ∧ B1 (b1 - 1) = u ∧ (1 ≤ b → 2 ≤ b1 ∧ B1 (b1 - 2) = B (b - 1))) := by
  have cn := st_n s
  have wf := s.1.2.1
  have hv := s.1.1
  have ea : I32 N := ⟨by omega, by omega⟩
  have wu : WF 999 (hoursS N.toNat u) := by
    refine WF_hour (hoursS_wf N.toNat 0 _ wf) ?_
    show frm (fun _ u => hourS u) N.toNat 0 u 0 13 ≤ 999
    rw [hoursS_h]
    omega
  have kk := hours_kt M
  rw [hv] at kk
  unfold m_X5_hours
  repeat (first
      | with_reducible refine Ok_g (by first | assumption | omega) ?_
      | with_reducible refine Ok_lt ?_
      | with_reducible refine Ok_t (by first | assumption | omega) ?_
      | with_reducible refine Ok_f (by first | assumption | omega) ?_
      | with_reducible refine Ok_be (e_hasF (by decide) (by assumption)) ?_
      | with_reducible refine Ok_be (e_hasT (by decide) (by first | assumption | omega)) ?_
      | with_reducible refine Ok_be (e_hasP (by decide) (by first | assumption | omega)) ?_
      | with_reducible refine Ok_be (e_isCell (by first | assumption | omega)) ?_
      | with_reducible refine Ok_be (e_oor (by first | assumption | omega) (by decide) (by decide)) ?_)
  refine chgc (u1 := hoursS N.toNat u) (r := manyS (hoursS N.toNat u)) hn s wu ?_
  intro M1 h1 h2 h3
  have w1 : WF 999 (vw M1 0) := by rw [h2]; exact wf
  unfold m_X5_thinkOn
  refine Ok_bd (Ok_bd (e_begin hn h3 w1 (by decide)) (P := fun _ M3 => vw M3 22 = hoursS N.toNat u ∧ SkyOk M3 ∧ ∀ q i, (q < 22 ∨ 32 < q ∧ q < 121 ∨ 129 < q) → M3 q i = M1 q i) ?_) ?_
  · rintro _ M2 ⟨v2, k2, l2, f2⟩
    refine Ok_bd (e_goOn (N := N) (H := 999) hn (by omega) (by omega) k2 (by rw [v2]; exact w1)) ?_
    rintro _ M3 ⟨v3, k3, l3, f3⟩
    refine Ok_ret ⟨by rw [v3, v2, h2], k3, fun q i hq => by rw [f3 q i (by omega) (by omega), f2 q i (by omega)]⟩
  · rintro _ M3 ⟨v3, k3, km⟩
    refine Ok_bd (e_bec (w := 0) (w' := 22) (by decide) (by decide) (by decide) (by decide) (by rw [v3]; exact (kk _).1) (by rw [v3]; exact (kk _).2)) ?_
    rintro _ M4 ⟨v4, f4⟩
    have v5 : vw M4 0 = hoursS N.toNat u := by rw [v4, v3]
    refine Ok_be (e_owned hn (by decide) (by rw [v5]; exact wu)) (Ok_ret ⟨by rw [v5], v5, SkyOk_keep k3 (fun q i _ _ => f4 q i (by omega)), ?_⟩)
    intro q i h
    rw [f4 q i (by omega), km q i (by omega)]
theorem q_back (hn : 2000 ≤ n) (s : St M u b B o) (h1 : 1 ≤ b) : Ok (m_X5_back n M) (fun r M' => r = ((b - 1 : Nat) : Int) ∧ St M' (B (b - 1)) (b - 1) B o) := by
  have s' := s
  obtain ⟨⟨v0, wf, sk, ek⟩, ⟨hb, h4, hB⟩, hi⟩ := s'
  obtain ⟨c, rfl⟩ : ∃ c, b = c + 1 := ⟨b - 1, by omega⟩
  simp only [Nat.add_sub_cancel]
  unfold m_X5_back
  repeat (first
      | with_reducible refine Ok_g (by first | assumption | omega) ?_
      | with_reducible refine Ok_lt ?_
      | with_reducible refine Ok_t (by first | assumption | omega) ?_
      | with_reducible refine Ok_f (by first | assumption | omega) ?_)
  refine Ok_wr ?_
  have e4 : rd (mup M 130 4 (rd M 130 4 - 1)) 130 4 = (c : Int) := by
    rw [rd_ups _ _ _ (by omega)]; omega
  rw [e4, rd_upne _ _ _ 131 _ _ (by omega)]
  simp only [Int.toNat_natCast]
  repeat (first
      | with_reducible refine Ok_g (by first | assumption | omega) ?_
      | with_reducible refine Ok_lt ?_
      | with_reducible refine Ok_t (by first | assumption | omega) ?_
      | with_reducible refine Ok_f (by first | assumption | omega) ?_)
  have w := ea_W ek (j := c) (by omega)
  have k0 := w_ket (mup M 130 4 (rd M 130 4 - 1)) (w := ea M c) (by omega) (by omega)
  refine Ok_bd (e_bec (w := 0) (w' := ea M c) (by decide) w.1 (by omega) (by decide) k0.1 k0.2) ?_
  rintro _ M1 ⟨v1, f1⟩
  have fr : ∀ q i, 10 < q → ¬ (q = 130 ∧ i = 4) → M1 q i = M q i := fun q i a b => by rw [f1 q i (by omega), mup_n _ b]
  have v2 : vw M1 0 = B c := by
    rw [v1, ← (hB c (by omega)).1]
    exact vwE_congr (by omega) (fun q i _ _ => mup_n _ (by omega))
  have e5 : rd M1 130 4 = (c : Int) := by rw [rd_of (f1 130 4 (by omega)), e4]
  refine Ok_ret ⟨e5, ⟨⟨v2, (hB c (by omega)).2, SkyOk_keep sk (fun q i _ _ => fr q i (by omega) (by omega)), early_keep ek (fun i => fr _ _ (by omega) (by omega))⟩, ⟨by omega, e5, fun j hj => ?_⟩, fun w hw => ?_⟩⟩
  · have wj := ea_W ek (j := j) (by omega)
    have ej : ea M1 j = ea M j := by unfold ea; rw [rd_of (fr _ _ (by omega) (by omega))]
    rw [ej, vwE_congr (M := M) (by omega) (fun q i _ _ => fr q i (by omega) (by omega))]
    exact hB j (by omega)
  · obtain ⟨i1, i2, i3⟩ := hi w hw
    refine ⟨by rw [rd_of (fr 130 2 (by omega) (by omega))]; exact i1, ?_, i3⟩
    rw [vwW_congr (M := M) (by decide) (fun q i _ _ => fr q i (by omega) (by omega))]
    exact i2
theorem q_image (hn : 2000 ≤ n) (s : St M u b B o) : Ok (m_X5_image n M) (fun r M' => r = u 0 13 ∧ St M' u b B (some u)) := by
  have c := st_n s
  have s' := s
  obtain ⟨⟨v0, wf, sk, ek⟩, ⟨hb, h4, hB⟩, hi⟩ := s'
  have k0 := w_ket M (w := 0) (by decide) (by decide)
  unfold m_X5_image
  refine Ok_bd (e_bec (w := 11) (w' := 0) (by decide) (by decide) (by decide) (by decide) k0.1 k0.2) ?_
  rintro _ M1 ⟨v1, f1⟩
  have fr : ∀ q i, (q < 11 ∨ 21 < q) → ¬ (q = 130 ∧ i = 2) → mup M1 130 2 1 q i = M q i := fun q i h h2 => by rw [mup_n _ h2, f1 q i (by omega)]
  refine Ok_wr (Ok_ret ⟨by rw [rd_of (fr 0 13 (by omega) (by omega))]; omega, ⟨⟨?_, wf, SkyOk_keep sk (fun q i _ _ => fr q i (by omega) (by omega)), early_keep ek (fun i => fr _ _ (by omega) (by omega))⟩, ⟨hb, by rw [rd_of (fr 130 4 (by omega) (by omega))]; exact h4, fun j hj => ?_⟩, fun w hw => ?_⟩⟩)
  · rw [← v0]
    exact vwW_congr (by decide) (fun q i _ _ => fr q i (by omega) (by omega))
  · have wj := ea_W ek (j := j) (by omega)
    have ej : ea (mup M1 130 2 1) j = ea M j := by unfold ea; rw [rd_of (fr _ _ (by omega) (by omega))]
    rw [ej, vwE_congr (M := M) (by omega) (fun q i _ _ => fr q i (by omega) (by omega))]
    exact hB j (by omega)
  · cases hw
    refine ⟨rd_ups _ _ _ (by decide), ?_, wf⟩
    rw [← v0, ← v1]
    exact vwW_congr (by decide) (fun q i _ _ => mup_n _ (by omega))
theorem q_restore {w : US} (hn : 2000 ≤ n) (s : St M u b B (some w)) : Ok (m_X5_restore n M) (fun r M' => r = w 0 13 ∧ St M' w 0 B (some w)) := by
  have s' := s
  obtain ⟨⟨v0, wf, sk, ek⟩, ⟨hb, h4, hB⟩, hi⟩ := s'
  obtain ⟨i1, i2, i3⟩ := hi w rfl
  have k0 := w_ket M (w := 11) (by decide) (by decide)
  unfold m_X5_restore
  repeat (first
      | with_reducible refine Ok_g (by first | assumption | omega) ?_
      | with_reducible refine Ok_lt ?_
      | with_reducible refine Ok_t (by first | assumption | omega) ?_
      | with_reducible refine Ok_f (by first | assumption | omega) ?_)
  refine Ok_bd (e_bec (w := 0) (w' := 11) (by decide) (by decide) (by decide) (by decide) k0.1 k0.2) ?_
  rintro _ M1 ⟨v1, f1⟩
  have fr : ∀ q i, 10 < q → ¬ (q = 130 ∧ i = 4) → mup M1 130 4 0 q i = M q i := fun q i a b => by rw [mup_n _ b, f1 q i (by omega)]
  have v2 : vw (mup M1 130 4 0) 0 = w := by
    rw [← i2, ← v1]
    exact vwW_congr (by decide) (fun q i _ _ => mup_n _ (by omega))
  refine Ok_wr (Ok_ret ⟨by rw [← vw_s (w := 0) (by omega), v2], ⟨⟨v2, i3, SkyOk_keep sk (fun q i _ _ => fr q i (by omega) (by omega)), early_keep ek (fun i => fr _ _ (by omega) (by omega))⟩, ⟨by omega, rd_ups _ _ _ (by decide), fun j hj => absurd hj (by omega)⟩, fun w' hw => ?_⟩⟩)
  cases hw
  refine ⟨by rw [rd_of (fr 130 2 (by omega) (by omega))]; exact i1, ?_, i3⟩
  rw [vwW_congr (M := M) (by decide) (fun q i _ _ => fr q i (by omega) (by omega))]
  exact i2
/-! what comes -/
theorem st_b4 {M1 : Mem} {u1 : US} (s : St M u b B none) (wu : WF 999 u1) (v : vw M1 0 = u1) (f : ∀ q i, 10 < q → M1 q i = M q i) : St (mup M1 130 4 0) u1 0 B none := by
  obtain ⟨⟨v0, wf, sk, ek⟩, ⟨hb, h4, hB⟩, hi⟩ := s
  refine ⟨⟨?_, wu, SkyOk_keep sk (fun q i _ _ => by rw [mup_n _ (by omega), f q i (by omega)]), early_keep ek (fun i => by rw [mup_n _ (by omega), f _ _ (by omega)])⟩, ⟨by omega, rd_ups _ _ _ (by decide), fun j hj => absurd hj (by omega)⟩, fun w hw => nomatch hw⟩
  rw [← v]
  exact vwW_congr (by decide) (fun q i _ _ => mup_n _ (by omega))
theorem q_blows (hn : 2000 ≤ n) (s : St M u b B none) {k x y : Int} (hk : 0 ≤ k ∧ k ≤ 6) (hx : 0 ≤ x ∧ x ≤ 9) (hy : 0 ≤ y ∧ y ≤ 9) (h6 : u 0 3 < 6) : Ok (m_X5_blows n M k x y) (fun _ M' => St M' (adF u k x y) 0 B none) := by
  have c := st_n s
  have wf := s.1.2.1
  have ea : I32 k := ⟨by omega, by omega⟩
  have eb : I32 x := ⟨by omega, by omega⟩
  have ec : I32 y := ⟨by omega, by omega⟩
  unfold m_X5_blows
  repeat (first
      | with_reducible refine Ok_g (by first | assumption | omega) ?_
      | with_reducible refine Ok_lt ?_
      | with_reducible refine Ok_t (by first | assumption | omega) ?_
      | with_reducible refine Ok_f (by first | assumption | omega) ?_
      | with_reducible refine Ok_be (e_hasF (by decide) (by assumption)) ?_
      | with_reducible refine Ok_be (e_hasT (by decide) (by first | assumption | omega)) ?_
      | with_reducible refine Ok_be (e_hasP (by decide) (by first | assumption | omega)) ?_
      | with_reducible refine Ok_be (e_isCell (by first | assumption | omega)) ?_
      | with_reducible refine Ok_be (e_oor (by first | assumption | omega) (by decide) (by decide)) ?_)
  refine Ok_bd (e_addFront (H := 999) (.inl rfl) (by rw [s.1.1]; exact wf) hk eb ec) ?_
  rintro r M1 (⟨rfl, rfl, hno⟩ | ⟨rfl, hy2, v1, f1⟩)
  · omega
  · repeat (first
        | with_reducible refine Ok_g (by first | assumption | omega) ?_
        | with_reducible refine Ok_lt ?_
        | with_reducible refine Ok_t (by first | assumption | omega) ?_
        | with_reducible refine Ok_f (by first | assumption | omega) ?_)
    refine Ok_wr ?_
    have st := st_b4 (u1 := adF u k x y) s (adF_wf wf hk hx hy h6) (by rw [v1, s.1.1]) (fun q i h => f1 q i (by omega))
    have c2 := st_n st
    repeat (first
        | with_reducible refine Ok_g (by first | assumption | omega) ?_
        | with_reducible refine Ok_lt ?_
        | with_reducible refine Ok_t (by first | assumption | omega) ?_
        | with_reducible refine Ok_f (by first | assumption | omega) ?_)
    exact Ok_ret st
theorem q_comes (hn : 2000 ≤ n) (s : St M u b B none) {k x y : Int} (hk : 0 ≤ k ∧ k ≤ 7) (hx : 0 ≤ x ∧ x ≤ 9) (hy : 0 ≤ y ∧ y ≤ 23) (h5 : u 0 12 < 5) : Ok (m_X5_comes n M k x y) (fun _ M' => St M' (adP u k x y) 0 B none) := by
  have c := st_n s
  have wf := s.1.2.1
  have ea : I32 k := ⟨by omega, by omega⟩
  have eb : I32 x := ⟨by omega, by omega⟩
  have ec : I32 y := ⟨by omega, by omega⟩
  unfold m_X5_comes
  repeat (first
      | with_reducible refine Ok_g (by first | assumption | omega) ?_
      | with_reducible refine Ok_lt ?_
      | with_reducible refine Ok_t (by first | assumption | omega) ?_
      | with_reducible refine Ok_f (by first | assumption | omega) ?_
      | with_reducible refine Ok_be (e_hasF (by decide) (by assumption)) ?_
      | with_reducible refine Ok_be (e_hasT (by decide) (by first | assumption | omega)) ?_
      | with_reducible refine Ok_be (e_hasP (by decide) (by first | assumption | omega)) ?_
      | with_reducible refine Ok_be (e_isCell (by first | assumption | omega)) ?_
      | with_reducible refine Ok_be (e_oor (by first | assumption | omega) (by decide) (by decide)) ?_)
  refine Ok_bd (e_addPerson (H := 999) (.inl rfl) (by rw [s.1.1]; exact wf) hk hx ec) ?_
  rintro r M1 (⟨rfl, rfl, hno⟩ | ⟨rfl, hy2, v1, f1⟩)
  · omega
  · repeat (first
        | with_reducible refine Ok_g (by first | assumption | omega) ?_
        | with_reducible refine Ok_lt ?_
        | with_reducible refine Ok_t (by first | assumption | omega) ?_
        | with_reducible refine Ok_f (by first | assumption | omega) ?_)
    refine Ok_wr ?_
    have st := st_b4 (u1 := adP u k x y) s (adP_wf wf hk hx hy h5) (by rw [v1, s.1.1]) (fun q i h => f1 q i (by omega))
    have c2 := st_n st
    repeat (first
        | with_reducible refine Ok_g (by first | assumption | omega) ?_
        | with_reducible refine Ok_lt ?_
        | with_reducible refine Ok_t (by first | assumption | omega) ?_
        | with_reducible refine Ok_f (by first | assumption | omega) ?_)
    exact Ok_ret st
theorem q_lies (hn : 2000 ≤ n) (s : St M u b B none) {x y : Int} (hx : 0 ≤ x ∧ x ≤ 9) (hy : 0 ≤ y ∧ y ≤ 23) (h8 : u 0 7 < 8) : Ok (m_X5_lies n M x y) (fun _ M' => St M' (adT u x y) 0 B none) := by
  have c := st_n s
  have wf := s.1.2.1
  have eb : I32 x := ⟨by omega, by omega⟩
  have ec : I32 y := ⟨by omega, by omega⟩
  unfold m_X5_lies
  repeat (first
      | with_reducible refine Ok_g (by first | assumption | omega) ?_
      | with_reducible refine Ok_lt ?_
      | with_reducible refine Ok_t (by first | assumption | omega) ?_
      | with_reducible refine Ok_f (by first | assumption | omega) ?_
      | with_reducible refine Ok_be (e_hasF (by decide) (by assumption)) ?_
      | with_reducible refine Ok_be (e_hasT (by decide) (by first | assumption | omega)) ?_
      | with_reducible refine Ok_be (e_hasP (by decide) (by first | assumption | omega)) ?_
      | with_reducible refine Ok_be (e_isCell (by first | assumption | omega)) ?_
      | with_reducible refine Ok_be (e_oor (by first | assumption | omega) (by decide) (by decide)) ?_)
  refine Ok_bd (e_addThing (H := 999) (.inl rfl) (by rw [s.1.1]; exact wf) hx ec) ?_
  rintro r M1 (⟨rfl, rfl, hno⟩ | ⟨rfl, hy2, v1, f1⟩)
  · omega
  · repeat (first
        | with_reducible refine Ok_g (by first | assumption | omega) ?_
        | with_reducible refine Ok_lt ?_
        | with_reducible refine Ok_t (by first | assumption | omega) ?_
        | with_reducible refine Ok_f (by first | assumption | omega) ?_)
    refine Ok_wr ?_
    have st := st_b4 (u1 := adT u x y) s (adT_wf wf hx hy h8) (by rw [v1, s.1.1]) (fun q i h => f1 q i (by omega))
    have c2 := st_n st
    repeat (first
        | with_reducible refine Ok_g (by first | assumption | omega) ?_
        | with_reducible refine Ok_lt ?_
        | with_reducible refine Ok_t (by first | assumption | omega) ?_
        | with_reducible refine Ok_f (by first | assumption | omega) ?_)
    exact Ok_ret st
end PC
