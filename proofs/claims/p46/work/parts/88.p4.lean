/-! the coast that the law tells -/
theorem and_pos (a : Int) : 0 ≤ bAnd a 2147483647 ∧ bAnd a 2147483647 ≤ 2147483647 := by
  have h : (Int32.ofInt a &&& Int32.ofInt 2147483647).toBitVec.toNat ≤ 2147483647 := by
    show ((Int32.ofInt a).toBitVec &&& (Int32.ofInt 2147483647).toBitVec).toNat ≤ 2147483647
    rw [BitVec.toNat_and]
    exact Nat.le_trans Nat.and_le_right (by decide)
  have e := bv_toInt (x := Int32.ofInt a &&& Int32.ofInt 2147483647) rfl (by omega)
  unfold bAnd
  rw [e]
  omega
theorem Ok_cell {Ls n : Nat} {xs : Nat → Int32} {M : Mem} {a : Int} {kk : Int → Mem → Rs} {P : Int → Mem → Prop} (h : 0 ≤ a ∧ a ≤ 100) (g : ∀ r, Ok (kk r M) P) : Ok (bd (m_L_cell Ls xs n M a) kk) P := by
  unfold m_L_cell
  have h32 : I32 a := ⟨by omega, by omega⟩
  rw [if_pos h32]
  by_cases c : (Ls : Int) ≤ a
  · rw [if_pos c]; exact g _
  · rw [if_neg c, if_pos (by omega)]; exact g _
theorem Ok_pick {n : Nat} {M : Mem} {v m : Int} {kk : Int → Mem → Rs} {P : Int → Mem → Prop} (h : 0 < m ∧ m ≤ 1000) (g : ∀ r, 0 ≤ r → r < m → Ok (kk r M) P) : Ok (bd (m_L_pick n M v m) kk) P := by
  have hp := and_pos v
  unfold m_L_pick
  have h1 : I32 (bAnd v 2147483647) := ⟨by omega, by omega⟩
  have h2 : I32 m := ⟨by omega, by omega⟩
  rw [if_pos h1, if_pos h2, if_pos (by omega), tm hp.1]
  have := em_rng (a := bAnd v 2147483647) h.1
  exact g _ this.1 this.2
theorem adF_n (u : US) (s a b : Int) : adF u s a b 0 3 = u 0 3 + 1 ∧ adF u s a b 0 7 = u 0 7 ∧ adF u s a b 0 12 = u 0 12 ∧ adF u s a b 0 13 = u 0 13 := by
  unfold adF
  refine ⟨uset_same _ _ _ _, ?_, ?_, ?_⟩
  all_goals rw [uset_ni _ _ (by decide), uset_nk _ _ (by decide), uset_nk _ _ (by decide), uset_nk _ _ (by decide)]
theorem adP_n (u : US) (s a b : Int) : adP u s a b 0 3 = u 0 3 ∧ adP u s a b 0 7 = u 0 7 ∧ adP u s a b 0 12 = u 0 12 + 1 ∧ adP u s a b 0 13 = u 0 13 ∧ ∀ t, adP u s a b 6 t = u 6 t := by
  unfold adP
  refine ⟨?_, ?_, uset_same _ _ _ _, ?_, fun t => ?_⟩
  · rw [uset_ni _ _ (by decide), uset_nk _ _ (by decide), uset_nk _ _ (by decide), uset_nk _ _ (by decide), uset_nk _ _ (by decide)]
  · rw [uset_ni _ _ (by decide), uset_nk _ _ (by decide), uset_nk _ _ (by decide), uset_nk _ _ (by decide), uset_nk _ _ (by decide)]
  · rw [uset_ni _ _ (by decide), uset_nk _ _ (by decide), uset_nk _ _ (by decide), uset_nk _ _ (by decide), uset_nk _ _ (by decide)]
  · rw [uset_nk _ _ (by decide), uset_nk _ _ (by decide), uset_nk _ _ (by decide), uset_nk _ _ (by decide), uset_nk _ _ (by decide)]
theorem adT_n (u : US) (a b : Int) : adT u a b 0 3 = u 0 3 ∧ adT u a b 0 7 = u 0 7 + 1 ∧ adT u a b 0 12 = u 0 12 ∧ adT u a b 0 13 = u 0 13 ∧ ∀ t, adT u a b 6 t = if t = (u 0 7).toNat then -1 else u 6 t := by
  unfold adT
  refine ⟨?_, uset_same _ _ _ _, ?_, ?_, fun t => ?_⟩
  · rw [uset_ni _ _ (by decide), uset_nk _ _ (by decide), uset_nk _ _ (by decide), uset_nk _ _ (by decide)]
  · rw [uset_ni _ _ (by decide), uset_nk _ _ (by decide), uset_nk _ _ (by decide), uset_nk _ _ (by decide)]
  · rw [uset_ni _ _ (by decide), uset_nk _ _ (by decide), uset_nk _ _ (by decide), uset_nk _ _ (by decide)]
  · rw [uset_nk _ _ (by decide)]
    by_cases h : t = (u 0 7).toNat
    · rw [if_pos h, h, uset_same]
    · rw [if_neg h, uset_ni _ _ h, uset_nk _ _ (by decide), uset_nk _ _ (by decide)]
theorem hours_ow : ∀ (k i : Nat) (u : US), WF 999 u → u 0 13 + k ≤ 999 → OwnOk u → OwnOk (frm (fun _ u => hourS u) k i u) ∧ frm (fun _ u => hourS u) k i u 0 12 = u 0 12 ∧ frm (fun _ u => hourS u) k i u 0 7 = u 0 7
  | 0, _, _, _, _, h => ⟨h, rfl, rfl⟩
  | k + 1, i, u, wf, hh, h => by
    obtain ⟨h1, h2, _, _, _, _, h7⟩ := hour_law wf h
    have w : WF 999 (hourS u) := WF_hour (hourS_wf wf) (by rw [h2]; omega)
    have := hours_ow k (i + 1) (hourS u) w (by rw [h2]; omega) h7
    rw [h1 0 12 (by decide) (by decide) (by decide), h1 0 7 (by decide) (by decide) (by decide)] at this
    exact this
def CoP (M : Mem) : Prop := ∃ u b B, St M u b B none ∧ OwnOk u ∧ 1 ≤ u 0 12 ∧ 1 ≤ u 0 7 ∧ u 0 13 ≤ 11
section CO
variable {Ls n : Nat} {xs : Nat → Int32}
theorem e_c218 (hn : 2000 ≤ n) : ∀ (k t i : Nat) (M : Mem) (u : US) (b : Nat) (B : Nat → US), i + k = 3 → k < t → St M u b B none → OwnOk u → 1 ≤ u 0 12 → 1 ≤ u 0 7 → u 0 13 = 0 → Ok (m_L_coast_218 Ls xs n t M (u 0 12) (i : Int)) (fun _ M' => CoP M') := by
  intro k
  induction k with
  | zero =>
    intro t i M u b B hi ht s ow h12 h7 h13
    cases t with
    | zero => omega
    | succ t =>
      rw [m_L_coast_218]
      repeat (first
          | with_reducible refine Ok_g (by first | assumption | omega) ?_
          | with_reducible refine Ok_lt ?_
          | with_reducible refine Ok_t (by first | assumption | omega) ?_
          | with_reducible refine Ok_f (by first | assumption | omega) ?_)
      refine Ok_cell (by omega) (fun r1 => ?_)
      refine Ok_pick (by omega) (fun r2 a1 a2 => ?_)
      refine Ok_bd (q_thick hn s (a := 1 + r2) (by omega)) ?_
      rintro _ M1 ⟨_, b1, B1, s1, _⟩
      refine Ok_cell (by omega) (fun r3 => ?_)
      refine Ok_pick (by omega) (fun r4 a3 a4 => ?_)
      have c7 : uset u 0 14 (1 + r2) 0 7 = u 0 7 := uset_ni _ _ (by decide)
      have c12 : uset u 0 14 (1 + r2) 0 12 = u 0 12 := uset_ni _ _ (by decide)
      have c13 : uset u 0 14 (1 + r2) 0 13 = u 0 13 := uset_ni _ _ (by decide)
      have ow1 : OwnOk (uset u 0 14 (1 + r2)) := fun t ht => by
        rw [uset_nk _ _ (by decide), c12]
        exact ow t (by rw [c7] at ht; exact ht)
      repeat (first
          | with_reducible refine Ok_g (by first | assumption | omega) ?_
          | with_reducible refine Ok_lt ?_
          | with_reducible refine Ok_t (by first | assumption | omega) ?_
          | with_reducible refine Ok_f (by first | assumption | omega) ?_)
      by_cases c : r4 ≤ 0
      · repeat (first
            | with_reducible refine Ok_g (by first | assumption | omega) ?_
            | with_reducible refine Ok_lt ?_
            | with_reducible refine Ok_t (by first | assumption | omega) ?_
            | with_reducible refine Ok_f (by first | assumption | omega) ?_)
        exact Ok_ret ⟨_, _, _, s1, ow1, by omega, by omega, by omega⟩
      · repeat (first
            | with_reducible refine Ok_g (by first | assumption | omega) ?_
            | with_reducible refine Ok_lt ?_
            | with_reducible refine Ok_t (by first | assumption | omega) ?_
            | with_reducible refine Ok_f (by first | assumption | omega) ?_)
        refine Ok_bd (q_hours hn s1 (N := r4) (by omega) (by omega)) ?_
        rintro _ M2 ⟨_, b2, B2, s2, _⟩
        have ho := hours_ow r4.toNat 0 _ s1.1.2.1 (by omega) ow1
        have hh := hoursS_h r4.toNat 0 (uset u 0 14 (1 + r2))
        refine Ok_ret ⟨_, _, _, s2, ho.1, ?_, ?_, ?_⟩
        · show 1 ≤ frm (fun _ u => hourS u) r4.toNat 0 (uset u 0 14 (1 + r2)) 0 12
          rw [ho.2.1]; omega
        · show 1 ≤ frm (fun _ u => hourS u) r4.toNat 0 (uset u 0 14 (1 + r2)) 0 7
          rw [ho.2.2]; omega
        · show frm (fun _ u => hourS u) r4.toNat 0 (uset u 0 14 (1 + r2)) 0 13 ≤ 11
          rw [hh]; omega
  | succ k ih =>
    intro t i M u b B hi ht s ow h12 h7 h13
    have c := st_n s
    cases t with
    | zero => omega
    | succ t =>
      rw [m_L_coast_218]
      repeat (first
          | with_reducible refine Ok_g (by first | assumption | omega) ?_
          | with_reducible refine Ok_lt ?_
          | with_reducible refine Ok_t (by first | assumption | omega) ?_
          | with_reducible refine Ok_f (by first | assumption | omega) ?_)
      refine Ok_cell (by omega) (fun r1 => ?_)
      refine Ok_be (q_cnt hn s).2.1 ?_
      refine Ok_pick (by omega) (fun r2 a1 a2 => ?_)
      refine Ok_cell (by omega) (fun r3 => ?_)
      refine Ok_pick (by omega) (fun r4 a3 a4 => ?_)
      obtain ⟨t1, rfl⟩ := Int.eq_ofNat_of_zero_le a1
      refine Ok_bd (q_owns hn s (t := t1) (p := r4 - 1) (by omega) (by omega)) ?_
      rintro _ M1 ⟨b1, B1, s1⟩
      refine Ok_cell (by omega) (fun r5 => ?_)
      refine Ok_pick (by omega) (fun r6 a5 a6 => ?_)
      refine Ok_cell (by omega) (fun r7 => ?_)
      refine Ok_pick (by omega) (fun r8 a7 a8 => ?_)
      obtain ⟨p1, rfl⟩ := Int.eq_ofNat_of_zero_le a5
      have c12 : uset u 6 t1 (r4 - 1) 0 12 = u 0 12 := uset_nk _ _ (by decide)
      have c7 : uset u 6 t1 (r4 - 1) 0 7 = u 0 7 := uset_nk _ _ (by decide)
      have c13 : uset u 6 t1 (r4 - 1) 0 13 = u 0 13 := uset_nk _ _ (by decide)
      refine Ok_bd (q_stands hn s1 (p := p1) (c := r8) (by omega) (by omega)) ?_
      rintro _ M2 ⟨_, b2, B2, s2, _⟩
      have d12 : uset (uset u 6 t1 (r4 - 1)) 10 p1 r8 0 12 = u 0 12 := (uset_nk _ _ (by decide)).trans c12
      have d7 : uset (uset u 6 t1 (r4 - 1)) 10 p1 r8 0 7 = u 0 7 := (uset_nk _ _ (by decide)).trans c7
      have d13 : uset (uset u 6 t1 (r4 - 1)) 10 p1 r8 0 13 = u 0 13 := (uset_nk _ _ (by decide)).trans c13
      have ow2 : OwnOk (uset (uset u 6 t1 (r4 - 1)) 10 p1 r8) := fun t ht => by
        rw [d7] at ht
        rw [d12, uset_nk _ _ (by decide)]
        by_cases e : t = t1
        · rw [e, uset_same]; omega
        · rw [uset_ni _ _ e]; exact ow t ht
      have := ih t (i + 1) M2 _ b2 B2 (by omega) (by omega) s2 ow2 (by omega) (by omega) (by omega)
      rw [d12] at this
      exact this
theorem e_c166 (hn : 2000 ≤ n) : ∀ (k t : Nat) (M : Mem) (u : US) (b : Nat) (B : Nat → US), k < t → k ≤ 10 → St M u b B none → OwnOk u → 1 ≤ u 0 12 → 1 ≤ u 0 7 + k → u 0 7 + k ≤ 8 → u 0 13 = 0 → Ok (m_L_coast_166 Ls xs n t M (k : Int)) (fun _ M' => CoP M') := by
  intro k
  induction k with
  | zero =>
    intro t M u b B ht hk s ow h12 h7 h8 h13
    cases t with
    | zero => omega
    | succ t =>
      rw [m_L_coast_166]
      repeat (first
          | with_reducible refine Ok_g (by first | assumption | omega) ?_
          | with_reducible refine Ok_lt ?_
          | with_reducible refine Ok_t (by first | assumption | omega) ?_
          | with_reducible refine Ok_f (by first | assumption | omega) ?_)
      refine Ok_be (q_cnt hn s).1 ?_
      exact e_c218 hn 3 n 0 M u b B (by omega) (by omega) s ow h12 (by omega) h13
  | succ k ih =>
    intro t M u b B ht hk s ow h12 h7 h8 h13
    have c := st_n s
    cases t with
    | zero => omega
    | succ t =>
      rw [m_L_coast_166]
      repeat (first
          | with_reducible refine Ok_g (by first | assumption | omega) ?_
          | with_reducible refine Ok_lt ?_
          | with_reducible refine Ok_t (by first | assumption | omega) ?_
          | with_reducible refine Ok_f (by first | assumption | omega) ?_)
      refine Ok_cell (by omega) (fun r1 => ?_)
      refine Ok_pick (by omega) (fun r2 a1 a2 => ?_)
      refine Ok_cell (by omega) (fun r3 => ?_)
      refine Ok_pick (by omega) (fun r4 a3 a4 => ?_)
      refine Ok_bd (q_lies hn s (x := r2) (y := r4) (by omega) (by omega) (by omega)) ?_
      rintro _ M1 s1
      obtain ⟨e1, e2, e3, e4, e5⟩ := adT_n u r2 r4
      have ow1 : OwnOk (adT u r2 r4) := fun t ht => by
        rw [e2] at ht
        rw [e3, e5]
        by_cases e : t = (u 0 7).toNat
        · rw [if_pos e]; omega
        · rw [if_neg e]; exact ow t (by omega)
      have := ih t M1 _ 0 B (by omega) (by omega) s1 ow1 (by omega) (by omega) (by omega) (by omega)
      rw [show ((k + 1 : Nat) : Int) + (-1) = (k : Int) by omega]
      exact this
theorem e_c93 (hn : 2000 ≤ n) : ∀ (k t : Nat) (M : Mem) (u : US) (b : Nat) (B : Nat → US), k < t → k ≤ 10 → St M u b B none → 1 ≤ u 0 12 + k → u 0 12 + k ≤ 5 → u 0 7 = 0 → u 0 13 = 0 → Ok (m_L_coast_93 Ls xs n t M (k : Int)) (fun _ M' => CoP M') := by
  intro k
  induction k with
  | zero =>
    intro t M u b B ht hk s h12 h5 h7 h13
    cases t with
    | zero => omega
    | succ t =>
      rw [m_L_coast_93]
      repeat (first
          | with_reducible refine Ok_g (by first | assumption | omega) ?_
          | with_reducible refine Ok_lt ?_
          | with_reducible refine Ok_t (by first | assumption | omega) ?_
          | with_reducible refine Ok_f (by first | assumption | omega) ?_)
      refine Ok_cell (by omega) (fun r1 => ?_)
      refine Ok_pick (by omega) (fun r2 a1 a2 => ?_)
      obtain ⟨k1, rfl⟩ := Int.eq_ofNat_of_zero_le a1
      have := e_c166 (Ls := Ls) (xs := xs) hn (1 + k1) n M u b B (by omega) (by omega) s (fun t ht => by omega) (by omega) (by omega) (by omega) h13
      rw [show (1 : Int) + (k1 : Int) = ((1 + k1 : Nat) : Int) by omega]
      exact this
  | succ k ih =>
    intro t M u b B ht hk s h12 h5 h7 h13
    cases t with
    | zero => omega
    | succ t =>
      rw [m_L_coast_93]
      repeat (first
          | with_reducible refine Ok_g (by first | assumption | omega) ?_
          | with_reducible refine Ok_lt ?_
          | with_reducible refine Ok_t (by first | assumption | omega) ?_
          | with_reducible refine Ok_f (by first | assumption | omega) ?_)
      refine Ok_cell (by omega) (fun r1 => ?_)
      refine Ok_pick (by omega) (fun r2 a1 a2 => ?_)
      refine Ok_cell (by omega) (fun r3 => ?_)
      refine Ok_pick (by omega) (fun r4 a3 a4 => ?_)
      refine Ok_cell (by omega) (fun r5 => ?_)
      refine Ok_pick (by omega) (fun r6 a5 a6 => ?_)
      refine Ok_bd (q_comes hn s (k := r2) (x := r4) (y := r6) (by omega) (by omega) (by omega) (by omega)) ?_
      rintro _ M1 s1
      obtain ⟨e1, e2, e3, e4, e5⟩ := adP_n u r2 r4 r6
      have := ih t M1 _ 0 B (by omega) (by omega) s1 (by omega) (by omega) (by omega) (by omega)
      rw [show ((k + 1 : Nat) : Int) + (-1) = (k : Int) by omega]
      exact this
theorem e_c11 (hn : 2000 ≤ n) {most : Int} (hm : 1 ≤ most ∧ most ≤ 5) : ∀ (k t : Nat) (M : Mem) (u : US) (b : Nat) (B : Nat → US), k < t → k ≤ 10 → St M u b B none → u 0 3 + k ≤ 6 → u 0 12 = 0 → u 0 7 = 0 → u 0 13 = 0 → Ok (m_L_coast_11 Ls xs n t M most (k : Int)) (fun _ M' => CoP M') := by
  intro k
  induction k with
  | zero =>
    intro t M u b B ht hk s h3 h12 h7 h13
    cases t with
    | zero => omega
    | succ t =>
      rw [m_L_coast_11]
      repeat (first
          | with_reducible refine Ok_g (by first | assumption | omega) ?_
          | with_reducible refine Ok_lt ?_
          | with_reducible refine Ok_t (by first | assumption | omega) ?_
          | with_reducible refine Ok_f (by first | assumption | omega) ?_)
      refine Ok_cell (by omega) (fun r1 => ?_)
      refine Ok_pick (by omega) (fun r2 a1 a2 => ?_)
      obtain ⟨k1, rfl⟩ := Int.eq_ofNat_of_zero_le a1
      have := e_c93 (Ls := Ls) (xs := xs) hn (1 + k1) n M u b B (by omega) (by omega) s (by omega) (by omega) h7 h13
      rw [show (1 : Int) + (k1 : Int) = ((1 + k1 : Nat) : Int) by omega]
      exact this
  | succ k ih =>
    intro t M u b B ht hk s h3 h12 h7 h13
    cases t with
    | zero => omega
    | succ t =>
      have main : ∀ (M : Mem) (m v a k' : Int), St M u b B none → (0 < m ∧ m ≤ 10) → (0 ≤ a ∧ a ≤ 9) → (0 ≤ k' ∧ k' ≤ 6) → Ok (m_L_coast_67 Ls xs n (m_L_coast_11 Ls xs n t) M most ((k + 1 : Nat) : Int) m v a k') (fun _ M' => CoP M') := by
        intro M m v a k' s hm' ha hk'
        unfold m_L_coast_67
        refine Ok_pick (by omega) (fun r a1 a2 => ?_)
        refine Ok_bd (q_blows hn s (k := k') (x := a) (y := r) hk' ha (by omega) (by omega)) ?_
        rintro _ M1 s1
        obtain ⟨e1, e2, e3, e4⟩ := adF_n u k' a r
        have := ih t M1 _ 0 B (by omega) (by omega) s1 (by omega) (by omega) (by omega) (by omega)
        rw [show ((k + 1 : Nat) : Int) + (-1) = (k : Int) by omega]
        exact this
      rw [m_L_coast_11]
      repeat (first
          | with_reducible refine Ok_g (by first | assumption | omega) ?_
          | with_reducible refine Ok_lt ?_
          | with_reducible refine Ok_t (by first | assumption | omega) ?_
          | with_reducible refine Ok_f (by first | assumption | omega) ?_)
      refine Ok_cell (by omega) (fun r1 => ?_)
      refine Ok_pick (by omega) (fun r2 a1 a2 => ?_)
      refine Ok_cell (by omega) (fun r3 => ?_)
      refine Ok_pick (by omega) (fun r4 a3 a4 => ?_)
      refine Ok_cell (by omega) (fun r5 => ?_)
      refine Ok_cell (by omega) (fun r6 => ?_)
      refine Ok_pick (by omega) (fun r7 a5 a6 => ?_)
      repeat (first
          | with_reducible refine Ok_g (by first | assumption | omega) ?_
          | with_reducible refine Ok_lt ?_
          | with_reducible refine Ok_t (by first | assumption | omega) ?_
          | with_reducible refine Ok_f (by first | assumption | omega) ?_)
      refine Ok_if (fun _ => ?_) (fun _ => ?_)
      · exact main M 10 _ _ _ s (by omega) (by omega) (by omega)
      · exact main M 4 _ _ _ s (by omega) (by omega) (by omega)
theorem e_coast (hn : 2000 ≤ n) {M : Mem} {u : US} {b : Nat} {B : Nat → US} (s : St M u b B none) (h3 : u 0 3 = 0) (h12 : u 0 12 = 0) (h7 : u 0 7 = 0) (h13 : u 0 13 = 0) : Ok (m_L_coast Ls xs n M 5) (fun _ M' => CoP M') := by
  unfold m_L_coast
  refine Ok_cell (by omega) (fun r1 => ?_)
  refine Ok_pick (by omega) (fun r2 a1 a2 => ?_)
  obtain ⟨k1, rfl⟩ := Int.eq_ofNat_of_zero_le a1
  exact e_c11 hn (by omega) k1 n M u b B (by omega) (by omega) s (by omega) h12 h7 h13
end CO
