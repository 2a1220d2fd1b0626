/-! the law: its ends first -/
section L5
variable {n : Nat} {u w : US} {b : Nat} {B : Nat → US} {P T : Nat} {h : Int}
theorem l901 (hn : 2000 ≤ n) : ∀ (k t i : Nat) (M E : Mem) (uu b : Nat) (B : Nat → US), i + k = P → k < t → St M u b B (some w) → 1 ≤ b → B (b - 1) 0 13 = h + 11 → u 0 12 = (P : Int) → w 0 13 = h → 0 ≤ h ∧ h ≤ 500 → Ok (m_L_law_901 n t M E uu (P : Int) h (i : Int)) (fun r _ => r = 1) := by
  intro k
  induction k with
  | zero =>
    intro t i M E uu b B hi ht s hb hB hP hw hh
    have cc := st_n s
    cases t with
    | zero => omega
    | succ t =>
      rw [m_L_law_901]
      repeat (first
          | with_reducible refine Ok_g (by first | assumption | omega) ?_
          | with_reducible refine Ok_lt ?_
          | with_reducible refine Ok_t (by first | assumption | omega) ?_
          | with_reducible refine Ok_f (by first | assumption | omega) ?_)
      refine Ok_bd (q_back hn s hb) ?_
      rintro r M1 ⟨er, s1⟩
      have c1 := s1.2.1.1
      repeat (first
          | with_reducible refine Ok_g (by first | assumption | omega) ?_
          | with_reducible refine Ok_lt ?_
          | with_reducible refine Ok_t (by first | assumption | omega) ?_
          | with_reducible refine Ok_f (by first | assumption | omega) ?_)
      refine Ok_be (q_cnt hn s1).2.2.1 ?_
      repeat (first
          | with_reducible refine Ok_g (by first | assumption | omega) ?_
          | with_reducible refine Ok_lt ?_
          | with_reducible refine Ok_t (by first | assumption | omega) ?_
          | with_reducible refine Ok_f (by first | assumption | omega) ?_)
      refine Ok_bd (q_restore hn s1) ?_
      rintro r2 M2 ⟨er2, s2⟩
      repeat (first
          | with_reducible refine Ok_g (by first | assumption | omega) ?_
          | with_reducible refine Ok_lt ?_
          | with_reducible refine Ok_t (by first | assumption | omega) ?_
          | with_reducible refine Ok_f (by first | assumption | omega) ?_)
      refine Ok_be (q_cnt hn s2).2.2.1 ?_
      repeat (first
          | with_reducible refine Ok_g (by first | assumption | omega) ?_
          | with_reducible refine Ok_lt ?_
          | with_reducible refine Ok_t (by first | assumption | omega) ?_
          | with_reducible refine Ok_f (by first | assumption | omega) ?_)
      refine Ok_be (q_cnt hn s2).2.2.2.2.2 ?_
      repeat (first
          | with_reducible refine Ok_g (by first | assumption | omega) ?_
          | with_reducible refine Ok_lt ?_
          | with_reducible refine Ok_t (by first | assumption | omega) ?_
          | with_reducible refine Ok_f (by first | assumption | omega) ?_)
      exact Ok_ret rfl
  | succ k ih =>
    intro t i M E uu b B hi ht s hb hB hP hw hh
    have cc := st_n s
    cases t with
    | zero => omega
    | succ t =>
      rw [m_L_law_901]
      repeat (first
          | with_reducible refine Ok_g (by first | assumption | omega) ?_
          | with_reducible refine Ok_lt ?_
          | with_reducible refine Ok_t (by first | assumption | omega) ?_
          | with_reducible refine Ok_f (by first | assumption | omega) ?_)
      have hp : (i : Int) < u 0 12 := by omega
      obtain ⟨c, hc, ec, hbest⟩ := st_best s.1.2.1 (p := i) (by omega)
      have wp := (wFp s.1.2.1 i).2.2.2
      refine Ok_bd (q_stand hn s hp).1 ?_
      rintro r M1 ⟨er, s1⟩
      rw [ec] at er
      refine Ok_bd (q_stand hn s1 hp).2 ?_
      rintro r1 M2 ⟨er1, s2⟩
      rw [ec] at er1
      have er : r = (c : Int) := er
      have er1 : r1 = stV u i 9 c := er1
      subst er
      refine Ok_bd (q_stands hn s2 hp (c := (c : Int)) (by omega)) ?_
      rintro r2 M3 ⟨er2, b1, B1, s3, g1, g2, g3⟩
      have g3 := g3 hb
      have sb := worthsS_b (hoursS_wf 9 0 _ s3.1.2.1) (i : Int)
      have sb : 0 ≤ stV u i 9 c ∧ stV u i 9 c ≤ 72 := sb
      have hp3 : (i : Int) < uset u 10 i (c : Int) 0 12 := by rw [uset_nk _ _ (by decide)]; exact hp
      repeat (first
          | with_reducible refine Ok_g (by first | assumption | omega) ?_
          | with_reducible refine Ok_lt ?_
          | with_reducible refine Ok_t (by first | assumption | omega) ?_
          | with_reducible refine Ok_f (by first | assumption | omega) ?_)
      refine Ok_bd (q_pthen hn s3 hp3) ?_
      rintro r3 M4 ⟨er3, s4⟩
      have er3 : r3 = stV u i 9 c := er3
      repeat (first
          | with_reducible refine Ok_g (by first | assumption | omega) ?_
          | with_reducible refine Ok_lt ?_
          | with_reducible refine Ok_t (by first | assumption | omega) ?_
          | with_reducible refine Ok_f (by first | assumption | omega) ?_)
      refine Ok_bd (q_back hn s4 g1) ?_
      rintro r4 M5 ⟨er4, s5⟩
      rw [g2] at s5
      have c5 := s5.2.1.1
      repeat (first
          | with_reducible refine Ok_g (by first | assumption | omega) ?_
          | with_reducible refine Ok_lt ?_
          | with_reducible refine Ok_t (by first | assumption | omega) ?_
          | with_reducible refine Ok_f (by first | assumption | omega) ?_)
      refine Ok_be (q_person hn s5 hp).2.2.1 ?_
      repeat (first
          | with_reducible refine Ok_g (by first | assumption | omega) ?_
          | with_reducible refine Ok_lt ?_
          | with_reducible refine Ok_t (by first | assumption | omega) ?_
          | with_reducible refine Ok_f (by first | assumption | omega) ?_)
      refine Ok_bd (q_pthen hn s5 hp) ?_
      rintro r5 M6 ⟨er5, s6⟩
      have sb2 := worthsS_b (hoursS_wf 9 0 _ s5.1.2.1) (i : Int)
      have sb2 : 0 ≤ worthsS (hoursS 9 u) (i : Int) ∧ worthsS (hoursS 9 u) (i : Int) ≤ 72 := sb2
      have hb2 := hbest (u 10 i).toNat (by omega)
      rw [stV_here s.1.2.1] at hb2
      repeat (first
          | with_reducible refine Ok_g (by first | assumption | omega) ?_
          | with_reducible refine Ok_lt ?_
          | with_reducible refine Ok_t (by first | assumption | omega) ?_
          | with_reducible refine Ok_f (by first | assumption | omega) ?_)
      have := ih t (i + 1) M6 E uu (b1 - 1) B1 (by omega) (by omega) s6 (by omega) (by rw [show b1 - 1 - 1 = b1 - 2 by omega, g3.2]; exact hB) hP hw hh
      exact this
/-- one cell's checks -/
theorem l800 {k666 : Mem → Mem → Nat → Int → Int → Int → Int → Int → Int → Rs} {M E : Mem} {uu i l m : Nat} {o : Option US} (hn : 2000 ≤ n) (s : St M u b B o) (hi : i < 24) (hm : m ≤ 24) (wh : Whole (cellsN u) l) (h0 : ∀ d, d < i → l.testBit d = false) {x : Int} (hx : x = 0 ∨ x = -9)
    (g : ∀ M1 l1 m1, St M1 u b B o → Whole (cellsN u) l1 → (∀ d, d < i + 1 → l1.testBit d = false) → m1 ≤ m + 1 → (∀ k, hmN (cellsN u) (k + 1) i l m = hmN (cellsN u) k (i + 1) l1 m1) → Ok (k666 M1 E uu (P : Int) h ((cellsN u : Nat) : Int) (m1 : Int) (l1 : Int) ((i : Int) + 1)) (fun r _ => r = 1)) :
    Ok (m_L_law_800 n k666 M E uu (P : Int) h ((cellsN u : Nat) : Int) (m : Int) (l : Int) (i : Int) x x) (fun r _ => r = 1) := by
  have hl := wh.1
  have hf := (cells_N u).2
  unfold m_L_law_800
  repeat (first
      | with_reducible refine Ok_g (by first | assumption | omega) ?_
      | with_reducible refine Ok_lt ?_
      | with_reducible refine Ok_t (by first | assumption | omega) ?_
      | with_reducible refine Ok_f (by first | assumption | omega) ?_)
  rw [bt (by omega) (by omega)]
  by_cases c : l.testBit i = true
  · rw [if_pos c]
    repeat (first
        | with_reducible refine Ok_g (by first | assumption | omega) ?_
        | with_reducible refine Ok_lt ?_
        | with_reducible refine Ok_t (by first | assumption | omega) ?_
        | with_reducible refine Ok_f (by first | assumption | omega) ?_)
    refine Ok_bd (q_islc hn s hi) ?_
    rintro r M1 ⟨er, s1⟩
    subst er
    obtain ⟨a1, a2, a3⟩ := left_step wh hi c h0
    have pl := piece_lt (cellsN u) hi
    rw [nAnd (by omega) (by omega), and_sub a1, bt (by omega) (by omega), if_pos (piece_self hi (wh.2.1 i c)), nBut (by omega) (by omega)]
    have p31 := pc_31 pl
    have p24 := pc_24 (pieceN (cellsN u) i)
    have gb := gmN_b (cellsN u) 24 0 0 (by omega)
    have gg := (gm_ge (cellsN u) 24 0 0).2 i (by omega) (by omega)
    repeat (first
        | with_reducible refine Ok_g (by first | assumption | omega) ?_
        | with_reducible refine Ok_lt ?_
        | with_reducible refine Ok_t (by first | assumption | omega) ?_
        | with_reducible refine Ok_f (by first | assumption | omega) ?_)
    refine Ok_be (e_bitCount pl) ?_
    rw [p31]
    refine Ok_bd (q_isl hn s1).2 ?_
    rintro r2 M2 ⟨er2, s2⟩
    subst er2
    repeat (first
        | with_reducible refine Ok_g (by first | assumption | omega) ?_
        | with_reducible refine Ok_lt ?_
        | with_reducible refine Ok_t (by first | assumption | omega) ?_
        | with_reducible refine Ok_f (by first | assumption | omega) ?_)
    have := g M2 _ (m + 1) s2 a2 a3 (by omega) (fun k => by
      show (if l.testBit i = true then _ else _) = _
      rw [if_pos c])
    exact this
  · rw [if_neg c]
    repeat (first
        | with_reducible refine Ok_g (by first | assumption | omega) ?_
        | with_reducible refine Ok_lt ?_
        | with_reducible refine Ok_t (by first | assumption | omega) ?_
        | with_reducible refine Ok_f (by first | assumption | omega) ?_)
    refine g M l m s wh (fun d hd => ?_) (by omega) (fun k => ?_)
    · by_cases e : d = i
      · rw [e]; exact Bool.eq_false_iff.mpr c
      · exact h0 d (by omega)
    · show (if l.testBit i = true then _ else _) = _
      rw [if_neg c]
theorem l693 {k666 : Mem → Mem → Nat → Int → Int → Int → Int → Int → Int → Rs} {M E : Mem} {uu i l m : Nat} {o : Option US} (hn : 2000 ≤ n) (s : St M u b B o) (hi : i < 24) (hm : m ≤ 24) (wh : Whole (cellsN u) l) (h0 : ∀ d, d < i → l.testBit d = false) {x : Int} (hx : x = if u 0 14 ≤ fogS u (i : Int) then 1 else 0)
    (g : ∀ M1 l1 m1, St M1 u b B o → Whole (cellsN u) l1 → (∀ d, d < i + 1 → l1.testBit d = false) → m1 ≤ m + 1 → (∀ k, hmN (cellsN u) (k + 1) i l m = hmN (cellsN u) k (i + 1) l1 m1) → Ok (k666 M1 E uu (P : Int) h ((cellsN u : Nat) : Int) (m1 : Int) (l1 : Int) ((i : Int) + 1)) (fun r _ => r = 1)) :
    Ok (m_L_law_693 n k666 M E uu (P : Int) h ((cellsN u : Nat) : Int) (m : Int) (l : Int) (i : Int) x) (fun r _ => r = 1) := by
  have hf := (cells_N u).2
  have wf := s.1.2.1
  have cb := cells_bit u hi
  have kt := st_q s
  have af := air_fog u (c := (i : Int)) (by omega)
  have ab1 := airOS_b wf (i : Int) (u 0 13)
  have fb1 := fogS_b wf (i : Int)
  have hbit : bAnd (bShr ((cellsN u : Nat) : Int) (i : Int)) 1 = x := by
    rw [bt (by omega) (by omega), cb, hx]
    by_cases c : u 0 14 ≤ fogS u (i : Int)
    · rw [decide_eq_true c, if_pos rfl, if_pos c]
    · rw [decide_eq_false c, if_neg c]; rfl
  have hx01 : x = 0 ∨ x = 1 := by rw [hx]; split <;> omega
  have m709 : Ok (m_L_law_709 n k666 M E uu (P : Int) h ((cellsN u : Nat) : Int) (m : Int) (l : Int) (i : Int) x x) (fun r _ => r = 1) := by
    unfold m_L_law_709
    repeat (first
        | with_reducible refine Ok_g (by first | assumption | omega) ?_
        | with_reducible refine Ok_lt ?_
        | with_reducible refine Ok_t (by first | assumption | omega) ?_
        | with_reducible refine Ok_f (by first | assumption | omega) ?_)
    refine Ok_bd (q_cell hn s hi).1 ?_
    rintro r1 M1 ⟨e1, s1⟩
    refine Ok_bd (q_cell hn s1 hi).2.1 ?_
    rintro r2 M2 ⟨e2, s2⟩
    repeat (first
        | with_reducible refine Ok_g (by first | assumption | omega) ?_
        | with_reducible refine Ok_lt ?_
        | with_reducible refine Ok_t (by first | assumption | omega) ?_
        | with_reducible refine Ok_f (by first | assumption | omega) ?_)
    refine Ok_bd (q_clears hn s2 hi) ?_
    rintro r3 M3 ⟨i3, e3, s3⟩
    have m758 : ∀ y : Int, y = 1 - x → Ok (m_L_law_758 n k666 M3 E uu (P : Int) h ((cellsN u : Nat) : Int) (m : Int) (l : Int) (i : Int) y y) (fun r _ => r = 1) := by
      intro y hy
      unfold m_L_law_758
      repeat (first
          | with_reducible refine Ok_g (by first | assumption | omega) ?_
          | with_reducible refine Ok_lt ?_
          | with_reducible refine Ok_t (by first | assumption | omega) ?_
          | with_reducible refine Ok_f (by first | assumption | omega) ?_)
      refine Ok_bd (q_islc hn s3 hi) ?_
      rintro r4 M4 ⟨e4, s4⟩
      subst e4
      have pl := piece_lt (cellsN u) hi
      rw [nBut (by omega) (by omega), but_0 (piece_sub (cellsN u) i)]
      repeat (first
          | with_reducible refine Ok_g (by first | assumption | omega) ?_
          | with_reducible refine Ok_lt ?_
          | with_reducible refine Ok_t (by first | assumption | omega) ?_
          | with_reducible refine Ok_f (by first | assumption | omega) ?_)
      refine Ok_bd (q_way hn s4 hi) ?_
      rintro r5 M5 ⟨e5, s5⟩
      rw [hbit]
      repeat (first
          | with_reducible refine Ok_g (by first | assumption | omega) ?_
          | with_reducible refine Ok_lt ?_
          | with_reducible refine Ok_t (by first | assumption | omega) ?_
          | with_reducible refine Ok_f (by first | assumption | omega) ?_)
      by_cases c : (cellsN u).testBit i = true
      · rw [if_pos c] at e5
        subst e5
        have : x = 1 := by
          rw [cb] at c
          rw [hx, if_pos (of_decide_eq_true c)]
        repeat (first
            | with_reducible refine Ok_g (by first | assumption | omega) ?_
            | with_reducible refine Ok_lt ?_
            | with_reducible refine Ok_t (by first | assumption | omega) ?_
            | with_reducible refine Ok_f (by first | assumption | omega) ?_)
        exact l800 hn s5 hi hm wh h0 (.inl rfl) g
      · rw [if_neg c] at e5
        subst e5
        have : x = 0 := by
          rw [cb] at c
          rw [hx, if_neg (fun z => c (decide_eq_true z))]
        repeat (first
            | with_reducible refine Ok_g (by first | assumption | omega) ?_
            | with_reducible refine Ok_lt ?_
            | with_reducible refine Ok_t (by first | assumption | omega) ?_
            | with_reducible refine Ok_f (by first | assumption | omega) ?_)
        exact l800 hn s5 hi hm wh h0 (.inr rfl) g
    by_cases c : u 0 14 ≤ fogS u (i : Int)
    · have x1 : x = 1 := by rw [hx, if_pos c]
      have : ¬ r3 = 0 := fun z => (e3.mp z) c
      repeat (first
          | with_reducible refine Ok_g (by first | assumption | omega) ?_
          | with_reducible refine Ok_lt ?_
          | with_reducible refine Ok_t (by first | assumption | omega) ?_
          | with_reducible refine Ok_f (by first | assumption | omega) ?_)
      unfold m_L_law_743
      rw [hbit]
      repeat (first
          | with_reducible refine Ok_g (by first | assumption | omega) ?_
          | with_reducible refine Ok_lt ?_
          | with_reducible refine Ok_t (by first | assumption | omega) ?_
          | with_reducible refine Ok_f (by first | assumption | omega) ?_)
      exact m758 0 (by omega)
    · have x0 : x = 0 := by rw [hx, if_neg c]
      have := e3.mpr c
      repeat (first
          | with_reducible refine Ok_g (by first | assumption | omega) ?_
          | with_reducible refine Ok_lt ?_
          | with_reducible refine Ok_t (by first | assumption | omega) ?_
          | with_reducible refine Ok_f (by first | assumption | omega) ?_)
      unfold m_L_law_743
      rw [hbit]
      repeat (first
          | with_reducible refine Ok_g (by first | assumption | omega) ?_
          | with_reducible refine Ok_lt ?_
          | with_reducible refine Ok_t (by first | assumption | omega) ?_
          | with_reducible refine Ok_f (by first | assumption | omega) ?_)
      exact m758 1 (by omega)
  unfold m_L_law_693
  rw [hbit]
  repeat (first
      | with_reducible refine Ok_g (by first | assumption | omega) ?_
      | with_reducible refine Ok_lt ?_
      | with_reducible refine Ok_t (by first | assumption | omega) ?_
      | with_reducible refine Ok_f (by first | assumption | omega) ?_)
  rcases hx01 with c | c
  · subst c
    repeat (first
        | with_reducible refine Ok_g (by first | assumption | omega) ?_
        | with_reducible refine Ok_lt ?_
        | with_reducible refine Ok_t (by first | assumption | omega) ?_
        | with_reducible refine Ok_f (by first | assumption | omega) ?_)
    exact m709
  · subst c
    repeat (first
        | with_reducible refine Ok_g (by first | assumption | omega) ?_
        | with_reducible refine Ok_lt ?_
        | with_reducible refine Ok_t (by first | assumption | omega) ?_
        | with_reducible refine Ok_f (by first | assumption | omega) ?_)
    exact m709
theorem l666 (hn : 2000 ≤ n) (hb : 1 ≤ b) (hB : B (b - 1) 0 13 = h + 11) (hP : u 0 12 = (P : Int)) (hw : w 0 13 = h) (hh : 0 ≤ h ∧ h ≤ 500) : ∀ (k t i : Nat) (M E : Mem) (uu l m : Nat), i + k = 24 → k < t → St M u b B (some w) → Whole (cellsN u) l → (∀ d, d < i → l.testBit d = false) → m ≤ i → hmN (cellsN u) k i l m = hmN (cellsN u) 24 0 (cellsN u) 0 → Ok (m_L_law_666 n t M E uu (P : Int) h ((cellsN u : Nat) : Int) (m : Int) (l : Int) (i : Int)) (fun r _ => r = 1) := by
  intro k
  induction k with
  | zero =>
    intro t i M E uu l m hi ht s wh h0 hm hk
    have cc := st_n s
    cases t with
    | zero => omega
    | succ t =>
      have l0 : l = 0 := bit_eq wh.1 (by decide) (fun d hd => by rw [h0 d (by omega), Nat.zero_testBit])
      subst l0
      have hk : m = hmN (cellsN u) 24 0 (cellsN u) 0 := hk
      rw [m_L_law_666]
      repeat (first
          | with_reducible refine Ok_g (by first | assumption | omega) ?_
          | with_reducible refine Ok_lt ?_
          | with_reducible refine Ok_t (by first | assumption | omega) ?_
          | with_reducible refine Ok_f (by first | assumption | omega) ?_)
      refine Ok_bd (q_isl hn s).1 ?_
      rintro r M1 ⟨er, s1⟩
      rw [← hk] at er
      repeat (first
          | with_reducible refine Ok_g (by first | assumption | omega) ?_
          | with_reducible refine Ok_lt ?_
          | with_reducible refine Ok_t (by first | assumption | omega) ?_
          | with_reducible refine Ok_f (by first | assumption | omega) ?_)
      exact l901 hn P n 0 M1 E uu b B (by omega) (by omega) s1 hb hB hP hw hh
  | succ k ih =>
    intro t i M E uu l m hi ht s wh h0 hm hk
    have cc := st_n s
    have wf := s.1.2.1
    have fb1 := fogS_b wf (i : Int)
    have hl := wh.1
    cases t with
    | zero => omega
    | succ t =>
      rw [m_L_law_666]
      repeat (first
          | with_reducible refine Ok_g (by first | assumption | omega) ?_
          | with_reducible refine Ok_lt ?_
          | with_reducible refine Ok_t (by first | assumption | omega) ?_
          | with_reducible refine Ok_f (by first | assumption | omega) ?_)
      refine Ok_bd (q_cell hn s (c := i) (by omega)).2.1 ?_
      rintro r1 M1 ⟨e1, s1⟩
      refine Ok_be (q_cnt hn s1).2.2.2.1 ?_
      have nxt : ∀ M1 l1 m1, St M1 u b B (some w) → Whole (cellsN u) l1 → (∀ d, d < i + 1 → l1.testBit d = false) → m1 ≤ m + 1 → (∀ k, hmN (cellsN u) (k + 1) i l m = hmN (cellsN u) k (i + 1) l1 m1) → Ok (m_L_law_666 n t M1 E uu (P : Int) h ((cellsN u : Nat) : Int) (m1 : Int) (l1 : Int) ((i : Int) + 1)) (fun r _ => r = 1) := by
        intro M1 l1 m1 s1 w1 g1 g2 g3
        exact ih t (i + 1) M1 E uu l1 m1 (by omega) (by omega) s1 w1 g1 (by omega) (by rw [← g3 k]; exact hk)
      repeat (first
          | with_reducible refine Ok_g (by first | assumption | omega) ?_
          | with_reducible refine Ok_lt ?_
          | with_reducible refine Ok_t (by first | assumption | omega) ?_
          | with_reducible refine Ok_f (by first | assumption | omega) ?_)
      by_cases c : u 0 14 ≤ fogS u (i : Int)
      · repeat (first
            | with_reducible refine Ok_g (by first | assumption | omega) ?_
            | with_reducible refine Ok_lt ?_
            | with_reducible refine Ok_t (by first | assumption | omega) ?_
            | with_reducible refine Ok_f (by first | assumption | omega) ?_)
        exact l693 hn s1 (by omega) (by omega) wh h0 (by rw [if_pos c]) nxt
      · repeat (first
            | with_reducible refine Ok_g (by first | assumption | omega) ?_
            | with_reducible refine Ok_lt ?_
            | with_reducible refine Ok_t (by first | assumption | omega) ?_
            | with_reducible refine Ok_f (by first | assumption | omega) ?_)
        exact l693 hn s1 (by omega) (by omega) wh h0 (by rw [if_neg c]) nxt
end L5
