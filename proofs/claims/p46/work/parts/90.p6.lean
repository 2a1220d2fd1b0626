/-! the law's twelve hours -/
theorem far_law {a c : Int} (ha : 0 ≤ a ∧ a ≤ 23) (hc : 0 ≤ c ∧ c ≤ 23) : abZ (Int.tdiv a 6 - Int.tdiv c 6) + abZ (Int.tmod a 6 - Int.tmod c 6) = farS a c := by
  rw [td ha.1, td hc.1, tm ha.1, tm hc.1]
  rfl
/-- what the law keeps of the state ahead of an hour -/
def EA (E : Mem) (u : US) (i : Nat) : Prop := ∀ t, t < i → rd E 0 t = (if u 6 t = -1 then -9 else u 6 t) ∧ rd E 1 t = u 4 t
def EB (E : Mem) (u : US) (i : Nat) : Prop := ∀ q, q < i → rd E 2 q = u 10 q ∧ rd E 3 q = goalS u q (u 0 13 + 1)
def EC (E : Mem) (u v : US) (i : Nat) : Prop := ∀ q, q < 5 → rd E 4 q = ((cn (fun t => decide (v 6 t = (q : Int) ∧ u 6 t ≠ (q : Int))) i 0 : Nat) : Int)
section L6
variable {n : Nat} {u v : US} {b : Nat} {B : Nat → US} {o : Option US} {P T : Nat} {h k5 : Int} {E : Mem} {uu : Nat}
theorem l562 {k347 : Mem → Mem → Nat → Int → Int → Int → Int → Int → Rs} {p : Nat} (hn : 2000 ≤ n) (hP : v 0 12 = (P : Int)) (hT : v 0 7 = (T : Int)) (hp : p < P) (hE : ∀ t, t < T → rd E 1 t = v 4 t)
    (g : ∀ M, St M v b B o → Ok (k347 M E uu (P : Int) (T : Int) h k5 ((p : Int) + 1)) (fun r _ => r = 1)) : ∀ (k t i : Nat) (M : Mem) (x : Int), i + k = T → k < t → St M v b B o → x = frm (fun t s => if v 6 t = (p : Int) then s + v 4 t else s) i 0 0 → Ok (m_L_law_562 n k347 t M E uu (P : Int) (T : Int) h k5 (p : Int) x (i : Int)) (fun r _ => r = 1) := by
  intro k
  induction k with
  | zero =>
    intro t i M x hi ht s hx
    have cc := st_n s
    have wf := s.1.2.1
    have wb := worthsS_b wf (p : Int)
    have ex : x = worthsS v (p : Int) := by
      rw [hx]
      unfold worthsS
      rw [show (v 0 7).toNat = i by omega]
    have wp := (wFp wf p).2.2.2
    have hpp : (p : Int) < v 0 12 := by omega
    cases t with
    | zero => omega
    | succ t =>
      rw [m_L_law_562]
      repeat (first
          | with_reducible refine Ok_g (by first | assumption | omega) ?_
          | with_reducible refine Ok_lt ?_
          | with_reducible refine Ok_t (by first | assumption | omega) ?_
          | with_reducible refine Ok_f (by first | assumption | omega) ?_)
      refine Ok_be (q_person hn s hpp).2.2.2.2.2 ?_
      repeat (first
          | with_reducible refine Ok_g (by first | assumption | omega) ?_
          | with_reducible refine Ok_lt ?_
          | with_reducible refine Ok_t (by first | assumption | omega) ?_
          | with_reducible refine Ok_f (by first | assumption | omega) ?_)
      refine Ok_be (q_person hn s hpp).2.2.1 ?_
      obtain ⟨c, ec⟩ := Int.eq_ofNat_of_zero_le wp.1
      rw [ec]
      refine Ok_bd (q_cell hn s (c := c) (by omega)).2.2 ?_
      rintro r M1 ⟨er, s1⟩
      have eb := at_bit v (p := p) (P := (v 0 12).toNat) (by omega) (by omega) (c : Int) ec
      rw [← er] at eb
      rw [eb]
      repeat (first
          | with_reducible refine Ok_g (by first | assumption | omega) ?_
          | with_reducible refine Ok_lt ?_
          | with_reducible refine Ok_t (by first | assumption | omega) ?_
          | with_reducible refine Ok_f (by first | assumption | omega) ?_)
      exact g M1 s1
  | succ k ih =>
    intro t i M x hi ht s hx
    have cc := st_n s
    have wf := s.1.2.1
    have wb := worthst_b wf (p : Int) i
    rw [← hx] at wb
    have w6 := wf 6 i
    have w6 : -1 ≤ v 6 i ∧ v 6 i ≤ 4 := (wFt wf i).2.2
    have w4 : 0 ≤ v 4 i ∧ v 4 i ≤ 9 := (wFt wf i).1
    have hti : (i : Int) < v 0 7 := by omega
    have sn := frm_snoc (fun t s => if v 6 t = (p : Int) then s + v 4 t else s) i 0 (0 : Int)
    rw [← hx, Nat.zero_add] at sn
    have sn : frm (fun t s => if v 6 t = (p : Int) then s + v 4 t else s) (i + 1) 0 (0 : Int) = (if v 6 i = (p : Int) then x + v 4 i else x) := sn
    cases t with
    | zero => omega
    | succ t =>
      rw [m_L_law_562]
      repeat (first
          | with_reducible refine Ok_g (by first | assumption | omega) ?_
          | with_reducible refine Ok_lt ?_
          | with_reducible refine Ok_t (by first | assumption | omega) ?_
          | with_reducible refine Ok_f (by first | assumption | omega) ?_)
      refine Ok_be (q_thing s hti).2.2 ?_
      have nxt : ∀ y : Int, x + y = frm (fun t s => if v 6 t = (p : Int) then s + v 4 t else s) (i + 1) 0 (0 : Int) → Ok (m_L_law_591 n (m_L_law_562 n k347 t) M E uu (P : Int) (T : Int) h k5 (p : Int) (i : Int) y x) (fun r _ => r = 1) := by
        intro y hy
        unfold m_L_law_591
        exact ih t (i + 1) M (x + y) (by omega) (by omega) s hy
      obtain ⟨z, hz⟩ : ∃ z, (if v 6 i = -1 then (-9 : Int) else v 6 i) = z := ⟨_, rfl⟩
      rw [hz]
      by_cases c : v 6 i = (p : Int)
      · rw [if_neg (by omega)] at hz
        have e1 := hE i (by omega)
        simp only [Int.toNat_natCast]
        repeat (first
            | with_reducible refine Ok_g (by first | assumption | omega) ?_
            | with_reducible refine Ok_lt ?_
            | with_reducible refine Ok_t (by first | assumption | omega) ?_
            | with_reducible refine Ok_f (by first | assumption | omega) ?_)
        refine nxt _ ?_
        rw [sn, if_pos c, e1]
      · have : ¬ z = (p : Int) := by
          rw [← hz]
          split <;> omega
        have : I32 z := by
          rw [← hz]
          split
          · decide
          · exact ⟨by omega, by omega⟩
        repeat (first
            | with_reducible refine Ok_g (by first | assumption | omega) ?_
            | with_reducible refine Ok_lt ?_
            | with_reducible refine Ok_t (by first | assumption | omega) ?_
            | with_reducible refine Ok_f (by first | assumption | omega) ?_)
        refine nxt _ ?_
        rw [sn, if_neg c]
        omega
/-- the checks of one person -/
theorem l470 {k347 : Mem → Mem → Nat → Int → Int → Int → Int → Int → Rs} {p : Nat} {M : Mem} (hn : 2000 ≤ n) (s : St M v b B o) (hP : v 0 12 = (P : Int)) (hT : v 0 7 = (T : Int)) (hp : p < P) (hE : ∀ t, t < T → rd E 1 t = v 4 t) (hEB : EB E u P) (wu : WF 999 u) (he : ∀ q, v 7 q = u 7 q ∧ v 8 q = u 8 q)
    (h0 : p = 0 → u 7 0 ≠ 1 → u 7 0 ≠ 2 → u 7 0 ≠ 7 → farS (v 10 0) (u 10 0) = (if paceS (u 7 0) (u 8 0) < farS (goalS u 0 (u 0 13 + 1)) (u 10 0) then paceS (u 7 0) (u 8 0) else farS (goalS u 0 (u 0 13 + 1)) (u 10 0)))
    (g : ∀ M, St M v b B o → Ok (k347 M E uu (P : Int) (T : Int) h k5 ((p : Int) + 1)) (fun r _ => r = 1)) :
    Ok (m_L_law_470 n k347 M E uu (P : Int) (T : Int) h k5 (p : Int) (farS (v 10 p) (u 10 p)) (u 7 p)) (fun r _ => r = 1) := by
  have wf := s.1.2.1
  have cc := st_n s
  have last : ∀ M, St M v b B o → Ok (m_L_law_556 n k347 M E uu (P : Int) (T : Int) h k5 (p : Int)) (fun r _ => r = 1) := by
    intro M s
    unfold m_L_law_556
    exact l562 hn hP hT hp hE g T n 0 M 0 (by omega) (by omega) s rfl
  have wp := wFp wu p
  have wv := (wFp wf p).2.2.2
  have gb := goalS_b wu p (u 0 13 + 1)
  have fb := farS_b wv wp.2.2.2
  have fb2 := farS_b gb wp.2.2.2
  obtain ⟨e2, e3⟩ := hEB p hp
  unfold m_L_law_470
  simp only [Int.toNat_natCast]
  rw [e2, e3]
  repeat (first
      | with_reducible refine Ok_g (by first | assumption | omega) ?_
      | with_reducible refine Ok_lt ?_
      | with_reducible refine Ok_t (by first | assumption | omega) ?_
      | with_reducible refine Ok_f (by first | assumption | omega) ?_)
  by_cases c0 : p = 0
  · subst c0
    repeat (first
        | with_reducible refine Ok_g (by first | assumption | omega) ?_
        | with_reducible refine Ok_lt ?_
        | with_reducible refine Ok_t (by first | assumption | omega) ?_
        | with_reducible refine Ok_f (by first | assumption | omega) ?_)
    by_cases c7 : u 7 0 = 7
    · repeat (first
          | with_reducible refine Ok_g (by first | assumption | omega) ?_
          | with_reducible refine Ok_lt ?_
          | with_reducible refine Ok_t (by first | assumption | omega) ?_
          | with_reducible refine Ok_f (by first | assumption | omega) ?_)
      exact last M s
    repeat (first
        | with_reducible refine Ok_g (by first | assumption | omega) ?_
        | with_reducible refine Ok_lt ?_
        | with_reducible refine Ok_t (by first | assumption | omega) ?_
        | with_reducible refine Ok_f (by first | assumption | omega) ?_)
    have t1 : I32 (Int.tdiv (goalS u 0 (u 0 13 + 1)) 6 - Int.tdiv (u 10 0) 6) := by
      rw [td gb.1, td wp.2.2.2.1]; omega
    have t2 : I32 (Int.tmod (goalS u 0 (u 0 13 + 1)) 6 - Int.tmod (u 10 0) 6) := by
      rw [tm gb.1, tm wp.2.2.2.1]; omega
    repeat (first
        | with_reducible refine Ok_g (by first | assumption | omega) ?_
        | with_reducible refine Ok_lt ?_
        | with_reducible refine Ok_t (by first | assumption | omega) ?_
        | with_reducible refine Ok_f (by first | assumption | omega) ?_)
    rw [far_law gb wp.2.2.2]
    by_cases c1 : u 7 0 = 1
    · repeat (first
          | with_reducible refine Ok_g (by first | assumption | omega) ?_
          | with_reducible refine Ok_lt ?_
          | with_reducible refine Ok_t (by first | assumption | omega) ?_
          | with_reducible refine Ok_f (by first | assumption | omega) ?_)
      exact last M s
    by_cases c2 : u 7 0 = 2
    · repeat (first
          | with_reducible refine Ok_g (by first | assumption | omega) ?_
          | with_reducible refine Ok_lt ?_
          | with_reducible refine Ok_t (by first | assumption | omega) ?_
          | with_reducible refine Ok_f (by first | assumption | omega) ?_)
      exact last M s
    repeat (first
        | with_reducible refine Ok_g (by first | assumption | omega) ?_
        | with_reducible refine Ok_lt ?_
        | with_reducible refine Ok_t (by first | assumption | omega) ?_
        | with_reducible refine Ok_f (by first | assumption | omega) ?_)
    have hp0 : ((0 : Nat) : Int) < v 0 12 := by omega
    refine Ok_be (q_person hn s hp0).2.2.2.1 ?_
    rw [(he 0).1, (he 0).2]
    have pb := paceS_b (k := u 7 0) wp.2.1
    have hh := h0 rfl c1 c2 c7
    have mm : farS (v 10 0) (u 10 0) = mnZ (paceS (u 7 0) (u 8 0)) (farS (goalS u 0 (u 0 13 + 1)) (u 10 0)) := hh
    repeat (first
        | with_reducible refine Ok_g (by first | assumption | omega) ?_
        | with_reducible refine Ok_lt ?_
        | with_reducible refine Ok_t (by first | assumption | omega) ?_
        | with_reducible refine Ok_f (by first | assumption | omega) ?_)
    exact last M s
  · repeat (first
        | with_reducible refine Ok_g (by first | assumption | omega) ?_
        | with_reducible refine Ok_lt ?_
        | with_reducible refine Ok_t (by first | assumption | omega) ?_
        | with_reducible refine Ok_f (by first | assumption | omega) ?_)
    exact last M s
theorem l347 {k35 : Mem → Mem → Nat → Int → Int → Int → Int → Rs} (hn : 2000 ≤ n) (hP : v 0 12 = (P : Int)) (hT : v 0 7 = (T : Int)) (hE : ∀ t, t < T → rd E 1 t = v 4 t) (hEB : EB E u P) (hEC : EC E u v T) (wu : WF 999 u) (hu7 : u 0 7 = (T : Int)) (he : ∀ q, v 7 q = u 7 q ∧ v 8 q = u 8 q ∧ v 9 q = u 9 q)
    (hg : ∀ q : Nat, q < P → cn (fun t => decide (v 6 t = (q : Int) ∧ u 6 t ≠ (q : Int))) T 0 ≤ (grabsS (u 7 q) (u 8 q)).toNat)
    (hf : ∀ q : Nat, q < P → farS (v 10 q) (u 10 q) ≤ paceS (u 7 q) (u 8 q))
    (h0 : 0 < P → u 7 0 ≠ 1 → u 7 0 ≠ 2 → u 7 0 ≠ 7 → farS (v 10 0) (u 10 0) = (if paceS (u 7 0) (u 8 0) < farS (goalS u 0 (u 0 13 + 1)) (u 10 0) then paceS (u 7 0) (u 8 0) else farS (goalS u 0 (u 0 13 + 1)) (u 10 0)))
    (g : ∀ M, St M v b B o → Ok (k35 M E uu (P : Int) (T : Int) h (k5 + 1)) (fun r _ => r = 1)) : ∀ (k t i : Nat) (M : Mem), i + k = P → k < t → St M v b B o → Ok (m_L_law_347 n k35 t M E uu (P : Int) (T : Int) h k5 (i : Int)) (fun r _ => r = 1) := by
  intro k
  induction k with
  | zero =>
    intro t i M hi ht s
    have cc := st_n s
    cases t with
    | zero => omega
    | succ t =>
      rw [m_L_law_347]
      repeat (first
          | with_reducible refine Ok_g (by first | assumption | omega) ?_
          | with_reducible refine Ok_lt ?_
          | with_reducible refine Ok_t (by first | assumption | omega) ?_
          | with_reducible refine Ok_f (by first | assumption | omega) ?_)
      exact g M s
  | succ k ih =>
    intro t i M hi ht s
    have cc := st_n s
    have wf := s.1.2.1
    have wp := wFp wu i
    have wv := (wFp wf i).2.2.2
    have hpp : (i : Int) < v 0 12 := by omega
    have fb := farS_b wv wp.2.2.2
    obtain ⟨e7, e8, e9⟩ := he i
    obtain ⟨e2, e3⟩ := hEB i (by omega)
    have e4 := hEC i (by omega)
    have hgi := hg i (by omega)
    have hfi := hf i (by omega)
    have gr := grabsS_b (k := u 7 i) wp.2.1
    have pb := paceS_b (k := u 7 i) wp.2.1
    cases t with
    | zero => omega
    | succ t =>
      rw [m_L_law_347]
      repeat (first
          | with_reducible refine Ok_g (by first | assumption | omega) ?_
          | with_reducible refine Ok_lt ?_
          | with_reducible refine Ok_t (by first | assumption | omega) ?_
          | with_reducible refine Ok_f (by first | assumption | omega) ?_)
      refine Ok_be (q_person hn s hpp).2.2.1 ?_
      simp only [Int.toNat_natCast]
      rw [e2]
      have t1 : I32 (Int.tdiv (v 10 i) 6 - Int.tdiv (u 10 i) 6) := by
        rw [td wv.1, td wp.2.2.2.1]; omega
      have t2 : I32 (Int.tmod (v 10 i) 6 - Int.tmod (u 10 i) 6) := by
        rw [tm wv.1, tm wp.2.2.2.1]; omega
      repeat (first
          | with_reducible refine Ok_g (by first | assumption | omega) ?_
          | with_reducible refine Ok_lt ?_
          | with_reducible refine Ok_t (by first | assumption | omega) ?_
          | with_reducible refine Ok_f (by first | assumption | omega) ?_)
      refine Ok_be (q_person hn s hpp).2.2.1 ?_
      repeat (first
          | with_reducible refine Ok_g (by first | assumption | omega) ?_
          | with_reducible refine Ok_lt ?_
          | with_reducible refine Ok_t (by first | assumption | omega) ?_
          | with_reducible refine Ok_f (by first | assumption | omega) ?_)
      rw [far_law wv wp.2.2.2]
      refine Ok_be (q_person hn s hpp).1 ?_
      refine Ok_be (q_person hn s hpp).2.2.2.2.1 ?_
      rw [e7, e8]
      repeat (first
          | with_reducible refine Ok_g (by first | assumption | omega) ?_
          | with_reducible refine Ok_lt ?_
          | with_reducible refine Ok_t (by first | assumption | omega) ?_
          | with_reducible refine Ok_f (by first | assumption | omega) ?_)
      refine Ok_be (q_person hn s hpp).2.2.2.1 ?_
      rw [e7, e8]
      repeat (first
          | with_reducible refine Ok_g (by first | assumption | omega) ?_
          | with_reducible refine Ok_lt ?_
          | with_reducible refine Ok_t (by first | assumption | omega) ?_
          | with_reducible refine Ok_f (by first | assumption | omega) ?_)
      have nxt : ∀ M, St M v b B o → Ok ((m_L_law_347 n k35 t) M E uu (P : Int) (T : Int) h k5 ((i : Int) + 1)) (fun r _ => r = 1) := fun M s => ih t (i + 1) M (by omega) (by omega) s
      have m470 : ∀ M, St M v b B o → Ok (m_L_law_470 n (m_L_law_347 n k35 t) M E uu (P : Int) (T : Int) h k5 (i : Int) (farS (v 10 i) (u 10 i)) (u 7 i)) (fun r _ => r = 1) := fun M s => l470 hn s hP hT (by omega) hE hEB wu (fun q => ⟨(he q).1, (he q).2.1⟩) (fun z => h0 (by omega)) nxt
      have m453 : goalS u i (u 0 13 + 1) = u 9 i → Ok (m_L_law_453 n (m_L_law_347 n k35 t) M E uu (P : Int) (T : Int) h k5 (i : Int) (farS (v 10 i) (u 10 i)) (u 7 i)) (fun r _ => r = 1) := by
        intro hgl
        unfold m_L_law_453
        repeat (first
            | with_reducible refine Ok_g (by first | assumption | omega) ?_
            | with_reducible refine Ok_lt ?_
            | with_reducible refine Ok_t (by first | assumption | omega) ?_
            | with_reducible refine Ok_f (by first | assumption | omega) ?_)
        refine Ok_be (q_person hn s hpp).2.1 ?_
        rw [e9]
        simp only [Int.toNat_natCast]
        have e39 := e3.trans hgl
        repeat (first
            | with_reducible refine Ok_g (by first | assumption | omega) ?_
            | with_reducible refine Ok_lt ?_
            | with_reducible refine Ok_t (by first | assumption | omega) ?_
            | with_reducible refine Ok_f (by first | assumption | omega) ?_)
        exact m470 M s
      have gl : u 7 i = 0 ∨ u 7 i = 3 ∨ u 7 i = 4 → goalS u i (u 0 13 + 1) = u 9 i := by
        intro c
        unfold goalS
        rw [if_neg (by omega), if_neg (by omega), if_neg (by omega), if_neg (by omega), if_neg (by omega)]
      by_cases c0 : u 7 i = 0
      · repeat (first
            | with_reducible refine Ok_g (by first | assumption | omega) ?_
            | with_reducible refine Ok_lt ?_
            | with_reducible refine Ok_t (by first | assumption | omega) ?_
            | with_reducible refine Ok_f (by first | assumption | omega) ?_)
        exact m453 (gl (.inl c0))
      repeat (first
          | with_reducible refine Ok_g (by first | assumption | omega) ?_
          | with_reducible refine Ok_lt ?_
          | with_reducible refine Ok_t (by first | assumption | omega) ?_
          | with_reducible refine Ok_f (by first | assumption | omega) ?_)
      by_cases c3 : u 7 i = 3
      · repeat (first
            | with_reducible refine Ok_g (by first | assumption | omega) ?_
            | with_reducible refine Ok_lt ?_
            | with_reducible refine Ok_t (by first | assumption | omega) ?_
            | with_reducible refine Ok_f (by first | assumption | omega) ?_)
        exact m453 (gl (.inr (.inl c3)))
      repeat (first
          | with_reducible refine Ok_g (by first | assumption | omega) ?_
          | with_reducible refine Ok_lt ?_
          | with_reducible refine Ok_t (by first | assumption | omega) ?_
          | with_reducible refine Ok_f (by first | assumption | omega) ?_)
      by_cases c4 : u 7 i = 4
      · repeat (first
            | with_reducible refine Ok_g (by first | assumption | omega) ?_
            | with_reducible refine Ok_lt ?_
            | with_reducible refine Ok_t (by first | assumption | omega) ?_
            | with_reducible refine Ok_f (by first | assumption | omega) ?_)
        exact m453 (gl (.inr (.inr c4)))
      repeat (first
          | with_reducible refine Ok_g (by first | assumption | omega) ?_
          | with_reducible refine Ok_lt ?_
          | with_reducible refine Ok_t (by first | assumption | omega) ?_
          | with_reducible refine Ok_f (by first | assumption | omega) ?_)
      exact m470 M s
theorem l245 {k35 : Mem → Mem → Nat → Int → Int → Int → Int → Rs} (hn : 2000 ≤ n) (hP : v 0 12 = (P : Int)) (hT : v 0 7 = (T : Int)) (wu : WF 999 u) (hu7 : u 0 7 = (T : Int)) (he : ∀ q, v 7 q = u 7 q ∧ v 8 q = u 8 q ∧ v 9 q = u 9 q) (he5 : ∀ t, v 4 t = u 4 t ∧ v 5 t = u 5 t)
    (ho : ∀ t, v 6 t = u 6 t ∨ v 6 t = -1 ∨ ∃ q : Nat, q < P ∧ v 6 t = (q : Int) ∧ u 5 t = v 10 q ∧ 1 ≤ grabsS (u 7 q) (u 8 q))
    (hg : ∀ q : Nat, q < P → cn (fun t => decide (v 6 t = (q : Int) ∧ u 6 t ≠ (q : Int))) T 0 ≤ (grabsS (u 7 q) (u 8 q)).toNat)
    (hf : ∀ q : Nat, q < P → farS (v 10 q) (u 10 q) ≤ paceS (u 7 q) (u 8 q))
    (h0 : 0 < P → u 7 0 ≠ 1 → u 7 0 ≠ 2 → u 7 0 ≠ 7 → farS (v 10 0) (u 10 0) = (if paceS (u 7 0) (u 8 0) < farS (goalS u 0 (u 0 13 + 1)) (u 10 0) then paceS (u 7 0) (u 8 0) else farS (goalS u 0 (u 0 13 + 1)) (u 10 0)))
    (g : ∀ M E, St M v b B o → Ok (k35 M E uu (P : Int) (T : Int) h (k5 + 1)) (fun r _ => r = 1)) : ∀ (k t i : Nat) (M E : Mem), i + k = T → k < t → St M v b B o → EA E u T → EB E u P → EC E u v i → Ok (m_L_law_245 n k35 t M E uu (P : Int) (T : Int) h k5 (i : Int)) (fun r _ => r = 1) := by
  intro k
  induction k with
  | zero =>
    intro t i M E hi ht s ea eb ec
    have cc := st_n s
    have hiT : i = T := by omega
    cases t with
    | zero => omega
    | succ t =>
      rw [m_L_law_245]
      repeat (first
          | with_reducible refine Ok_g (by first | assumption | omega) ?_
          | with_reducible refine Ok_lt ?_
          | with_reducible refine Ok_t (by first | assumption | omega) ?_
          | with_reducible refine Ok_f (by first | assumption | omega) ?_)
      rw [hiT] at ec
      exact l347 hn hP hT (fun t ht => by rw [(ea t ht).2, (he5 t).1]) eb ec wu hu7 he hg hf h0 (fun M s => g M E s) P n 0 M (by omega) (by omega) s
  | succ k ih =>
    intro t i M E hi ht s ea eb ec
    have cc := st_n s
    have wf := s.1.2.1
    have hti : (i : Int) < v 0 7 := by omega
    have w6 : -1 ≤ v 6 i ∧ v 6 i ≤ 4 := (wFt wf i).2.2
    have w5 : 0 ≤ v 5 i ∧ v 5 i ≤ 23 := (wFt wf i).2.1
    have w4 : 0 ≤ v 4 i ∧ v 4 i ≤ 9 := (wFt wf i).1
    have y6 : -1 ≤ u 6 i ∧ u 6 i ≤ 4 := (wFt wu i).2.2
    obtain ⟨ea0, ea1⟩ := ea i (by omega)
    have sn : ∀ q : Nat, cn (fun t => decide (v 6 t = (q : Int) ∧ u 6 t ≠ (q : Int))) (i + 1) 0 = cn (fun t => decide (v 6 t = (q : Int) ∧ u 6 t ≠ (q : Int))) i 0 + (if v 6 i = (q : Int) ∧ u 6 i ≠ (q : Int) then 1 else 0) := by
      intro q
      rw [cn_snoc, Nat.zero_add]
      by_cases c : v 6 i = (q : Int) ∧ u 6 i ≠ (q : Int)
      · rw [if_pos c, if_pos (decide_eq_true c)]
      · rw [if_neg c, if_neg (fun z => c (of_decide_eq_true z))]
    cases t with
    | zero => omega
    | succ t =>
      rw [m_L_law_245]
      repeat (first
          | with_reducible refine Ok_g (by first | assumption | omega) ?_
          | with_reducible refine Ok_lt ?_
          | with_reducible refine Ok_t (by first | assumption | omega) ?_
          | with_reducible refine Ok_f (by first | assumption | omega) ?_)
      refine Ok_be (q_thing s hti).2.2 ?_
      refine Ok_be (q_thing s hti).2.1 ?_
      refine Ok_be (q_thing s hti).1 ?_
      simp only [Int.toNat_natCast]
      have h45 := (he5 i).1
      have w4u : 0 ≤ u 4 i ∧ u 4 i ≤ 9 := (wFt wu i).1
      have same : (∀ q : Nat, q < 5 → ¬ (v 6 i = (q : Int) ∧ u 6 i ≠ (q : Int))) → Ok ((m_L_law_245 n k35 t) M E uu (P : Int) (T : Int) h k5 ((i : Int) + 1)) (fun r _ => r = 1) := by
        intro hno
        refine ih t (i + 1) M E (by omega) (by omega) s ea eb (fun q hq => ?_)
        rw [sn q, if_neg (hno q hq), Nat.add_zero]
        exact ec q hq
      obtain ⟨z, hz⟩ : ∃ z, (if v 6 i = -1 then (-9 : Int) else v 6 i) = z := ⟨_, rfl⟩
      obtain ⟨y, hy⟩ : ∃ y, (if u 6 i = -1 then (-9 : Int) else u 6 i) = y := ⟨_, rfl⟩
      rw [hz]
      rw [hy] at ea0
      by_cases c1 : v 6 i = -1
      · rw [if_pos c1] at hz
        repeat (first
            | with_reducible refine Ok_g (by first | assumption | omega) ?_
            | with_reducible refine Ok_lt ?_
            | with_reducible refine Ok_t (by first | assumption | omega) ?_
            | with_reducible refine Ok_f (by first | assumption | omega) ?_)
        exact same (fun q _ z => by omega)
      · rw [if_neg c1] at hz
        repeat (first
            | with_reducible refine Ok_g (by first | assumption | omega) ?_
            | with_reducible refine Ok_lt ?_
            | with_reducible refine Ok_t (by first | assumption | omega) ?_
            | with_reducible refine Ok_f (by first | assumption | omega) ?_)
        by_cases c2 : u 6 i = v 6 i
        · rw [if_neg (by omega)] at hy
          repeat (first
              | with_reducible refine Ok_g (by first | assumption | omega) ?_
              | with_reducible refine Ok_lt ?_
              | with_reducible refine Ok_t (by first | assumption | omega) ?_
              | with_reducible refine Ok_f (by first | assumption | omega) ?_)
          exact same (fun q _ z => by omega)
        · have hzy : ¬ z = y := by
            rw [← hz, ← hy]
            split <;> omega
          repeat (first
              | with_reducible refine Ok_g (by first | assumption | omega) ?_
              | with_reducible refine Ok_lt ?_
              | with_reducible refine Ok_t (by first | assumption | omega) ?_
              | with_reducible refine Ok_f (by first | assumption | omega) ?_)
          rcases ho i with d | d | ⟨q, d1, d2, d3, d4⟩
          · exact absurd d.symm c2
          · exact absurd d c1
          · have ez : z = (q : Int) := by omega
            subst ez
            have hq5 : q < 5 := by omega
            have hqq : (q : Int) < v 0 12 := by omega
            have ec4 := ec q hq5
            have cle := cn_le (fun t => decide (v 6 t = (q : Int) ∧ u 6 t ≠ (q : Int))) i 0
            simp only [Int.toNat_natCast]
            refine Ok_wr ?_
            refine Ok_be (q_person hn s hqq).2.2.1 ?_
            have wv := (wFp wf q).2.2.2
            rw [← d3, (he5 i).2]
            have w5u : 0 ≤ u 5 i ∧ u 5 i ≤ 23 := (wFt wu i).2.1
            have gr := grabsS_b (k := u 7 q) (wFp wu q).2.1
            repeat (first
                | with_reducible refine Ok_g (by first | assumption | omega) ?_
                | with_reducible refine Ok_lt ?_
                | with_reducible refine Ok_t (by first | assumption | omega) ?_
                | with_reducible refine Ok_f (by first | assumption | omega) ?_)
            refine Ok_be (q_person hn s hqq).2.2.2.2.1 ?_
            rw [(he q).1, (he q).2.1]
            repeat (first
                | with_reducible refine Ok_g (by first | assumption | omega) ?_
                | with_reducible refine Ok_lt ?_
                | with_reducible refine Ok_t (by first | assumption | omega) ?_
                | with_reducible refine Ok_f (by first | assumption | omega) ?_)
            refine ih t (i + 1) M _ (by omega) (by omega) s (fun t ht => ?_) (fun q' hq' => ?_) (fun q' hq' => ?_)
            · rw [rd_upne _ _ _ _ _ _ (by omega), rd_upne _ _ _ _ _ _ (by omega)]
              exact ea t ht
            · rw [rd_upne _ _ _ _ _ _ (by omega), rd_upne _ _ _ _ _ _ (by omega)]
              exact eb q' hq'
            · rw [sn q', rd_up _ _ _ _ _ (by omega)]
              by_cases e : q' = q
              · subst e
                rw [if_pos ⟨rfl, rfl⟩, if_pos ⟨by omega, by omega⟩, ec4]
                omega
              · rw [if_neg (by omega), if_neg (by omega), Nat.add_zero]
                exact ec q' hq'
end L6
