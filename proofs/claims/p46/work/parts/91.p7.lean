/-! the law from its first call on -/
section L7
variable {n : Nat} {P T : Nat} {h : Int}
theorem ez_ne (E : Mem) {j a : Nat} (i : Nat) (hh : a ≠ j) : rd (ez E j) a i = rd E a i := rd_of (if_neg hh)
theorem ez_at (E : Mem) (j i : Nat) : rd (ez E j) j i = 0 := by
  have e : ez E j j i = 0 := if_pos rfl
  unfold rd
  rw [e]
  rfl
theorem Ok_nwa {E : Mem} {uu j N : Nat} {k : Mem → Nat → Rs} {Q : Int → Mem → Prop} (hu : uu + 1 + N ≤ 500000) (g : Ok (k (ez E j) (uu + 1 + N)) Q) : Ok (nwa E uu j N k) Q := by
  unfold nwa
  rw [if_pos hu]
  exact g
theorem l106 {u : US} {b : Nat} {B : Nat → US} {o : Option US} {k5 : Nat} {uu : Nat} {k35 : Mem → Mem → Nat → Int → Int → Int → Int → Rs} (hn : 2000 ≤ n) (ow : OwnOk u) (hP : u 0 12 = (P : Int)) (hT : u 0 7 = (T : Int)) (h13 : u 0 13 = h + k5) (hh : 0 ≤ h ∧ h ≤ 500) (hk5 : k5 ≤ 11) (hu : uu + 6 ≤ 500000)
    (g : ∀ M E b1 B1, St M (hourS u) b1 B1 o → 1 ≤ b1 → B1 (b1 - 1) = u → Ok (k35 M E (uu + 1 + 5) (P : Int) (T : Int) h ((k5 : Int) + 1)) (fun r _ => r = 1)) :
    ∀ (k t i : Nat) (M E : Mem), i + k = P → k < t → St M u b B o → EA E u T → EB E u i → Ok (m_L_law_106 n k35 t M E uu (P : Int) (T : Int) h (k5 : Int) (i : Int)) (fun r _ => r = 1) := by
  intro k
  induction k with
  | zero =>
    intro t i M E hi ht s ea eb
    have cc := st_n s
    have wf := s.1.2.1
    have hiP : i = P := by omega
    subst hiP
    obtain ⟨f1, f2, f3, f4, f5, f6, f7⟩ := hour_law wf ow
    obtain ⟨v, hv⟩ : ∃ v, hourS u = v := ⟨_, rfl⟩
    rw [hv] at f1 f2 f3 f4 f5 f6 f7 g
    have v12 : v 0 12 = (i : Int) := by rw [f1 0 12 (by decide) (by decide) (by decide), hP]
    have v7 : v 0 7 = (T : Int) := by rw [f1 0 7 (by decide) (by decide) (by decide), hT]
    cases t with
    | zero => omega
    | succ t =>
      rw [m_L_law_106]
      repeat (first
          | with_reducible refine Ok_g (by first | assumption | omega) ?_
          | with_reducible refine Ok_lt ?_
          | with_reducible refine Ok_t (by first | assumption | omega) ?_
          | with_reducible refine Ok_f (by first | assumption | omega) ?_)
      refine Ok_bd (q_then hn s).1 ?_
      rintro r1 M1 ⟨e1, s1⟩
      refine Ok_bd (q_then hn s1).2.1 ?_
      rintro r2 M2 ⟨e2, s2⟩
      refine Ok_bd (q_then hn s2).2.2 ?_
      rintro r3 M3 ⟨e3, s3⟩
      refine Ok_bd (q_hours hn s3 (N := 1) (by decide) (by omega)) ?_
      rintro r4 M4 ⟨e4, b1, B1, s4, g1, g2, _⟩
      have s4 : St M4 (hourS u) b1 B1 o := s4
      have e4 : r4 = manyS (hourS u) := e4
      rw [hv] at s4 e1 e2 e3 e4
      have wv := s4.1.2.1
      have mb := manyS_b wv
      have cb := (cells_N v).2
      obtain ⟨nb1, nb2, nb3⟩ := noN_b wv
      rw [nb1] at e3
      repeat (first
          | with_reducible refine Ok_g (by first | assumption | omega) ?_
          | with_reducible refine Ok_lt ?_
          | with_reducible refine Ok_t (by first | assumption | omega) ?_
          | with_reducible refine Ok_f (by first | assumption | omega) ?_)
      refine Ok_be (q_cnt hn s4).2.2.1 ?_
      repeat (first
          | with_reducible refine Ok_g (by first | assumption | omega) ?_
          | with_reducible refine Ok_lt ?_
          | with_reducible refine Ok_t (by first | assumption | omega) ?_
          | with_reducible refine Ok_f (by first | assumption | omega) ?_)
      refine Ok_bd (q_fog hn s4) ?_
      rintro r5 M5 ⟨e5, s5⟩
      repeat (first
          | with_reducible refine Ok_g (by first | assumption | omega) ?_
          | with_reducible refine Ok_lt ?_
          | with_reducible refine Ok_t (by first | assumption | omega) ?_
          | with_reducible refine Ok_f (by first | assumption | omega) ?_)
      refine Ok_be (q_sight hn s5) ?_
      rw [nb1]
      repeat (first
          | with_reducible refine Ok_g (by first | assumption | omega) ?_
          | with_reducible refine Ok_lt ?_
          | with_reducible refine Ok_t (by first | assumption | omega) ?_
          | with_reducible refine Ok_f (by first | assumption | omega) ?_)
      refine Ok_be (q_cnt hn s5).2.2.2.2.1 ?_
      repeat (first
          | with_reducible refine Ok_g (by first | assumption | omega) ?_
          | with_reducible refine Ok_lt ?_
          | with_reducible refine Ok_t (by first | assumption | omega) ?_
          | with_reducible refine Ok_f (by first | assumption | omega) ?_)
      rw [e3]
      refine Ok_be (e_bitCount (by omega)) ?_
      have mm := many_bits wv
      repeat (first
          | with_reducible refine Ok_g (by first | assumption | omega) ?_
          | with_reducible refine Ok_lt ?_
          | with_reducible refine Ok_t (by first | assumption | omega) ?_
          | with_reducible refine Ok_f (by first | assumption | omega) ?_)
      refine Ok_nwa (by omega) ?_
      refine l245 (b := b1) (B := B1) (o := o) hn v12 v7 wf hT (fun q => ⟨f1 7 q (by decide) (by decide) (by omega), f1 8 q (by decide) (by decide) (by omega), f1 9 q (by decide) (by decide) (by omega)⟩) (fun t => ⟨f1 4 t (by decide) (by decide) (by omega), f1 5 t (by decide) (by decide) (by omega)⟩) (fun t => ?_) (fun q hq => ?_) (fun q hq => (f5 q (by omega)).1) (fun hp n1 n2 n7 => f6 (by omega) n1 n2 n7) (fun M E s => g M E b1 B1 s g1 g2) T n 0 M5 _ (by omega) (by omega) s5 ?_ ?_ ?_
      · rcases f3 t with c | c | ⟨q, c1, c2, c3, c4⟩
        · exact .inl c
        · exact .inr (.inl c)
        · exact .inr (.inr ⟨q, by omega, c2, c3, c4⟩)
      · have := f4 q (by omega)
        rw [show (u 0 7).toNat = T by omega] at this
        exact this
      · intro t ht
        rw [ez_ne E t (by decide), ez_ne E t (by decide)]
        exact ea t ht
      · intro q hq
        rw [ez_ne E q (by decide), ez_ne E q (by decide)]
        exact eb q hq
      · intro q hq
        rw [ez_at]
        rfl
  | succ k ih =>
    intro t i M E hi ht s ea eb
    have cc := st_n s
    have wf := s.1.2.1
    have hpp : (i : Int) < u 0 12 := by omega
    have wp := (wFp wf i).2.2.2
    have gb := goalS_b wf i (u 0 13 + 1)
    cases t with
    | zero => omega
    | succ t =>
      rw [m_L_law_106]
      repeat (first
          | with_reducible refine Ok_g (by first | assumption | omega) ?_
          | with_reducible refine Ok_lt ?_
          | with_reducible refine Ok_t (by first | assumption | omega) ?_
          | with_reducible refine Ok_f (by first | assumption | omega) ?_)
      refine Ok_be (q_person hn s hpp).2.2.1 ?_
      simp only [Int.toNat_natCast]
      repeat (first
          | with_reducible refine Ok_g (by first | assumption | omega) ?_
          | with_reducible refine Ok_lt ?_
          | with_reducible refine Ok_t (by first | assumption | omega) ?_
          | with_reducible refine Ok_f (by first | assumption | omega) ?_)
      refine Ok_wr ?_
      refine Ok_bd (q_goal hn s hpp) ?_
      rintro r M1 ⟨er, s1⟩
      refine Ok_wr ?_
      refine ih t (i + 1) M1 _ (by omega) (by omega) s1 (fun t ht => ?_) (fun q hq => ?_)
      · rw [rd_upne _ _ _ _ _ _ (by omega), rd_upne _ _ _ _ _ _ (by omega), rd_upne _ _ _ _ _ _ (by omega), rd_upne _ _ _ _ _ _ (by omega)]
        exact ea t ht
      · rw [rd_upne _ _ _ 2 _ _ (by omega), rd_up _ _ _ _ _ (by omega), rd_up _ _ _ _ _ (by omega), rd_upne _ _ _ 3 _ _ (by omega)]
        by_cases e : q = i
        · subst e
          rw [if_pos ⟨rfl, rfl⟩, if_pos ⟨rfl, rfl⟩]
          exact ⟨rfl, er⟩
        · rw [if_neg (by omega), if_neg (by omega)]
          exact eb q (by omega)
theorem l67 {u : US} {b : Nat} {B : Nat → US} {o : Option US} {k5 : Nat} {uu : Nat} {k35 : Mem → Mem → Nat → Int → Int → Int → Int → Rs} (hn : 2000 ≤ n) (ow : OwnOk u) (hP : u 0 12 = (P : Int)) (hT : u 0 7 = (T : Int)) (h13 : u 0 13 = h + k5) (hh : 0 ≤ h ∧ h ≤ 500) (hk5 : k5 ≤ 11) (hu : uu + 6 ≤ 500000)
    (g : ∀ M E b1 B1, St M (hourS u) b1 B1 o → 1 ≤ b1 → B1 (b1 - 1) = u → Ok (k35 M E (uu + 1 + 5) (P : Int) (T : Int) h ((k5 : Int) + 1)) (fun r _ => r = 1)) :
    ∀ (k t i : Nat) (M E : Mem), i + k = T → k < t → St M u b B o → EA E u i → Ok (m_L_law_67 n k35 t M E uu (P : Int) (T : Int) h (k5 : Int) (i : Int)) (fun r _ => r = 1) := by
  intro k
  induction k with
  | zero =>
    intro t i M E hi ht s ea
    have cc := st_n s
    have hiT : i = T := by omega
    cases t with
    | zero => omega
    | succ t =>
      rw [m_L_law_67]
      repeat (first
          | with_reducible refine Ok_g (by first | assumption | omega) ?_
          | with_reducible refine Ok_lt ?_
          | with_reducible refine Ok_t (by first | assumption | omega) ?_
          | with_reducible refine Ok_f (by first | assumption | omega) ?_)
      rw [hiT] at ea
      exact l106 hn ow hP hT h13 hh hk5 hu g P n 0 M E (by omega) (by omega) s ea (fun q hq => absurd hq (by omega))
  | succ k ih =>
    intro t i M E hi ht s ea
    have cc := st_n s
    have wf := s.1.2.1
    have hti : (i : Int) < u 0 7 := by omega
    have w6 : -1 ≤ u 6 i ∧ u 6 i ≤ 4 := (wFt wf i).2.2
    have w4 : 0 ≤ u 4 i ∧ u 4 i ≤ 9 := (wFt wf i).1
    cases t with
    | zero => omega
    | succ t =>
      rw [m_L_law_67]
      repeat (first
          | with_reducible refine Ok_g (by first | assumption | omega) ?_
          | with_reducible refine Ok_lt ?_
          | with_reducible refine Ok_t (by first | assumption | omega) ?_
          | with_reducible refine Ok_f (by first | assumption | omega) ?_)
      refine Ok_be (q_thing s hti).2.2 ?_
      obtain ⟨y, hy⟩ : ∃ y, (if u 6 i = -1 then (-9 : Int) else u 6 i) = y := ⟨_, rfl⟩
      have hy32 : I32 y := by
        rw [← hy]
        split
        · decide
        · exact ⟨by omega, by omega⟩
      rw [hy]
      simp only [Int.toNat_natCast]
      repeat (first
          | with_reducible refine Ok_g (by first | assumption | omega) ?_
          | with_reducible refine Ok_lt ?_
          | with_reducible refine Ok_t (by first | assumption | omega) ?_
          | with_reducible refine Ok_f (by first | assumption | omega) ?_)
      refine Ok_wr ?_
      refine Ok_be (q_thing s hti).1 ?_
      refine Ok_wr ?_
      refine ih t (i + 1) M _ (by omega) (by omega) s (fun t ht => ?_)
      have r0 : rd (mup (mup E 0 i y) 1 i (u 4 i)) 0 t = if 0 = 0 ∧ t = i then y else rd E 0 t := by
        rw [rd_upne _ _ _ 0 _ _ (by omega), rd_up _ _ _ _ _ hy32]
      have r1 : rd (mup (mup E 0 i y) 1 i (u 4 i)) 1 t = if 1 = 1 ∧ t = i then u 4 i else rd E 1 t := by
        rw [rd_up _ _ _ _ _ (by omega), rd_upne _ _ _ 1 _ _ (by omega)]
      by_cases e : t = i
      · subst e
        rw [if_pos ⟨rfl, rfl⟩] at r0 r1
        exact ⟨r0.trans hy.symm, r1⟩
      · rw [if_neg (fun z => e z.2)] at r0 r1
        have := ea t (by omega)
        exact ⟨r0.trans this.1, r1.trans this.2⟩
theorem l35 {w : US} (hn : 2000 ≤ n) (hw : w 0 13 = h) (hh : 0 ≤ h ∧ h ≤ 500) : ∀ (k t i : Nat) (M E : Mem) (uu : Nat) (u : US) (b : Nat) (B : Nat → US), i + k = 12 → k < t → St M u b B (some w) → OwnOk u → u 0 12 = (P : Int) → u 0 7 = (T : Int) → u 0 13 = h + i → (1 ≤ i → 1 ≤ b ∧ B (b - 1) 0 13 = h + i - 1) → uu + 36 * k ≤ 500000 → Ok (m_L_law_35 n t M E uu (P : Int) (T : Int) h (i : Int)) (fun r _ => r = 1) := by
  intro k
  induction k with
  | zero =>
    intro t i M E uu u b B hi ht s ow hP hT h13 hb hu
    have hi12 : i = 12 := by omega
    obtain ⟨b1, b2⟩ := hb (by omega)
    have hf := (cells_N u).2
    cases t with
    | zero => omega
    | succ t =>
      rw [m_L_law_35]
      repeat (first
          | with_reducible refine Ok_g (by first | assumption | omega) ?_
          | with_reducible refine Ok_lt ?_
          | with_reducible refine Ok_t (by first | assumption | omega) ?_
          | with_reducible refine Ok_f (by first | assumption | omega) ?_)
      refine Ok_bd (q_fog hn s) ?_
      rintro r M1 ⟨er, s1⟩
      subst er
      exact l666 hn b1 (by omega) hP hw hh 24 n 0 M1 E uu (cellsN u) 0 (by omega) (by omega) s1 (whole_all hf) (fun d hd => absurd hd (by omega)) (by omega) rfl
  | succ k ih =>
    intro t i M E uu u b B hi ht s ow hP hT h13 hb hu
    have wf := s.1.2.1
    have cc := st_n s
    cases t with
    | zero => omega
    | succ t =>
      rw [m_L_law_35]
      repeat (first
          | with_reducible refine Ok_g (by first | assumption | omega) ?_
          | with_reducible refine Ok_lt ?_
          | with_reducible refine Ok_t (by first | assumption | omega) ?_
          | with_reducible refine Ok_f (by first | assumption | omega) ?_)
      refine Ok_nwa (by omega) ?_
      refine Ok_nwa (by omega) ?_
      refine Ok_nwa (by omega) ?_
      refine Ok_nwa (by omega) ?_
      refine l67 (o := some w) hn ow hP hT h13 hh (by omega) (by omega) (fun M2 E2 b1 B1 s2 g1 g2 => ?_) T n 0 M _ (by omega) (by omega) s (fun t ht => absurd ht (by omega))
      obtain ⟨f1, f2, f3, f4, f5, f6, f7⟩ := hour_law wf ow
      refine ih t (i + 1) M2 E2 _ (hourS u) b1 B1 (by omega) (by omega) s2 f7 ?_ ?_ ?_ (fun _ => ⟨g1, ?_⟩) (by omega)
      · rw [f1 0 12 (by decide) (by decide) (by decide), hP]
      · rw [f1 0 7 (by decide) (by decide) (by decide), hT]
      · rw [f2, h13]; omega
      · rw [g2, h13]; omega
theorem l8 {Ls : Nat} {xs : Nat → Int32} (hn : 2000 ≤ n) {M E : Mem} {u : US} {b : Nat} {B : Nat → US} (s : St M u b B none) (h3 : u 0 3 = 0) (h12 : u 0 12 = 0) (h7 : u 0 7 = 0) (h13 : u 0 13 = 0) : Ok (m_L_law_8 Ls xs n M E 10000) (fun r _ => r = 1) := by
  unfold m_L_law_8
  refine Ok_bd (e_coast hn s h3 h12 h7 h13) ?_
  rintro _ M1 ⟨u1, b1, B1, s1, ow, p1, t1, hr⟩
  have cc := st_n s1
  refine Ok_be (q_cnt hn s1).1 ?_
  refine Ok_be (q_cnt hn s1).2.1 ?_
  refine Ok_bd (q_image hn s1) ?_
  rintro r M2 ⟨er, s2⟩
  subst er
  obtain ⟨P, hP⟩ := Int.eq_ofNat_of_zero_le (show 0 ≤ u1 0 12 by omega)
  obtain ⟨T, hT⟩ := Int.eq_ofNat_of_zero_le (show 0 ≤ u1 0 7 by omega)
  rw [hP, hT]
  exact l35 hn rfl (by omega) 12 n 0 M2 E 10000 u1 b1 B1 (by omega) (by omega) s2 ow hP hT (by omega) (fun z => absurd z (by omega)) (by omega)
end L7
theorem wf_M0 : WF 999 (vw M0 0) := by
  intro k i
  rw [vw0_0]
  by_cases c : k = 0 ∧ i = 14
  · obtain ⟨rfl, rfl⟩ := c
    decide
  · rw [if_neg c]
    by_cases d : k = 0 ∧ i = 20
    · obtain ⟨rfl, rfl⟩ := d
      decide
    · rw [if_neg d]
      exact lohi0 k i (by decide)
theorem st_M0 : St M0 (vw M0 0) 0 (fun _ => vw M0 0) none := by
  refine ⟨⟨rfl, wf_M0, ⟨fun k i => ?_, fun s hs => .inl (rd0_126 hs)⟩, ⟨fun j hj => by rw [rd0_131 hj]; omega, fun i j hi hj h => by rw [rd0_131 hi, rd0_131 hj]; omega⟩⟩, ⟨by omega, rd0 (by decide) _, fun j hj => absurd hj (by omega)⟩, fun w hw => nomatch hw⟩
  rw [sv0]
  exact lohi0 k i (by decide)
theorem law_M0 {Ls : Nat} {xs : Nat → Int32} (E : Mem) : Ok (m_L_law_8 Ls xs 2000 M0 E 10000) (fun r _ => r = 1) :=
  l8 (Nat.le_refl _) st_M0 (vw0_0 0 3) (vw0_0 0 12) (vw0_0 0 7) (vw0_0 0 13)
