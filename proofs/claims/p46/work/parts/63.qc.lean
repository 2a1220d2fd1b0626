/-! pieces of cells -/
def nb (s d : Nat) : Bool := (decide (6 ≤ d) && s.testBit (d - 6)) || s.testBit (d + 6) || (decide (1 ≤ d ∧ (d - 1) % 6 ≠ 5) && s.testBit (d - 1)) || (decide ((d + 1) % 6 ≠ 0) && s.testBit (d + 1))
def spN (s f : Nat) : Nat := bs (fun d => f.testBit d && (s.testBit d || nb s d)) 24 0
theorem sp_bit (s f d : Nat) : (spN s f).testBit d = (decide (d < 24) && (f.testBit d && (s.testBit d || nb s d))) := by
  unfold spN
  rw [bs_bit, Nat.zero_add]
theorem sp_lt (s f : Nat) : spN s f < 16777216 := bs_lt _ 24 0
theorem hi_bit {m i : Nat} (h : m < 16777216) (hi : 24 ≤ i) : m.testBit i = false := Nat.testBit_lt_two_pow (Nat.lt_of_lt_of_le h (by
  calc 16777216 = 2 ^ 24 := by decide
    _ ≤ 2 ^ i := Nat.pow_le_pow_right (by decide) hi))
theorem bit_eq {a b : Nat} (ha : a < 16777216) (hb : b < 16777216) (h : ∀ i, i < 24 → a.testBit i = b.testBit i) : a = b := by
  apply Nat.eq_of_testBit_eq
  intro i
  by_cases c : i < 24
  · exact h i c
  · rw [hi_bit ha (by omega), hi_bit hb (by omega)]
theorem last_bit : ∀ j, j < 24 → Nat.testBit 8521760 j = decide (j % 6 = 5) := by decide
theorem first_bit : ∀ j, j < 24 → Nat.testBit 266305 j = decide (j % 6 = 0) := by decide
theorem shl_lt {m k : Nat} (h : m < 16777216) (hk : k ≤ 6) : m <<< k < 2147483648 := by
  rw [Nat.shiftLeft_eq]
  have : 2 ^ k ≤ 64 := by
    calc 2 ^ k ≤ 2 ^ 6 := Nat.pow_le_pow_right (by decide) hk
      _ = 64 := by decide
  calc m * 2 ^ k ≤ m * 64 := Nat.mul_le_mul_left m this
    _ < 2147483648 := by omega
theorem but_bit (m k i : Nat) : (m ^^^ (m &&& k)).testBit i = (m.testBit i && !k.testBit i) := by
  rw [Nat.testBit_xor, Nat.testBit_and]
  cases m.testBit i <;> cases k.testBit i <;> rfl
theorem but_lt24 {w x : Nat} (h : w < 16777216) : w ^^^ (w &&& x) < 16777216 := Nat.xor_lt_two_pow (n := 24) h (Nat.lt_of_le_of_lt Nat.and_le_left h)
theorem e_spread_k {s f : Nat} (hs : s < 16777216) (hf : f < 16777216) : (s ||| s <<< 6 ||| s >>> 6 ||| (s ^^^ (s &&& 8521760)) <<< 1 ||| (s ^^^ (s &&& 266305)) >>> 1) &&& f = spN s f := by
  refine bit_eq (Nat.lt_of_le_of_lt Nat.and_le_right hf) (sp_lt s f) (fun d hd => ?_)
  rw [sp_bit, Nat.testBit_and, Nat.testBit_or, Nat.testBit_or, Nat.testBit_or, Nat.testBit_or, Nat.testBit_shiftLeft, Nat.testBit_shiftRight, Nat.testBit_shiftLeft, Nat.testBit_shiftRight, but_bit, but_bit]
  unfold nb
  have t1 : (decide (d ≥ 1) && (s.testBit (d - 1) && !Nat.testBit 8521760 (d - 1))) = (decide (1 ≤ d ∧ (d - 1) % 6 ≠ 5) && s.testBit (d - 1)) := by
    rw [last_bit (d - 1) (by omega)]
    by_cases c : 1 ≤ d
    · by_cases c' : (d - 1) % 6 = 5
      · simp [c, c']
      · simp [c, c']
    · simp [c]
  have t2 : (s.testBit (1 + d) && !Nat.testBit 266305 (1 + d)) = (decide ((d + 1) % 6 ≠ 0) && s.testBit (d + 1)) := by
    rw [Nat.add_comm 1 d]
    by_cases c : d + 1 < 24
    · rw [first_bit (d + 1) c]
      by_cases c' : (d + 1) % 6 = 0
      · simp [c']
      · simp [c']
    · rw [hi_bit hs (by omega)]; simp
  rw [t1, t2, Nat.add_comm 6 d]
  simp only [hd, decide_true, Bool.true_and, ge_iff_le]
  cases f.testBit d <;> cases s.testBit d <;> simp
theorem e_spread {n s f : Nat} {M : Mem} (hs : s < 16777216) (hf : f < 16777216) : m_X2_spread n M (s : Int) (f : Int) = some (((spN s f : Nat) : Int), M) := by
  unfold m_X2_spread lt
  have c1 : bAnd (s : Int) (-8521761) = ((s ^^^ (s &&& 8521760) : Nat) : Int) := by
    rw [show (-8521761 : Int) = bXor ((8521760 : Nat) : Int) (-1) by decide]
    exact nBut (by omega) (by decide)
  have c2 : bAnd (s : Int) (-266306) = ((s ^^^ (s &&& 266305) : Nat) : Int) := by
    rw [show (-266306 : Int) = bXor ((266305 : Nat) : Int) (-1) by decide]
    exact nBut (by omega) (by decide)
  have b1 := but_lt24 (x := 8521760) hs
  have b2 := but_lt24 (x := 266305) hs
  have l1 := shl_lt b1 (k := 1) (by decide)
  have l6 := shl_lt hs (k := 6) (by decide)
  have r6 := Nat.shiftRight_le s 6
  have r1 := Nat.shiftRight_le (s ^^^ (s &&& 266305)) 1
  have o1 : s ||| s <<< 6 < 2147483648 := Nat.or_lt_two_pow (n := 31) (by omega) l6
  have o2 : s ||| s <<< 6 ||| s >>> 6 < 2147483648 := Nat.or_lt_two_pow (n := 31) o1 (by omega)
  have o3 : s ||| s <<< 6 ||| s >>> 6 ||| (s ^^^ (s &&& 8521760)) <<< 1 < 2147483648 := Nat.or_lt_two_pow (n := 31) o2 l1
  have o4 : s ||| s <<< 6 ||| s >>> 6 ||| (s ^^^ (s &&& 8521760)) <<< 1 ||| (s ^^^ (s &&& 266305)) >>> 1 < 2147483648 := Nat.or_lt_two_pow (n := 31) o3 (by omega)
  simp only [c1, c2]
  rw [show (1 : Int) = ((1 : Nat) : Int) from rfl, show (6 : Int) = ((6 : Nat) : Int) from rfl, nShl (by decide) l1, nShr (by decide) (by omega), nShl (by decide) l6, nShr (by decide) (by omega)]
  rw [nOr (by omega) l6, nOr o1 (by omega), nOr o2 l1, nOr o3 (by omega), nAnd o4 (by omega)]
  rw [e_spread_k hs hf]
/-- by the second side: cell by cell, way by way -/
def besI (c w : Nat) : Int := if w = 0 then (if 6 ≤ c then (c : Int) - 6 else -9) else if w = 1 then (if c % 6 = 5 then -9 else (c : Int) + 1) else if w = 2 then (if c < 18 then (c : Int) + 6 else -9) else (if c % 6 = 0 then -9 else (c : Int) - 1)
def mwN (c w : Nat) : Nat := if besI c w < 0 then 0 else 2 ^ (besI c w).toNat
theorem besI_b {c w : Nat} (hc : c < 24) : -9 ≤ besI c w ∧ besI c w ≤ 23 := by
  unfold besI
  omega
def ormN (c : Nat) : Nat → Nat → Nat
  | 0, _ => 0
  | k + 1, w => mwN c w ||| ormN c k (w + 1)
theorem or_lt24 {a b : Nat} (ha : a < 16777216) (hb : b < 16777216) : a ||| b < 16777216 := Nat.or_lt_two_pow (n := 24) ha hb
def grF (s f : Nat) : Nat → Nat → Nat := fun c a => if s.testBit c = true then a ||| (f &&& ormN c 4 0) else a
theorem grF_lt {s f : Nat} (hf : f < 16777216) (c a : Nat) (ha : a < 16777216) : grF s f c a < 16777216 := by
  unfold grF
  split
  · exact or_lt24 ha (Nat.lt_of_le_of_lt Nat.and_le_left hf)
  · exact ha
theorem frm_gr (s f d : Nat) : ∀ k i a, (frm (grF s f) k i a).testBit d = true ↔ a.testBit d = true ∨ (f.testBit d = true ∧ ∃ c, i ≤ c ∧ c < i + k ∧ s.testBit c = true ∧ (ormN c 4 0).testBit d = true)
  | 0, i, a => by
    constructor
    · exact fun h => .inl h
    · rintro (h | ⟨_, c, h1, h2, _⟩)
      · exact h
      · omega
  | k + 1, i, a => by
    simp only [frm]
    rw [frm_gr s f d k (i + 1)]
    unfold grF
    by_cases g : s.testBit i = true
    · rw [if_pos g, Nat.testBit_or, Nat.testBit_and, Bool.or_eq_true, Bool.and_eq_true]
      constructor
      · rintro ((h | ⟨h1, h2⟩) | ⟨h1, c, h2, h3, h4⟩)
        · exact .inl h
        · exact .inr ⟨h1, i, by omega, by omega, g, h2⟩
        · exact .inr ⟨h1, c, by omega, by omega, h4⟩
      · rintro (h | ⟨h1, c, h2, h3, h4, h5⟩)
        · exact .inl (.inl h)
        · by_cases e : c = i
          · subst e; exact .inl (.inr ⟨h1, h5⟩)
          · exact .inr ⟨h1, c, by omega, by omega, h4, h5⟩
    · rw [if_neg g]
      constructor
      · rintro (h | ⟨h1, c, h2, h3, h4⟩)
        · exact .inl h
        · exact .inr ⟨h1, c, by omega, by omega, h4⟩
      · rintro (h | ⟨h1, c, h2, h3, h4, h5⟩)
        · exact .inl h
        · by_cases e : c = i
          · subst e; exact absurd h4 g
          · exact .inr ⟨h1, c, by omega, by omega, h4, h5⟩
theorem adj1 : ∀ c, c < 24 → ∀ d, d < 24 → (ormN c 4 0).testBit d = (decide (6 ≤ d ∧ c = d - 6) || decide (c = d + 6) || decide (1 ≤ d ∧ (d - 1) % 6 ≠ 5 ∧ c = d - 1) || decide ((d + 1) % 6 ≠ 0 ∧ c = d + 1)) := by decide +kernel
theorem nb_iff {s d : Nat} (hs : s < 16777216) (hd : d < 24) : nb s d = true ↔ ∃ c, 0 ≤ c ∧ c < 0 + 24 ∧ s.testBit c = true ∧ (ormN c 4 0).testBit d = true := by
  constructor
  · intro h
    have lt24 : ∀ c, s.testBit c = true → c < 24 := by
      intro c hc
      by_cases q : c < 24
      · exact q
      · rw [hi_bit hs (by omega)] at hc; cases hc
    unfold nb at h
    simp only [Bool.or_eq_true, Bool.and_eq_true, decide_eq_true_eq] at h
    rcases h with ((⟨h1, h2⟩ | h2) | ⟨h1, h2⟩) | ⟨h1, h2⟩
    · refine ⟨d - 6, by omega, by omega, h2, ?_⟩
      rw [adj1 _ (by omega) d hd]
      simp [h1]
    · have := lt24 _ h2
      refine ⟨d + 6, by omega, by omega, h2, ?_⟩
      rw [adj1 _ (by omega) d hd]
      simp
    · refine ⟨d - 1, by omega, by omega, h2, ?_⟩
      rw [adj1 _ (by omega) d hd]
      simp [h1]
    · have := lt24 _ h2
      refine ⟨d + 1, by omega, by omega, h2, ?_⟩
      rw [adj1 _ (by omega) d hd]
      simp [h1]
  · rintro ⟨c, _, h2, h3, h4⟩
    rw [adj1 c (by omega) d hd] at h4
    unfold nb
    simp only [Bool.or_eq_true, Bool.and_eq_true, decide_eq_true_eq] at h4 ⊢
    rcases h4 with ((⟨h, rfl⟩ | rfl) | ⟨h, h', rfl⟩) | ⟨h, rfl⟩
    · exact .inl (.inl (.inl ⟨h, h3⟩))
    · exact .inl (.inl (.inr h3))
    · exact .inl (.inr ⟨⟨h, h'⟩, h3⟩)
    · exact .inr ⟨h, h3⟩
/-- one set in another -/
def SubB (s f : Nat) : Prop := ∀ d, s.testBit d = true → f.testBit d = true
theorem gr_eq {s f : Nat} (hs : s < 16777216) (hf : f < 16777216) (h : SubB s f) : frm (grF s f) 24 0 s = spN s f := by
  have lt : frm (grF s f) 24 0 s < 16777216 := frm_i (grF s f) (fun _ a => a < 16777216) (fun i a q => grF_lt hf i a q) 24 0 s hs
  refine bit_eq lt (sp_lt s f) (fun d hd => ?_)
  have g := frm_gr s f d 24 0 s
  rw [← nb_iff hs hd] at g
  rw [sp_bit, decide_eq_true hd, Bool.true_and]
  have hsub := h d
  generalize (frm (grF s f) 24 0 s).testBit d = x1 at *
  generalize f.testBit d = x2 at *
  generalize s.testBit d = x3 at *
  generalize nb s d = x4 at *
  revert g hsub
  revert x1 x2 x3 x4
  decide
/-! growing until nothing grows -/
def itN (f : Nat) : Nat → Nat → Nat
  | 0, s => s
  | k + 1, s => itN f k (spN s f)
theorem it_snoc (f : Nat) : ∀ k s, itN f (k + 1) s = spN (itN f k s) f
  | 0, _ => rfl
  | k + 1, s => it_snoc f k (spN s f)
theorem sp_sub (s f : Nat) : SubB (spN s f) f := by
  intro d h
  rw [sp_bit] at h
  simp only [Bool.and_eq_true] at h
  exact h.2.1
theorem sp_inc {s f : Nat} (hs : s < 16777216) (h : SubB s f) : SubB s (spN s f) := by
  intro d hd
  have hd24 : d < 24 := by
    by_cases q : d < 24
    · exact q
    · rw [hi_bit hs (by omega)] at hd; cases hd
  rw [sp_bit]
  simp [hd24, hd, h d hd]
theorem it_lt (f : Nat) : ∀ k s, s < 16777216 → itN f k s < 16777216
  | 0, _, h => h
  | k + 1, s, _ => it_lt f k _ (sp_lt s f)
theorem it_sub {f : Nat} : ∀ k s, SubB s f → SubB (itN f k s) f
  | 0, _, h => h
  | k + 1, s, _ => it_sub k _ (sp_sub s f)
theorem cn_sub {C D : Nat → Bool} : ∀ k i, (∀ j, i ≤ j → j < i + k → C j = true → D j = true) → cn C k i ≤ cn D k i
  | 0, _, _ => Nat.le_refl _
  | k + 1, i, h => by
    have := cn_sub (C := C) (D := D) k (i + 1) (fun j a b => h j (by omega) (by omega))
    simp only [cn]
    by_cases c : C i = true
    · rw [if_pos c, if_pos (h i (by omega) (by omega) c)]; omega
    · rw [if_neg c]; omega
theorem cn_strict {C D : Nat → Bool} : ∀ k i, (∀ j, i ≤ j → j < i + k → C j = true → D j = true) → (∃ j, i ≤ j ∧ j < i + k ∧ C j = false ∧ D j = true) → cn C k i < cn D k i
  | 0, i, _, ⟨j, h1, h2, _⟩ => by omega
  | k + 1, i, h, ⟨j, h1, h2, h3, h4⟩ => by
    have s := cn_sub (C := C) (D := D) k (i + 1) (fun j a b => h j (by omega) (by omega))
    simp only [cn]
    by_cases e : j = i
    · subst e
      rw [h3, if_pos h4]
      simp
      omega
    · have := cn_strict (C := C) (D := D) k (i + 1) (fun j a b => h j (by omega) (by omega)) ⟨j, by omega, by omega, h3, h4⟩
      by_cases c : C i = true
      · rw [if_pos c, if_pos (h i (by omega) (by omega) c)]; omega
      · rw [if_neg c]; omega
def pc (m : Nat) : Nat := cn (fun i => m.testBit i) 24 0
theorem pc_31 {m : Nat} (h : m < 16777216) : pcN 31 m = pc m := pc_set (N := 24) (by decide) h
theorem pc_le {a b : Nat} (h : SubB a b) : pc a ≤ pc b := cn_sub 24 0 (fun j _ _ => h j)
theorem pc_lt {a b : Nat} (ha : a < 16777216) (hb : b < 16777216) (h : SubB a b) (hne : a ≠ b) : pc a < pc b := by
  refine cn_strict 24 0 (fun j _ _ => h j) ?_
  by_cases q : ∃ j, 0 ≤ j ∧ j < 0 + 24 ∧ a.testBit j = false ∧ b.testBit j = true
  · exact q
  · exfalso
    apply hne
    refine bit_eq ha hb (fun i hi => ?_)
    cases qa : a.testBit i <;> cases qb : b.testBit i
    · rfl
    · exact absurd ⟨i, by omega, by omega, qa, qb⟩ q
    · rw [h i qa] at qb; cases qb
    · rfl
theorem pc_24 (m : Nat) : pc m ≤ 24 := cn_le _ 24 0
theorem it_fix {f s : Nat} (h : spN s f = s) (k : Nat) : itN f k s = s := by
  induction k with
  | zero => rfl
  | succ k ih =>
    rw [it_snoc, ih, h]
/-- after enough steps nothing grows -/
theorem it_done {f : Nat} (k : Nat) : ∀ s, s < 16777216 → SubB s f → 24 ≤ k + pc s → spN (itN f k s) f = itN f k s := by
  induction k with
  | zero =>
    intro s hs h hk
    by_cases c : s = spN s f
    · exact c.symm
    · have := pc_lt hs (sp_lt s f) (sp_inc hs h) c
      have := pc_24 (spN s f)
      omega
  | succ k ih =>
    intro s hs h hk
    rw [itN]
    by_cases c : s = spN s f
    · rw [← c, it_fix c.symm k]; exact c.symm
    · have := pc_lt hs (sp_lt s f) (sp_inc hs h) c
      exact ih _ (sp_lt s f) (sp_sub s f) (by omega)
/-- the piece of a cell -/
def st0 (f c : Nat) : Nat := if f.testBit c = true then 2 ^ c else 0
def pieceN (f c : Nat) : Nat := itN f 24 (st0 f c)
theorem st0_lt {f c : Nat} (hc : c < 24) : st0 f c < 16777216 := by
  unfold st0
  split
  · calc 2 ^ c < 2 ^ 24 := Nat.pow_lt_pow_right (by decide) hc
      _ = 16777216 := by decide
  · decide
theorem st0_bit (f c d : Nat) : (st0 f c).testBit d = true ↔ d = c ∧ f.testBit c = true := by
  unfold st0
  by_cases g : f.testBit c = true
  · rw [if_pos g, Nat.testBit_two_pow]
    simp only [decide_eq_true_eq]
    exact ⟨fun h => ⟨h.symm, g⟩, fun h => h.1.symm⟩
  · rw [if_neg g, Nat.zero_testBit]
    exact ⟨fun h => (by cases h), fun h => absurd h.2 g⟩
theorem st0_sub (f c : Nat) : SubB (st0 f c) f := by
  intro d h
  obtain ⟨rfl, h2⟩ := (st0_bit f c d).mp h
  exact h2
theorem piece_fix {f c : Nat} (hc : c < 24) : spN (pieceN f c) f = pieceN f c := it_done 24 _ (st0_lt hc) (st0_sub f c) (by omega)
theorem e_pieceWith_8 {n f : Nat} {M : Mem} (hf : f < 16777216) : ∀ k t (i s : Nat), i + k = 24 → k < t → s < 16777216 → m_X2_pieceWith_8 n t M (f : Int) (s : Int) (i : Int) = some (((itN f k s : Nat) : Int), M) := by
  intro k
  induction k with
  | zero =>
    intro t i s hi ht hs
    cases t with
    | zero => omega
    | succ t =>
      refine Ok_eq ?_
      rw [m_X2_pieceWith_8]
      repeat (first
          | with_reducible refine Ok_g (by first | assumption | omega) ?_
          | with_reducible refine Ok_lt ?_
          | with_reducible refine Ok_t (by first | assumption | omega) ?_
          | with_reducible refine Ok_f (by first | assumption | omega) ?_)
      exact Ok_ret ⟨rfl, rfl⟩
  | succ k ih =>
    intro t i s hi ht hs
    cases t with
    | zero => omega
    | succ t =>
      refine Ok_eq ?_
      rw [m_X2_pieceWith_8]
      repeat (first
          | with_reducible refine Ok_g (by first | assumption | omega) ?_
          | with_reducible refine Ok_lt ?_
          | with_reducible refine Ok_t (by first | assumption | omega) ?_
          | with_reducible refine Ok_f (by first | assumption | omega) ?_)
      refine Ok_be (e_spread hs hf) ?_
      exact Ok_of (ih t (i + 1) _ (by omega) (by omega) (sp_lt s f)) ⟨rfl, rfl⟩
theorem e_pieceWith {n f c : Nat} {M : Mem} (hn : 2000 ≤ n) (hf : f < 16777216) (hc : c < 24) : m_X2_pieceWith n M (c : Int) (f : Int) = some (((pieceN f c : Nat) : Int), M) := by
  unfold m_X2_pieceWith
  rw [bAnd_pow (by omega) (by omega)]
  exact e_pieceWith_8 hf 24 n 0 (st0 f c) (by omega) (by omega) (st0_lt hc)
