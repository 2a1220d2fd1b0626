/-! islands, ways -/
theorem adj_sym : ∀ c, c < 24 → ∀ d, d < 24 → (ormN c 4 0).testBit d = (ormN d 4 0).testBit c := by decide +kernel
theorem nb_mono {s s' d : Nat} (hs : s < 16777216) (hs' : s' < 16777216) (hd : d < 24) (h : SubB s s') (g : nb s d = true) : nb s' d = true := by
  obtain ⟨c, h1, h2, h3, h4⟩ := (nb_iff hs hd).mp g
  exact (nb_iff hs' hd).mpr ⟨c, h1, h2, h c h3, h4⟩
theorem sp_mono {s s' f : Nat} (hs : s < 16777216) (hs' : s' < 16777216) (h : SubB s s') : SubB (spN s f) (spN s' f) := by
  intro d g
  rw [sp_bit] at g ⊢
  simp only [Bool.and_eq_true, Bool.or_eq_true, decide_eq_true_eq] at g ⊢
  exact ⟨g.1, g.2.1, g.2.2.imp (h d) (nb_mono hs hs' g.1 h)⟩
theorem it_into {f P : Nat} (hP : P < 16777216) (fx : spN P f = P) (k : Nat) : ∀ s, s < 16777216 → SubB s P → SubB (itN f k s) P := by
  induction k with
  | zero => exact fun s _ h => h
  | succ k ih =>
    intro s hs h
    rw [itN]
    refine ih _ (sp_lt s f) ?_
    have := sp_mono (f := f) hs hP h
    rw [fx] at this
    exact this
theorem piece_lt (f : Nat) {c : Nat} (hc : c < 24) : pieceN f c < 16777216 := it_lt f 24 _ (st0_lt hc)
theorem piece_sub (f c : Nat) : SubB (pieceN f c) f := it_sub 24 _ (st0_sub f c)
theorem sub_it {f : Nat} (k : Nat) : ∀ s, s < 16777216 → SubB s f → SubB s (itN f k s) := by
  induction k with
  | zero => exact fun s _ _ d h => h
  | succ k ih =>
    intro s hs h d hd
    rw [itN]
    exact ih _ (sp_lt s f) (sp_sub s f) d (sp_inc hs h d hd)
theorem piece_in {f c d : Nat} (hc : c < 24) (hd : d < 24) (h : (pieceN f c).testBit d = true) : SubB (pieceN f d) (pieceN f c) := by
  refine it_into (piece_lt f hc) (piece_fix hc) 24 _ (st0_lt hd) ?_
  intro e he
  rw [((st0_bit f d e).mp he).1]
  exact h
/-- what is left is whole pieces -/
def Whole (f l : Nat) : Prop := l < 16777216 ∧ SubB l f ∧ ∀ d, d < 24 → f.testBit d = true → nb l d = true → l.testBit d = true
theorem whole_sp {f l s : Nat} (w : Whole f l) (hs : s < 16777216) (h : SubB s l) : spN s l = spN s f := by
  refine bit_eq (sp_lt s l) (sp_lt s f) (fun d hd => ?_)
  rw [sp_bit, sp_bit]
  have a1 := h d
  have a2 := w.2.1 d
  have a3 := w.2.2 d hd
  have a4 := nb_mono (s := s) (s' := l) hs w.1 hd h
  generalize s.testBit d = x1 at *
  generalize l.testBit d = x2 at *
  generalize f.testBit d = x3 at *
  generalize nb s d = x4 at *
  generalize nb l d = x5 at *
  generalize decide (d < 24) = x6 at *
  revert a1 a2 a3 a4
  revert x1 x2 x3 x4 x5 x6
  decide
theorem whole_it {f l : Nat} (w : Whole f l) (k : Nat) : ∀ s, s < 16777216 → SubB s l → itN l k s = itN f k s := by
  induction k with
  | zero => exact fun _ _ _ => rfl
  | succ k ih =>
    intro s hs h
    rw [itN, itN, ← whole_sp w hs h]
    exact ih _ (sp_lt s l) (sp_sub s l)
theorem whole_piece {f l c : Nat} (w : Whole f l) (hc : c < 24) (h : l.testBit c = true) : pieceN l c = pieceN f c := by
  unfold pieceN
  have e : st0 l c = st0 f c := by
    unfold st0
    rw [if_pos h, if_pos (w.2.1 c h)]
  rw [← e]
  exact whole_it w 24 _ (st0_lt hc) (st0_sub l c)
theorem whole_but {f l c : Nat} (w : Whole f l) (hc : c < 24) : Whole f (l ^^^ (l &&& pieceN f c)) := by
  have bt : ∀ d, (l ^^^ (l &&& pieceN f c)).testBit d = (l.testBit d && !(pieceN f c).testBit d) := fun d => but_bit _ _ d
  have lt := but_lt24 (x := pieceN f c) w.1
  refine ⟨lt, fun d h => ?_, fun d hd hf hn => ?_⟩
  · rw [bt] at h
    simp only [Bool.and_eq_true] at h
    exact w.2.1 d h.1
  · have sl : SubB (l ^^^ (l &&& pieceN f c)) l := by
      intro e he
      rw [bt] at he
      simp only [Bool.and_eq_true] at he
      exact he.1
    have ld := w.2.2 d hd hf (nb_mono lt w.1 hd sl hn)
    rw [bt, ld]
    cases pd : (pieceN f c).testBit d
    · rfl
    · exfalso
      obtain ⟨e, h1, h2, h3, h4⟩ := (nb_iff lt hd).mp hn
      rw [bt] at h3
      simp only [Bool.and_eq_true] at h3
      rw [adj_sym e (by omega) d hd] at h4
      have nbe : nb (pieceN f c) e = true := (nb_iff (piece_lt f hc) (by omega)).mpr ⟨d, by omega, by omega, pd, h4⟩
      have : (spN (pieceN f c) f).testBit e = true := by
        rw [sp_bit]
        simp [show e < 24 by omega, w.2.1 e h3.1, nbe]
      rw [piece_fix hc] at this
      rw [this] at h3
      exact absurd h3.2 (by decide)
def hmN (f : Nat) : Nat → Nat → Nat → Nat → Nat
  | 0, _, _, m => m
  | k + 1, i, l, m => if l.testBit i = true then hmN f k (i + 1) (l ^^^ (l &&& pieceN f i)) (m + 1) else hmN f k (i + 1) l m
def gmN (f : Nat) : Nat → Nat → Nat → Nat
  | 0, _, g => g
  | k + 1, i, g => gmN f k (i + 1) (if g < pc (pieceN f i) then pc (pieceN f i) else g)
theorem hmN_b (f : Nat) : ∀ k i l m, hmN f k i l m ≤ m + k
  | 0, _, _, _ => Nat.le_refl _
  | k + 1, i, l, m => by
    have a := hmN_b f k (i + 1) (l ^^^ (l &&& pieceN f i)) (m + 1)
    have b := hmN_b f k (i + 1) l m
    simp only [hmN]
    split <;> omega
theorem gmN_b (f : Nat) : ∀ k i g, g ≤ 24 → gmN f k i g ≤ 24
  | 0, _, _, h => h
  | k + 1, i, g, h => by
    have := pc_24 (pieceN f i)
    simp only [gmN]
    exact gmN_b f k (i + 1) _ (by split <;> omega)
theorem e_howMany_6 {n f : Nat} {M : Mem} (hn : 2000 ≤ n) (hf : f < 16777216) : ∀ k t (i l m : Nat), i + k = 24 → k < t → l < 16777216 → m_X2_howMany_6 n t M (f : Int) (m : Int) (l : Int) (i : Int) = some (((hmN f k i l m : Nat) : Int), M) := by
  intro k
  induction k with
  | zero =>
    intro t i l m hi ht hl
    cases t with
    | zero => omega
    | succ t =>
      refine Ok_eq ?_
      rw [m_X2_howMany_6]
      repeat (first
          | with_reducible refine Ok_g (by first | assumption | omega) ?_
          | with_reducible refine Ok_lt ?_
          | with_reducible refine Ok_t (by first | assumption | omega) ?_
          | with_reducible refine Ok_f (by first | assumption | omega) ?_)
      exact Ok_ret ⟨rfl, rfl⟩
  | succ k ih =>
    intro t i l m hi ht hl
    cases t with
    | zero => omega
    | succ t =>
      have p := pow31 (i := i) (by omega)
      have pp := Nat.two_pow_pos i
      refine Ok_eq ?_
      rw [m_X2_howMany_6, bAnd_pow (by omega) (by omega)]
      simp only [hmN]
      by_cases g : l.testBit i = true
      · simp only [if_pos g]
        repeat (first
            | with_reducible refine Ok_g (by first | assumption | omega) ?_
            | with_reducible refine Ok_lt ?_
            | with_reducible refine Ok_t (by first | assumption | omega) ?_
            | with_reducible refine Ok_f (by first | assumption | omega) ?_)
        have pl := piece_lt f (c := i) (by omega)
        refine Ok_be (e_pieceWith hn hf (by omega)) ?_
        rw [nBut (by omega) (by omega)]
        repeat (first
            | with_reducible refine Ok_g (by first | assumption | omega) ?_
            | with_reducible refine Ok_lt ?_
            | with_reducible refine Ok_t (by first | assumption | omega) ?_
            | with_reducible refine Ok_f (by first | assumption | omega) ?_)
        exact Ok_of (ih t (i + 1) _ (m + 1) (by omega) (by omega) (but_lt24 hl)) ⟨rfl, rfl⟩
      · simp only [if_neg g]
        repeat (first
            | with_reducible refine Ok_g (by first | assumption | omega) ?_
            | with_reducible refine Ok_lt ?_
            | with_reducible refine Ok_t (by first | assumption | omega) ?_
            | with_reducible refine Ok_f (by first | assumption | omega) ?_)
        exact Ok_of (ih t (i + 1) l m (by omega) (by omega) hl) ⟨rfl, rfl⟩
theorem e_greatest_4 {n f : Nat} {M : Mem} (hn : 2000 ≤ n) (hf : f < 16777216) : ∀ k t (i g : Nat), i + k = 24 → k < t → g ≤ 24 → m_X2_greatest_4 n t M (f : Int) (g : Int) (i : Int) = some (((gmN f k i g : Nat) : Int), M) := by
  intro k
  induction k with
  | zero =>
    intro t i g hi ht hg
    cases t with
    | zero => omega
    | succ t =>
      refine Ok_eq ?_
      rw [m_X2_greatest_4]
      repeat (first
          | with_reducible refine Ok_g (by first | assumption | omega) ?_
          | with_reducible refine Ok_lt ?_
          | with_reducible refine Ok_t (by first | assumption | omega) ?_
          | with_reducible refine Ok_f (by first | assumption | omega) ?_)
      exact Ok_ret ⟨rfl, rfl⟩
  | succ k ih =>
    intro t i g hi ht hg
    cases t with
    | zero => omega
    | succ t =>
      have pl := piece_lt f (c := i) (by omega)
      have p24 := pc_24 (pieceN f i)
      refine Ok_eq ?_
      rw [m_X2_greatest_4]
      simp only [gmN]
      repeat (first
          | with_reducible refine Ok_g (by first | assumption | omega) ?_
          | with_reducible refine Ok_lt ?_
          | with_reducible refine Ok_t (by first | assumption | omega) ?_
          | with_reducible refine Ok_f (by first | assumption | omega) ?_)
      refine Ok_be (e_pieceWith hn hf (by omega)) ?_
      refine Ok_be (e_bitCount pl) ?_
      rw [pc_31 pl]
      repeat (first
          | with_reducible refine Ok_g (by first | assumption | omega) ?_
          | with_reducible refine Ok_lt ?_
          | with_reducible refine Ok_t (by first | assumption | omega) ?_
          | with_reducible refine Ok_f (by first | assumption | omega) ?_)
      rw [show mxZ (g : Int) ((pc (pieceN f i) : Nat) : Int) = (((if g < pc (pieceN f i) then pc (pieceN f i) else g : Nat)) : Int) by unfold mxZ; split <;> split <;> omega]
      exact Ok_of (ih t (i + 1) _ (by omega) (by omega) (by split <;> omega)) ⟨rfl, rfl⟩
theorem it_0 (f : Nat) : spN 0 f = 0 := by
  refine bit_eq (sp_lt 0 f) (by decide) (fun d hd => ?_)
  rw [sp_bit]
  unfold nb
  simp
theorem piece_none {f c : Nat} (h : ¬ f.testBit c = true) : pieceN f c = 0 := by
  unfold pieceN st0
  rw [if_neg h]
  exact it_fix (it_0 f) 24
theorem pc_0 : pc 0 = 0 := by decide
theorem whole_all {f : Nat} (hf : f < 16777216) : Whole f f := ⟨hf, fun _ h => h, fun _ _ h _ => h⟩
/-- steps to another cell -/
def stS (f o : Nat) : Nat → Nat → Nat → Int
  | 0, _, _ => -9
  | k + 1, i, s => if s.testBit o = true then (i : Int) else stS f o k (i + 1) (spN s f)
theorem stS_b (f o : Nat) : ∀ k i s, -9 ≤ stS f o k i s ∧ stS f o k i s ≤ i + k
  | 0, i, s => by
    show -9 ≤ (-9 : Int) ∧ (-9 : Int) ≤ _
    omega
  | k + 1, i, s => by
    have := stS_b f o k (i + 1) (spN s f)
    simp only [stS]
    split <;> omega
theorem e_steps_9 {n f o : Nat} {M : Mem} (hf : f < 16777216) (ho : o < 24) : ∀ k t (i s : Nat), i + k = 24 → k < t → s < 16777216 → m_X2_steps_9 n t M (o : Int) (f : Int) (s : Int) (i : Int) = some (stS f o k i s, M) := by
  intro k
  induction k with
  | zero =>
    intro t i s hi ht hs
    cases t with
    | zero => omega
    | succ t =>
      refine Ok_eq ?_
      rw [m_X2_steps_9]
      repeat (first
          | with_reducible refine Ok_g (by first | assumption | omega) ?_
          | with_reducible refine Ok_lt ?_
          | with_reducible refine Ok_t (by first | assumption | omega) ?_
          | with_reducible refine Ok_f (by first | assumption | omega) ?_)
      exact Ok_ret ⟨rfl, rfl⟩
  | succ k ih =>
    intro t i s hi ht hs
    cases t with
    | zero => omega
    | succ t =>
      have p := pow31 (i := o) (by omega)
      have pp := Nat.two_pow_pos o
      refine Ok_eq ?_
      rw [m_X2_steps_9, bAnd_pow (by omega) (by omega)]
      simp only [stS]
      by_cases g : s.testBit o = true
      · simp only [if_pos g]
        repeat (first
            | with_reducible refine Ok_g (by first | assumption | omega) ?_
            | with_reducible refine Ok_lt ?_
            | with_reducible refine Ok_t (by first | assumption | omega) ?_
            | with_reducible refine Ok_f (by first | assumption | omega) ?_)
        exact Ok_ret ⟨rfl, rfl⟩
      · simp only [if_neg g]
        repeat (first
            | with_reducible refine Ok_g (by first | assumption | omega) ?_
            | with_reducible refine Ok_lt ?_
            | with_reducible refine Ok_t (by first | assumption | omega) ?_
            | with_reducible refine Ok_f (by first | assumption | omega) ?_)
        refine Ok_be (e_spread hs hf) ?_
        exact Ok_of (ih t (i + 1) _ (by omega) (by omega) (sp_lt s f)) ⟨rfl, rfl⟩
theorem stS_none {f o : Nat} (k : Nat) : ∀ i s, s < 16777216 → SubB s f → ¬ (itN f k s).testBit o = true → stS f o k i s = -9 := by
  induction k with
  | zero => exact fun _ _ _ _ _ => rfl
  | succ k ih =>
    intro i s hs h hn
    have n1 : ¬ s.testBit o = true := fun z => hn (sub_it (k + 1) s hs h o z)
    rw [stS, if_neg n1]
    rw [itN] at hn
    exact ih (i + 1) _ (sp_lt s f) (sp_sub s f) hn
theorem pc_st0 {f c : Nat} (hc : c < 24) (h : f.testBit c = true) : 1 ≤ pc (st0 f c) := by
  have := pc_lt (a := 0) (b := st0 f c) (by decide) (st0_lt hc) (fun d z => by rw [Nat.zero_testBit] at z; cases z) (by
    intro z
    have := (st0_bit f c c).mpr ⟨rfl, h⟩
    rw [← z, Nat.zero_testBit] at this
    cases this)
  omega
