/-! bits, pieces, best stands -/
theorem bt {m c : Nat} (hm : m < 2147483648) (hc : c < 32) : bAnd (bShr (m : Int) (c : Int)) 1 = (if m.testBit c = true then 1 else 0) := by
  rw [b_sh1 hm hc, tb_div]
  have := Nat.mod_two_eq_zero_or_one (m / 2 ^ c)
  by_cases h : m / 2 ^ c % 2 = 1
  · rw [decide_eq_true h, h]; rfl
  · rw [decide_eq_false h]
    have h0 : m / 2 ^ c % 2 = 0 := by omega
    rw [h0]; rfl
theorem i32_and (a b : Int) : I32 (bAnd a b) := i_rng _
theorem i32_shr (a b : Int) : I32 (bShr a b) := i_rng _
theorem cells_bit (u : US) {c : Nat} (hc : c < 24) : (cellsN u).testBit c = decide (u 0 14 ≤ fogS u (c : Nat)) := by
  unfold cellsN
  rw [bs_bit, decide_eq_true hc, Bool.true_and, Nat.zero_add]
theorem at_bit (u : US) {p P : Nat} (hP : P ≤ 8) (hp : p < P) (c : Int) (h : u 10 p = c) : bAnd (bShr (atS u 10 P c) (p : Int)) 1 = 1 := by
  obtain ⟨h1, h2, _⟩ := at_N u 10 hP c
  rw [h1, bt (by omega) (by omega)]
  unfold atN
  rw [bs_bit, decide_eq_true hp, Bool.true_and, Nat.zero_add, decide_eq_true h]
  rfl
theorem air_fog (u : US) {c : Int} (h : u 0 20 ≠ c) : airOS u c (u 0 13) ≤ fogS u c := by
  unfold fogS
  rw [if_neg h]
  refine frm_i _ (fun _ v => airOS u c (u 0 13) ≤ v) (fun i a q => ?_) _ 0 _ (Int.le_refl _)
  show airOS u c (u 0 13) ≤ (if u 10 i = c then mx a (steamS (u 7 i) (u 8 i)) else a)
  unfold mx
  split
  · split <;> omega
  · exact q
theorem gm_ge (f : Nat) : ∀ k i g, g ≤ gmN f k i g ∧ ∀ c, i ≤ c → c < i + k → pc (pieceN f c) ≤ gmN f k i g
  | 0, i, g => ⟨Nat.le_refl _, fun c h1 h2 => absurd h2 (by omega)⟩
  | k + 1, i, g => by
    obtain ⟨h1, h2⟩ := gm_ge f k (i + 1) (if g < pc (pieceN f i) then pc (pieceN f i) else g)
    have e : gmN f (k + 1) i g = gmN f k (i + 1) (if g < pc (pieceN f i) then pc (pieceN f i) else g) := rfl
    rw [e]
    have h3 : g ≤ (if g < pc (pieceN f i) then pc (pieceN f i) else g) ∧ pc (pieceN f i) ≤ (if g < pc (pieceN f i) then pc (pieceN f i) else g) := by
      split <;> omega
    refine ⟨Nat.le_trans h3.1 h1, fun c a b => ?_⟩
    by_cases hc : c = i
    · subst hc
      exact Nat.le_trans h3.2 h1
    · exact h2 c (by omega) (by omega)
theorem piece_self {f c : Nat} (hc : c < 24) (h : f.testBit c = true) : (pieceN f c).testBit c = true :=
  sub_it 24 (st0 f c) (st0_lt hc) (st0_sub f c) c ((st0_bit f c c).mpr ⟨rfl, h⟩)
theorem but_0 {a b : Nat} (h : SubB a b) : a ^^^ (a &&& b) = 0 := by
  apply Nat.eq_of_testBit_eq
  intro i
  rw [but_bit, Nat.zero_testBit]
  cases ha : a.testBit i with
  | false => rfl
  | true => rw [h i ha]; rfl
theorem and_sub {a b : Nat} (h : SubB b a) : a &&& b = b := by
  apply Nat.eq_of_testBit_eq
  intro i
  rw [Nat.testBit_and]
  cases hb : b.testBit i with
  | false => rw [Bool.and_false]
  | true => rw [h i hb]; rfl
/-- the pieces one by one: what is left has no cell below i -/
theorem left_step {f l c : Nat} (w : Whole f l) (hc : c < 24) (h : l.testBit c = true) (h0 : ∀ d, d < c → l.testBit d = false) : SubB (pieceN f c) l ∧ Whole f (l ^^^ (l &&& pieceN f c)) ∧ ∀ d, d < c + 1 → (l ^^^ (l &&& pieceN f c)).testBit d = false := by
  refine ⟨?_, whole_but w hc, fun d hd => ?_⟩
  · rw [← whole_piece w hc h]
    exact piece_sub l c
  · rw [but_bit]
    by_cases e : d = c
    · subst e
      rw [piece_self hc (w.2.1 d h)]
      exact Bool.and_false _
    · rw [h0 d (by omega)]; rfl
theorem many_bits {u : US} {H : Int} (wf : WF H u) : manyS u = u 0 7 - ((pcN 31 (noN u) : Nat) : Int) := by
  have b := wF wf
  have lt1 := bs_lt (fun t => decide (u 6 t < 0)) (u 0 7).toNat 0
  have := many_cn u (u 0 7).toNat 0 0
  unfold noN
  rw [pcN_31 (j := (u 0 7).toNat) (by omega) lt1, pc_bs]
  unfold manyS
  omega
theorem cn_snoc (C : Nat → Bool) : ∀ k i, cn C (k + 1) i = cn C k i + (if C (i + k) = true then 1 else 0)
  | 0, i => by
    show (if C i = true then 1 else 0) + 0 = 0 + _
    rw [Nat.add_zero, Nat.zero_add, Nat.add_zero]
  | k + 1, i => by
    have := cn_snoc C k (i + 1)
    show (if C i = true then 1 else 0) + cn C (k + 1) (i + 1) = (if C i = true then 1 else 0) + cn C k (i + 1) + _
    rw [this, show i + 1 + k = i + (k + 1) by omega]
    omega
theorem st_best {u : US} (wu : WF 999 u) {p : Nat} (hp : p < 5) : ∃ c : Nat, c < 24 ∧ frm (stF u p 9) 24 0 (-1, -1) = ((c : Int), stV u p 9 c) ∧ ∀ d, d < 24 → stV u p 9 d ≤ stV u p 9 c := by
  have h := frm_i (stF u p 9) (fun i x => i ≤ 24 → (i = 0 ∧ x = (-1, -1)) ∨ ∃ c : Nat, c < i ∧ x = ((c : Int), stV u p 9 c) ∧ ∀ d, d < i → stV u p 9 d ≤ stV u p 9 c) (fun i x q hi => ?_) 24 0 (-1, -1) (fun _ => .inl ⟨rfl, rfl⟩)
  · rcases h (by decide) with ⟨h, _⟩ | h
    · cases h
    · exact h
  · have b := stV_b wu (p := p) (N := 9) (c := i) hp (by decide) (by omega)
    have e : stF u p 9 i x = if x.2 < stV u p 9 i then ((i : Int), stV u p 9 i) else x := rfl
    right
    rcases q (by omega) with ⟨h1, h2⟩ | ⟨c, h1, h2, h3⟩
    · subst h1
      rw [h2] at e ⊢
      rw [e, if_pos (by show (-1 : Int) < _; omega)]
      refine ⟨0, by omega, rfl, fun d hd => ?_⟩
      rw [show d = 0 by omega]
      exact Int.le_refl _
    · rw [h2] at e ⊢
      by_cases g : stV u p 9 c < stV u p 9 i
      · rw [e, if_pos g]
        refine ⟨i, by omega, rfl, fun d hd => ?_⟩
        by_cases hd2 : d = i
        · rw [hd2]; exact Int.le_refl _
        · have := h3 d (by omega); omega
      · rw [e, if_neg g]
        refine ⟨c, by omega, rfl, fun d hd => ?_⟩
        by_cases hd2 : d = i
        · rw [hd2]; omega
        · exact h3 d (by omega)
theorem stV_here {u : US} (wu : WF 999 u) (p : Nat) : stV u p 9 (u 10 p).toNat = worthsS (hoursS 9 u) (p : Int) := by
  have := (wFp wu p).2.2.2
  unfold stV
  rw [uset_id]
  omega
