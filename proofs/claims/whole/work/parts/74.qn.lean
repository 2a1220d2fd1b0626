/-! a coast told in letters -/
theorem r_all {n len p s : Nat} {M : Mem} {L : Nat → Int} (hn : 2000 ≤ n) (hl : len ≤ 96) (hs : s < 33) (hB : ∀ i, 0 ≤ L i ∧ L i ≤ 255) (hL : ∀ i, i < len → rd M 151 i = L i) (h22 : rd M 137 22 = len) (h23 : rd M 137 23 = ((p + 1 : Nat) : Int)) (hq : p + 1 ≤ len) (h25 : rd M 137 25 = ((3 * s : Nat) : Int)) (hd : 0 < dgN (L p)) :
    Ok (m_X6_readsAll n M (L p)) (fun r M' => RaP L len p s M r M') := by
  rcases dg_cases hd with e | e | e | e | e | e | e
  · have := r_all_102 hn hl hs hB hL h22 h23 hq h25 e
    rw [e]; exact this
  · have := r_all_104 hn hl hs hB hL h22 h23 hq h25 e
    rw [e]; exact this
  · have := r_all_107 hn hl hs hB hL h22 h23 hq h25 e
    rw [e]; exact this
  · have := r_all_109 hn hl hs hB hL h22 h23 hq h25 e
    rw [e]; exact this
  · have := r_all_111 hn hl hs hB hL h22 h23 hq h25 e
    rw [e]; exact this
  · have := r_all_112 hn hl hs hB hL h22 h23 hq h25 e
    rw [e]; exact this
  · have := r_all_116 hn hl hs hB hL h22 h23 hq h25 e
    rw [e]; exact this
def KS1 (M M' : Mem) (s : Nat) : Prop := ∀ q i, ¬ (q = 137 ∧ (i = 23 ∨ i = 25)) → ¬ (q = 154 ∧ 3 * s ≤ i) → ¬ ((q = 152 ∨ q = 153) ∧ i = s) → M' q i = M q i
theorem KS1_trans {M M1 M2 : Mem} {s : Nat} (h : KS1 M M1 s) (h' : KS M1 M2 s) : KS1 M M2 s := fun q i a b c => by rw [h' q i a b trivial, h q i a b c]
def StP (L : Nat → Int) (len p s : Nat) (M : Mem) (r : Int) (M' : Mem) : Prop := KS1 M M' s ∧ (match stm L len p with
  | some x => r = 0 ∧ rd M' 137 23 = x
  | none => r = 1 ∧ rd M' 137 23 = ((p + dgN (L p) + 2 : Nat) : Int) ∧ rd M' 152 s = L p ∧ rd M' 153 s = p ∧ Tld L M' p s)
theorem Tld_keep {L : Nat → Int} {M M' : Mem} {p s : Nat} (h : Tld L M p s) (k : ∀ i, i < 3 * s + 3 → M' 154 i = M 154 i) : Tld L M' p s := by
  unfold Tld
  rw [rd_of (k (3 * s) (by omega)), rd_of (k (3 * s + 1) (by omega)), rd_of (k (3 * s + 2) (by omega))]
  exact h
theorem r_statement {n len p s : Nat} {M : Mem} {L : Nat → Int} (hn : 2000 ≤ n) (hl : len ≤ 96) (hs : s < 33) (hB : ∀ i, 0 ≤ L i ∧ L i ≤ 255) (hL0 : ∀ i, len ≤ i → L i = 0) (hL : ∀ i, i < len → rd M 151 i = L i) (h22 : rd M 137 22 = len) (h23 : rd M 137 23 = p) (hp : p ≤ len) (h24 : rd M 137 24 = s) :
    Ok (m_X6_statement n M) (fun r M' => StP L len p s M r M') := by
  have sg := r_sign (n := n) hL hl h22 h23
  have Bp := hB p
  by_cases hd : 0 < dgN (L p)
  · have hpl : p < len := by
      by_cases c : p < len
      · exact c
      · rw [hL0 p (by omega)] at hd; exact absurd hd (by decide)
    have key : Ok (m_X6_statement_49 n M (L p)) (fun r M' => StP L len p s M r M') := by
      unfold m_X6_statement_49
      rw [h24]
      simp only [Int.toNat_natCast]
      repeat (first
          | with_reducible refine Ok_g (by first | assumption | omega) ?_
          | with_reducible refine Ok_lt ?_
          | with_reducible refine Ok_t (by first | assumption | omega) ?_
          | with_reducible refine Ok_f (by first | assumption | omega) ?_)
      refine Ok_wr ?_
      rw [rd_upne _ _ _ 137 24 _ (by omega), rd_upne _ _ _ 137 23 _ (by omega), h24, h23]
      simp only [Int.toNat_natCast]
      repeat (first
          | with_reducible refine Ok_g (by first | assumption | omega) ?_
          | with_reducible refine Ok_lt ?_
          | with_reducible refine Ok_t (by first | assumption | omega) ?_
          | with_reducible refine Ok_f (by first | assumption | omega) ?_)
      refine Ok_wr ?_
      rw [rd_upne _ _ _ 137 24 _ (by omega), rd_upne _ _ _ 137 24 _ (by omega), h24]
      refine Ok_wr ?_
      rw [rd_upne _ _ _ 137 23 _ (by omega), rd_upne _ _ _ 137 23 _ (by omega), rd_upne _ _ _ 137 23 _ (by omega), h23]
      refine Ok_wr ?_
      generalize hM1 : mup (mup (mup (mup M 152 s (L p)) 153 s (p : Int)) 137 25 (3 * (s : Int))) 137 23 ((p : Int) + 1) = M1
      have f : ∀ q i, ¬ (q = 137 ∧ (i = 23 ∨ i = 25)) → ¬ ((q = 152 ∨ q = 153) ∧ i = s) → M1 q i = M q i := fun q i a b => by
        rw [← hM1, mup_n _ (by omega), mup_n _ (by omega), mup_n _ (by omega), mup_n _ (by omega)]
      have k0 : KS1 M M1 s := fun q i a b c => f q i a c
      have e152 : rd M1 152 s = L p := by
        rw [← hM1, rd_upne _ _ _ _ _ _ (by omega), rd_upne _ _ _ _ _ _ (by omega), rd_upne _ _ _ _ _ _ (by omega), rd_ups _ _ _ (by omega)]
      have e153 : rd M1 153 s = p := by
        rw [← hM1, rd_upne _ _ _ _ _ _ (by omega), rd_upne _ _ _ _ _ _ (by omega), rd_ups _ _ _ (by omega)]
      have e23 : rd M1 137 23 = ((p + 1 : Nat) : Int) := by
        rw [← hM1, rd_ups _ _ _ (by omega)]; omega
      have e25 : rd M1 137 25 = ((3 * s : Nat) : Int) := by
        rw [← hM1, rd_upne _ _ _ _ _ _ (by omega), rd_ups _ _ _ (by omega)]; omega
      have e22 : rd M1 137 22 = len := by rw [rd_of (f _ _ (by omega) (by omega))]; exact h22
      have eL : ∀ i, i < len → rd M1 151 i = L i := fun i hi => by rw [rd_of (f _ _ (by omega) (by omega))]; exact hL i hi
      refine Ok_bd (r_all (s := s) hn hl hs hB eL e22 e23 (by omega) e25 hd) ?_
      rintro r M2 ⟨k2, a2⟩
      have o2 := KS_o k2
      have es : stm L len p = (match chk L len (dgN (L p)) (p + 1) with
        | some x => some x
        | none => if p + dgN (L p) + 1 < len then (if L (p + dgN (L p) + 1) = 59 then none else some (p + dgN (L p) + 1)) else some len) := by
        unfold stm
        rw [if_neg (show ¬ dgN (L p) = 0 by omega)]
        rfl
      unfold StP
      rw [es]
      cases e : chk L len (dgN (L p)) (p + 1) with
      | some x =>
        rw [e] at a2
        obtain ⟨b1, b2⟩ := a2
        repeat (first
            | with_reducible refine Ok_g (by first | assumption | omega) ?_
            | with_reducible refine Ok_lt ?_
            | with_reducible refine Ok_t (by first | assumption | omega) ?_
            | with_reducible refine Ok_f (by first | assumption | omega) ?_)
        exact Ok_ret ⟨KS1_trans k0 k2, by first | rfl | trivial, b2⟩
      | none =>
        rw [e] at a2
        obtain ⟨b1, b2, b3⟩ := a2
        have hle : p + dgN (L p) + 1 ≤ len := by
          have := chk_none _ _ e (dgN (L p) - 1) (by omega)
          omega
        repeat (first
            | with_reducible refine Ok_g (by first | assumption | omega) ?_
            | with_reducible refine Ok_lt ?_
            | with_reducible refine Ok_t (by first | assumption | omega) ?_
            | with_reducible refine Ok_f (by first | assumption | omega) ?_)
        have sg2 := r_sign (n := n) (M := M2) (len := len) (q := p + dgN (L p) + 1) (L := L) (fun i hi => by rw [o2.1]; exact eL i hi) hl (by rw [o2.2]; exact e22) b2
        refine Ok_be sg2 ?_
        by_cases d : p + dgN (L p) + 1 < len
        · have Bq := hB (p + dgN (L p) + 1)
          rw [if_pos d]
          repeat (first
              | with_reducible refine Ok_g (by first | assumption | omega) ?_
              | with_reducible refine Ok_lt ?_
              | with_reducible refine Ok_t (by first | assumption | omega) ?_
              | with_reducible refine Ok_f (by first | assumption | omega) ?_)
          refine Ok_if (fun g => ?_) (fun g => ?_)
          · refine Ok_wr ?_
            rw [b2]
            refine Ok_ret ⟨KS1_trans (KS1_trans k0 k2) (fun q i a b c => mup_n _ (by omega)), ?_⟩
            simp only [if_pos d, if_pos g]
            refine ⟨by trivial, ?_, ?_, ?_, Tld_keep b3 (fun i _ => mup_n _ (by omega))⟩
            · rw [rd_ups _ _ _ (by omega)]; omega
            · rw [rd_upne _ _ _ _ _ _ (by omega), rd_of (k2 152 s (by omega) (by omega) trivial)]
              exact e152
            · rw [rd_upne _ _ _ _ _ _ (by omega), rd_of (k2 153 s (by omega) (by omega) trivial)]
              exact e153
          · refine Ok_ret ⟨KS1_trans k0 k2, ?_⟩
            simp only [if_pos d, if_neg g]
            exact ⟨by trivial, b2⟩
        · rw [if_neg d]
          repeat (first
              | with_reducible refine Ok_g (by first | assumption | omega) ?_
              | with_reducible refine Ok_lt ?_
              | with_reducible refine Ok_t (by first | assumption | omega) ?_
              | with_reducible refine Ok_f (by first | assumption | omega) ?_)
          refine Ok_ret ⟨KS1_trans k0 k2, ?_⟩
          simp only [if_neg d]
          exact ⟨by trivial, by rw [b2]; omega⟩
    unfold m_X6_statement
    refine Ok_be sg ?_
    rw [if_pos hpl]
    repeat (first
        | with_reducible refine Ok_g (by first | assumption | omega) ?_
        | with_reducible refine Ok_lt ?_
        | with_reducible refine Ok_t (by first | assumption | omega) ?_
        | with_reducible refine Ok_f (by first | assumption | omega) ?_)
    rcases dg_cases hd with e | e | e | e | e | e | e
    all_goals
      repeat (first
          | with_reducible refine Ok_g (by first | assumption | omega) ?_
          | with_reducible refine Ok_lt ?_
          | with_reducible refine Ok_t (by first | assumption | omega) ?_
          | with_reducible refine Ok_f (by first | assumption | omega) ?_)
      exact key
  · have es : stm L len p = some p := by unfold stm; rw [if_pos (by omega)]
    have z : ∀ c : Int, 0 < dgN c → L p ≠ c := fun c hc h => hd (by rw [h]; exact hc)
    have n1 := z 102 (by decide)
    have n2 := z 104 (by decide)
    have n3 := z 107 (by decide)
    have n4 := z 109 (by decide)
    have n5 := z 111 (by decide)
    have n6 := z 112 (by decide)
    have n7 := z 116 (by decide)
    unfold m_X6_statement StP
    refine Ok_be sg ?_
    by_cases c : p < len
    · rw [if_pos c, es]
      repeat (first
          | with_reducible refine Ok_g (by first | assumption | omega) ?_
          | with_reducible refine Ok_lt ?_
          | with_reducible refine Ok_t (by first | assumption | omega) ?_
          | with_reducible refine Ok_f (by first | assumption | omega) ?_)
      exact Ok_ret ⟨(fun _ _ _ _ _ => rfl), rfl, h23⟩
    · rw [if_neg c, es]
      repeat (first
          | with_reducible refine Ok_g (by first | assumption | omega) ?_
          | with_reducible refine Ok_lt ?_
          | with_reducible refine Ok_t (by first | assumption | omega) ?_
          | with_reducible refine Ok_f (by first | assumption | omega) ?_)
      exact Ok_ret ⟨(fun _ _ _ _ _ => rfl), rfl, h23⟩
