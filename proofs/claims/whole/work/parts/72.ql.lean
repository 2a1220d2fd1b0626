/-! letters read -/
def chk (L : Nat → Int) (len : Nat) : Nat → Nat → Option Nat
  | 0, _ => none
  | k + 1, q => if q < len then (if 48 ≤ L q ∧ L q ≤ 57 then chk L len k (q + 1) else some q) else some len
theorem chk_none {L : Nat → Int} {len : Nat} : ∀ k q, chk L len k q = none → ∀ i, i < k → q + i < len ∧ 48 ≤ L (q + i) ∧ L (q + i) ≤ 57
  | 0, _, _, i, hi => absurd hi (by omega)
  | k + 1, q, h, i, hi => by
    rw [chk] at h
    by_cases c : q < len
    · rw [if_pos c] at h
      by_cases d : 48 ≤ L q ∧ L q ≤ 57
      · rw [if_pos d] at h
        cases i with
        | zero => exact ⟨c, d⟩
        | succ i =>
          have := chk_none k (q + 1) h i (by omega)
          rw [show q + (i + 1) = q + 1 + i by omega]
          exact this
      · rw [if_neg d] at h; cases h
    · rw [if_neg c] at h; cases h
theorem chk_le {L : Nat → Int} {len : Nat} : ∀ k q x, chk L len k q = some x → x ≤ len
  | 0, _, _, h => by cases h
  | k + 1, q, x, h => by
    rw [chk] at h
    by_cases c : q < len
    · rw [if_pos c] at h
      by_cases d : 48 ≤ L q ∧ L q ≤ 57
      · rw [if_pos d] at h; exact chk_le k _ _ h
      · rw [if_neg d] at h; cases h; omega
    · rw [if_neg c] at h; cases h; omega
theorem chk_add {L : Nat → Int} {len : Nat} : ∀ k j q, chk L len (k + j) q = (match chk L len k q with | some x => some x | none => chk L len j (q + k))
  | 0, j, q => by
    rw [Nat.zero_add]
    rfl
  | k + 1, j, q => by
    rw [show k + 1 + j = (k + j) + 1 by omega, chk, chk]
    by_cases c : q < len
    · rw [if_pos c, if_pos c]
      by_cases d : 48 ≤ L q ∧ L q ≤ 57
      · rw [if_pos d, if_pos d, chk_add k j (q + 1), show q + 1 + k = q + (k + 1) by omega]
      · rw [if_neg d, if_neg d]
    · rw [if_neg c, if_neg c]
def stm (L : Nat → Int) (len p : Nat) : Option Nat :=
  if dgN (L p) = 0 then some p else match chk L len (dgN (L p)) (p + 1) with
  | some x => some x
  | none => if p + dgN (L p) + 1 < len then (if L (p + dgN (L p) + 1) = 59 then none else some (p + dgN (L p) + 1)) else some len
def wrS (L : Nat → Int) (len : Nat) : Nat → Nat → Option Nat
  | 0, _ => none
  | k + 1, p => if p < len then (match stm L len p with | some x => some x | none => wrS L len k (p + dgN (L p) + 2)) else none
theorem stm_le {L : Nat → Int} {len p x : Nat} (hp : p ≤ len) (h : stm L len p = some x) : x ≤ len := by
  unfold stm at h
  by_cases c : dgN (L p) = 0
  · rw [if_pos c] at h; cases h; exact hp
  · rw [if_neg c] at h
    cases e : chk L len (dgN (L p)) (p + 1) with
    | some y =>
      rw [e] at h
      cases h
      exact chk_le _ _ _ e
    | none =>
      rw [e] at h
      by_cases d : p + dgN (L p) + 1 < len
      · simp only [if_pos d] at h
        by_cases g : L (p + dgN (L p) + 1) = 59
        · rw [if_pos g] at h; cases h
        · rw [if_neg g] at h; cases h; omega
      · simp only [if_neg d] at h; cases h; omega
theorem dgN_le (c : Int) : dgN c ≤ 4 := by
  unfold dgN
  repeat' split
  all_goals omega
theorem stm_none {L : Nat → Int} {len p : Nat} (h : stm L len p = none) : DgOk L p ∧ p + dgN (L p) + 1 < len ∧ L (p + dgN (L p) + 1) = 59 ∧ chk L len (dgN (L p)) (p + 1) = none := by
  unfold stm at h
  by_cases c : dgN (L p) = 0
  · rw [if_pos c] at h; cases h
  · rw [if_neg c] at h
    cases e : chk L len (dgN (L p)) (p + 1) with
    | some y => rw [e] at h; cases h
    | none =>
      rw [e] at h
      by_cases d : p + dgN (L p) + 1 < len
      · simp only [if_pos d] at h
        by_cases g : L (p + dgN (L p) + 1) = 59
        · refine ⟨⟨by omega, fun i h1 h2 => ?_⟩, d, g, rfl⟩
          have := chk_none _ _ e (i - 1) (by omega)
          rw [show p + 1 + (i - 1) = p + i by omega] at this
          exact this.2
        · rw [if_neg g] at h; cases h
      · simp only [if_neg d] at h; cases h
theorem e_digitsBehind {n : Nat} {M : Mem} {c : Int} (hc : I32 c) : m_X5_digitsBehind n M c = some (if dgN c = 0 then -1 else ((dgN c : Nat) : Int), M) := by
  refine Ok_eq ?_
  unfold m_X5_digitsBehind
  refine Ok_g hc ?_
  by_cases h : 0 < dgN c
  · rw [if_neg (show ¬ dgN c = 0 by omega)]
    rcases dg_cases h with e | e | e | e | e | e | e
    all_goals subst e
    all_goals exact Ok_ret ⟨rfl, rfl⟩
  · rw [if_pos (show dgN c = 0 by omega)]
    have n1 : c ≠ 102 := by intro z; rw [z] at h; exact h (by decide)
    have n2 : c ≠ 104 := by intro z; rw [z] at h; exact h (by decide)
    have n3 : c ≠ 107 := by intro z; rw [z] at h; exact h (by decide)
    have n4 : c ≠ 109 := by intro z; rw [z] at h; exact h (by decide)
    have n5 : c ≠ 111 := by intro z; rw [z] at h; exact h (by decide)
    have n6 : c ≠ 112 := by intro z; rw [z] at h; exact h (by decide)
    have n7 : c ≠ 116 := by intro z; rw [z] at h; exact h (by decide)
    repeat' (first
        | with_reducible refine Ok_g (by first | assumption | omega) ?_
        | with_reducible refine Ok_lt ?_
        | with_reducible refine Ok_t (by first | assumption | omega) ?_
        | with_reducible refine Ok_f (by first | assumption | omega) ?_
        | with_reducible refine Ok_ret ?_
        | with_reducible refine Ok_if (fun _ => ?_) (fun _ => ?_))
    all_goals exact ⟨rfl, rfl⟩
theorem e_isDigit {n : Nat} {M : Mem} {c : Int} (hc : I32 c) : m_X5_isDigit n M c = some (if 48 ≤ c ∧ c ≤ 57 then 1 else 0, M) := by
  refine Ok_eq ?_
  unfold m_X5_isDigit
  repeat' (first
      | with_reducible refine Ok_g (by first | assumption | omega) ?_
      | with_reducible refine Ok_lt ?_
      | with_reducible refine Ok_t (by first | assumption | omega) ?_
      | with_reducible refine Ok_f (by first | assumption | omega) ?_
      | with_reducible refine Ok_ret ?_
      | with_reducible refine Ok_if (fun _ => ?_) (fun _ => ?_))
  all_goals exact ⟨by omega, rfl⟩
def oI (o : Option Nat) : Int := match o with
  | some x => (x : Int)
  | none => -1
theorem e_wrong_31 {n len p d : Nat} {M : Mem} {L : Nat → Int} {k8 : Mem → Int → Int → Rs} {P : Int → Mem → Prop} (hL : ∀ i, i < len → rd M 132 i = L i) (hl : len ≤ 96) (hp : p < len) (hd : d ≤ 4) (hd1 : 0 < d) : ∀ k t (i : Nat), i + k = d + 1 → k < t → 1 ≤ i →
    (match chk L len k (p + i) with | some x => P (x : Int) M | none => (if p + d + 1 < len then (if L (p + d + 1) = 59 then Ok (k8 M (len : Int) ((p + d + 2 : Nat) : Int)) P else P ((p + d + 1 : Nat) : Int) M) else P (len : Int) M)) →
    Ok (m_X5_wrongLetter_31 n k8 t M (len : Int) (p : Int) (d : Int) (i : Int)) P := by
  intro k
  induction k with
  | zero =>
    intro t i hi ht h1 h
    cases t with
    | zero => omega
    | succ t =>
      rw [m_X5_wrongLetter_31]
      repeat (first
          | with_reducible refine Ok_g (by first | assumption | omega) ?_
          | with_reducible refine Ok_lt ?_
          | with_reducible refine Ok_t (by first | assumption | omega) ?_
          | with_reducible refine Ok_f (by first | assumption | omega) ?_)
      simp only [chk] at h
      by_cases c : p + d + 1 < len
      · rw [if_pos c] at h
        repeat (first
            | with_reducible refine Ok_g (by first | assumption | omega) ?_
            | with_reducible refine Ok_lt ?_
            | with_reducible refine Ok_t (by first | assumption | omega) ?_
            | with_reducible refine Ok_f (by first | assumption | omega) ?_)
        rw [show (p : Int) + (d : Int) + 1 = ((p + d + 1 : Nat) : Int) by omega]
        refine Ok_be (e_letterAt (by omega)) ?_
        have r := rd_rng M 132 (p + d + 1)
        rw [hL _ c] at r ⊢
        repeat (first
            | with_reducible refine Ok_g (by first | assumption | omega) ?_
            | with_reducible refine Ok_lt ?_
            | with_reducible refine Ok_t (by first | assumption | omega) ?_
            | with_reducible refine Ok_f (by first | assumption | omega) ?_)
        by_cases g : L (p + d + 1) = 59
        · rw [if_pos g] at h
          repeat (first
              | with_reducible refine Ok_g (by first | assumption | omega) ?_
              | with_reducible refine Ok_lt ?_
              | with_reducible refine Ok_t (by first | assumption | omega) ?_
              | with_reducible refine Ok_f (by first | assumption | omega) ?_)
          exact h
        · rw [if_neg g] at h
          repeat (first
              | with_reducible refine Ok_g (by first | assumption | omega) ?_
              | with_reducible refine Ok_lt ?_
              | with_reducible refine Ok_t (by first | assumption | omega) ?_
              | with_reducible refine Ok_f (by first | assumption | omega) ?_)
          exact Ok_ret h
      · rw [if_neg c] at h
        repeat (first
            | with_reducible refine Ok_g (by first | assumption | omega) ?_
            | with_reducible refine Ok_lt ?_
            | with_reducible refine Ok_t (by first | assumption | omega) ?_
            | with_reducible refine Ok_f (by first | assumption | omega) ?_)
        exact Ok_ret h
  | succ k ih =>
    intro t i hi ht h1 h
    cases t with
    | zero => omega
    | succ t =>
      rw [m_X5_wrongLetter_31]
      repeat (first
          | with_reducible refine Ok_g (by first | assumption | omega) ?_
          | with_reducible refine Ok_lt ?_
          | with_reducible refine Ok_t (by first | assumption | omega) ?_
          | with_reducible refine Ok_f (by first | assumption | omega) ?_)
      rw [chk] at h
      by_cases c : p + i < len
      · rw [if_pos c] at h
        repeat (first
            | with_reducible refine Ok_g (by first | assumption | omega) ?_
            | with_reducible refine Ok_lt ?_
            | with_reducible refine Ok_t (by first | assumption | omega) ?_
            | with_reducible refine Ok_f (by first | assumption | omega) ?_)
        rw [show (p : Int) + (i : Int) = ((p + i : Nat) : Int) by omega]
        refine Ok_be (e_letterAt (by omega)) ?_
        have r := rd_rng M 132 (p + i)
        rw [hL _ c] at r ⊢
        refine Ok_be (e_isDigit r) ?_
        by_cases g : 48 ≤ L (p + i) ∧ L (p + i) ≤ 57
        · rw [if_pos g] at h ⊢
          repeat (first
              | with_reducible refine Ok_g (by first | assumption | omega) ?_
              | with_reducible refine Ok_lt ?_
              | with_reducible refine Ok_t (by first | assumption | omega) ?_
              | with_reducible refine Ok_f (by first | assumption | omega) ?_)
          refine ih t (i + 1) (by omega) (by omega) (by omega) ?_
          rw [show p + (i + 1) = p + i + 1 by omega]
          exact h
        · rw [if_neg g] at h ⊢
          repeat (first
              | with_reducible refine Ok_g (by first | assumption | omega) ?_
              | with_reducible refine Ok_lt ?_
              | with_reducible refine Ok_t (by first | assumption | omega) ?_
              | with_reducible refine Ok_f (by first | assumption | omega) ?_)
          exact Ok_ret h
      · rw [if_neg c] at h
        repeat (first
            | with_reducible refine Ok_g (by first | assumption | omega) ?_
            | with_reducible refine Ok_lt ?_
            | with_reducible refine Ok_t (by first | assumption | omega) ?_
            | with_reducible refine Ok_f (by first | assumption | omega) ?_)
        exact Ok_ret h
theorem e_wrong_8 {n len : Nat} {M : Mem} {L : Nat → Int} (hn : 2000 ≤ n) (hL : ∀ i, i < len → rd M 132 i = L i) (hl : len ≤ 96) : ∀ k t (p : Nat), len < k + p → k < t → p ≤ len → Ok (m_X5_wrongLetter_8 n t M (len : Int) (p : Int)) (fun r M' => r = oI (wrS L len k p) ∧ M' = M) := by
  intro k
  induction k with
  | zero => intro t p hk ht hp; omega
  | succ k ih =>
    intro t p hk ht hp
    cases t with
    | zero => omega
    | succ t =>
      rw [m_X5_wrongLetter_8, wrS]
      by_cases c : p < len
      · rw [if_pos c]
        repeat (first
            | with_reducible refine Ok_g (by first | assumption | omega) ?_
            | with_reducible refine Ok_lt ?_
            | with_reducible refine Ok_t (by first | assumption | omega) ?_
            | with_reducible refine Ok_f (by first | assumption | omega) ?_)
        refine Ok_be (e_letterAt (by omega)) ?_
        have r := rd_rng M 132 p
        rw [hL p c] at r ⊢
        refine Ok_be (e_digitsBehind r) ?_
        have dl := dgN_le (L p)
        by_cases g : dgN (L p) = 0
        · have es : stm L len p = some p := by unfold stm; rw [if_pos g]
          rw [if_pos g, es]
          repeat (first
              | with_reducible refine Ok_g (by first | assumption | omega) ?_
              | with_reducible refine Ok_lt ?_
              | with_reducible refine Ok_t (by first | assumption | omega) ?_
              | with_reducible refine Ok_f (by first | assumption | omega) ?_)
          exact Ok_ret ⟨rfl, rfl⟩
        · rw [if_neg g]
          repeat (first
              | with_reducible refine Ok_g (by first | assumption | omega) ?_
              | with_reducible refine Ok_lt ?_
              | with_reducible refine Ok_t (by first | assumption | omega) ?_
              | with_reducible refine Ok_f (by first | assumption | omega) ?_)
          refine e_wrong_31 hL hl c dl (by omega) (dgN (L p)) n 1 (by omega) (by omega) (by omega) ?_
          have es : stm L len p = (match chk L len (dgN (L p)) (p + 1) with
            | some x => some x
            | none => if p + dgN (L p) + 1 < len then (if L (p + dgN (L p) + 1) = 59 then none else some (p + dgN (L p) + 1)) else some len) := by
            unfold stm
            rw [if_neg g]
          rw [es]
          cases e : chk L len (dgN (L p)) (p + 1) with
          | some x => exact ⟨rfl, rfl⟩
          | none =>
            by_cases d : p + dgN (L p) + 1 < len
            · simp only [if_pos d]
              by_cases g2 : L (p + dgN (L p) + 1) = 59
              · simp only [if_pos g2]
                exact ih t (p + dgN (L p) + 2) (by omega) (by omega) (by omega)
              · simp only [if_neg g2]
                exact ⟨by trivial, by trivial⟩
            · simp only [if_neg d]
              exact ⟨by trivial, by trivial⟩
      · rw [if_neg c]
        repeat (first
            | with_reducible refine Ok_g (by first | assumption | omega) ?_
            | with_reducible refine Ok_lt ?_
            | with_reducible refine Ok_t (by first | assumption | omega) ?_
            | with_reducible refine Ok_f (by first | assumption | omega) ?_)
        exact Ok_ret ⟨rfl, rfl⟩
/-! the second side reads -/
def KS (M M' : Mem) (s : Nat) : Prop := ∀ q i, ¬ (q = 137 ∧ (i = 23 ∨ i = 25)) → ¬ (q = 154 ∧ 3 * s ≤ i) → True → M' q i = M q i
theorem KS_refl (M : Mem) (s : Nat) : KS M M s := fun _ _ _ _ _ => rfl
theorem KS_trans {M M1 M2 : Mem} {s : Nat} (h : KS M M1 s) (h' : KS M1 M2 s) : KS M M2 s := fun q i a b c => by rw [h' q i a b c, h q i a b c]
theorem r_sign {n len q : Nat} {M : Mem} {L : Nat → Int} (hL : ∀ i, i < len → rd M 151 i = L i) (hl : len ≤ 96) (h22 : rd M 137 22 = len) (h23 : rd M 137 23 = q) : m_X6_sign n M = some (if q < len then L q else -1, M) := by
  refine Ok_eq ?_
  unfold m_X6_sign
  rw [h22, h23]
  by_cases c : q < len
  · rw [if_pos c]
    repeat (first
        | with_reducible refine Ok_g (by first | assumption | omega) ?_
        | with_reducible refine Ok_lt ?_
        | with_reducible refine Ok_t (by first | assumption | omega) ?_
        | with_reducible refine Ok_f (by first | assumption | omega) ?_)
    exact Ok_ret ⟨by rw [Int.toNat_natCast, hL q c], rfl⟩
  · rw [if_neg c]
    repeat (first
        | with_reducible refine Ok_g (by first | assumption | omega) ?_
        | with_reducible refine Ok_lt ?_
        | with_reducible refine Ok_t (by first | assumption | omega) ?_
        | with_reducible refine Ok_f (by first | assumption | omega) ?_)
    exact Ok_ret ⟨rfl, rfl⟩
def vaS (L : Nat → Int) : Nat → Nat → Int → Int
  | 0, _, v => v
  | k + 1, q, v => vaS L k (q + 1) (10 * v + L q - 48)
theorem r_digits_4 {n len D tl s : Nat} {L : Nat → Int} (hl : len ≤ 96) (hD : D ≤ 4) (htl : tl < 99) (hts : 3 * s ≤ tl) : ∀ (k t i q : Nat) (v : Int) (M : Mem), i + k = D → k < t → (∀ i, i < len → rd M 151 i = L i) → rd M 137 22 = len → rd M 137 23 = q → q ≤ len → rd M 137 25 = tl →
    I32 (vaS L k q v) → Ok (m_X6_readsDigits_4 n t M (D : Int) v (i : Int)) (fun r M' => KS M M' s ∧ (∀ j, ¬ (j = 154 ∧ True) → True) ∧ (match chk L len k q with
      | some x => r = 0 ∧ rd M' 137 23 = x
      | none => r = 1 ∧ rd M' 137 23 = ((q + k : Nat) : Int) ∧ rd M' 137 25 = ((tl + 1 : Nat) : Int) ∧ rd M' 154 tl = vaS L k q v ∧ ∀ j, j ≠ tl → M' 154 j = M 154 j)) := by
  intro k
  induction k with
  | zero =>
    intro t i q v M hi ht hL h22 h23 hql h25 hv
    cases t with
    | zero => omega
    | succ t =>
      rw [m_X6_readsDigits_4, h25]
      simp only [Int.toNat_natCast]
      repeat (first
          | with_reducible refine Ok_g (by first | assumption | omega) ?_
          | with_reducible refine Ok_lt ?_
          | with_reducible refine Ok_t (by first | assumption | omega) ?_
          | with_reducible refine Ok_f (by first | assumption | omega) ?_)
      refine Ok_wr ?_
      rw [rd_upne _ _ _ 137 25 _ (by omega), h25]
      refine Ok_wr (Ok_ret ⟨?_, fun _ _ => trivial, ?_⟩)
      · intro a b h1 h2 h3
        rw [mup_n _ (by omega), mup_n _ (by omega)]
      · simp only [chk]
        refine ⟨by trivial, ?_, ?_, ?_, ?_⟩
        · rw [rd_upne _ _ _ _ _ _ (by omega), rd_upne _ _ _ _ _ _ (by omega), h23]; omega
        · rw [rd_ups _ _ _ (by omega)]; omega
        · rw [rd_upne _ _ _ _ _ _ (by omega), rd_ups _ _ _ (show I32 v from hv)]; rfl
        · intro j hj
          rw [mup_n _ (by omega), mup_n _ (by omega)]
  | succ k ih =>
    intro t i q v M hi ht hL h22 h23 hql h25 hv
    cases t with
    | zero => omega
    | succ t =>
      rw [m_X6_readsDigits_4, chk]
      repeat (first
          | with_reducible refine Ok_g (by first | assumption | omega) ?_
          | with_reducible refine Ok_lt ?_
          | with_reducible refine Ok_t (by first | assumption | omega) ?_
          | with_reducible refine Ok_f (by first | assumption | omega) ?_)
      have sg := r_sign (n := n) hL hl h22 h23
      refine Ok_be sg ?_
      have rL : I32 (if q < len then L q else -1) := by
        by_cases c : q < len
        · rw [if_pos c, ← hL q c]; exact rd_rng _ _ _
        · rw [if_neg c]; decide
      refine Ok_be (r_isIn rL (by decide) (by decide)) ?_
      by_cases c : q < len
      · rw [if_pos c] at sg ⊢
        by_cases g : 48 ≤ L q ∧ L q ≤ 57
        · simp only [if_pos c, if_pos g]
          repeat (first
              | with_reducible refine Ok_g (by first | assumption | omega) ?_
              | with_reducible refine Ok_lt ?_
              | with_reducible refine Ok_t (by first | assumption | omega) ?_
              | with_reducible refine Ok_f (by first | assumption | omega) ?_)
          refine Ok_be sg ?_
          repeat (first
              | with_reducible refine Ok_g (by first | assumption | omega) ?_
              | with_reducible refine Ok_lt ?_
              | with_reducible refine Ok_t (by first | assumption | omega) ?_
              | with_reducible refine Ok_f (by first | assumption | omega) ?_)
          rw [h23]
          refine Ok_wr ?_
          have f : ∀ a b, ¬ (a = 137 ∧ b = 23) → rd (mup M 137 23 ((q : Int) + 1)) a b = rd M a b := fun a b h => rd_upne _ _ _ _ _ _ (by omega)
          refine Ok_mono (ih t (i + 1) (q + 1) (10 * v + L q - 48) _ (by omega) (by omega) (fun i hi => by rw [f _ _ (by omega)]; exact hL i hi) (by rw [f _ _ (by omega)]; exact h22) (by rw [rd_ups _ _ _ (by omega)]; omega) (by omega) (by rw [f _ _ (by omega)]; exact h25) hv) ?_
          rintro r M' ⟨h1, _, h2⟩
          refine ⟨KS_trans (fun a b h1 h2 h3 => mup_n _ (by omega)) h1, fun _ _ => trivial, ?_⟩
          cases e : chk L len k (q + 1) with
          | some x => rw [e] at h2; exact h2
          | none =>
            rw [e] at h2
            refine ⟨h2.1, by rw [h2.2.1]; omega, h2.2.2.1, h2.2.2.2.1, fun j hj => by rw [h2.2.2.2.2 j hj, mup_n _ (by omega)]⟩
        · simp only [if_pos c, if_neg g]
          repeat (first
              | with_reducible refine Ok_g (by first | assumption | omega) ?_
              | with_reducible refine Ok_lt ?_
              | with_reducible refine Ok_t (by first | assumption | omega) ?_
              | with_reducible refine Ok_f (by first | assumption | omega) ?_)
          exact Ok_ret ⟨KS_refl M s, fun _ _ => trivial, by trivial, h23⟩
      · simp only [if_neg c]
        repeat (first
            | with_reducible refine Ok_g (by first | assumption | omega) ?_
            | with_reducible refine Ok_lt ?_
            | with_reducible refine Ok_t (by first | assumption | omega) ?_
            | with_reducible refine Ok_f (by first | assumption | omega) ?_)
        exact Ok_ret ⟨KS_refl M s, fun _ _ => trivial, by trivial, by rw [h23]; omega⟩
