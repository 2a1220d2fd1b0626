/-! counting bits -/
def pcN : Nat → Nat → Nat
  | 0, _ => 0
  | k + 1, m => m % 2 + pcN k (m / 2)
theorem pcN_0 : ∀ k, pcN k 0 = 0
  | 0 => rfl
  | k + 1 => by
    show 0 % 2 + pcN k (0 / 2) = 0
    rw [show 0 / 2 = 0 from rfl, pcN_0 k]
theorem pcN_le : ∀ k m, pcN k m ≤ k
  | 0, _ => Nat.le_refl _
  | k + 1, m => by
    have := pcN_le k (m / 2)
    show m % 2 + pcN k (m / 2) ≤ k + 1
    omega
theorem pcN_add : ∀ j k m, pcN (j + k) m = pcN j m + pcN k (m / 2 ^ j)
  | 0, k, m => by
    rw [Nat.zero_add, Nat.pow_zero, Nat.div_one]
    show _ = 0 + _
    omega
  | j + 1, k, m => by
    rw [show j + 1 + k = (j + k) + 1 by omega]
    show m % 2 + pcN (j + k) (m / 2) = (m % 2 + pcN j (m / 2)) + _
    rw [pcN_add j k (m / 2), Nat.div_div_eq_div_mul, Nat.pow_succ, Nat.mul_comm 2]
    omega
theorem pcN_mod : ∀ j m, pcN j (m % 2 ^ j) = pcN j m
  | 0, _ => rfl
  | j + 1, m => by
    show m % 2 ^ (j + 1) % 2 + pcN j (m % 2 ^ (j + 1) / 2) = m % 2 + pcN j (m / 2)
    have e1 : m % 2 ^ (j + 1) % 2 = m % 2 := by
      rw [Nat.pow_succ, Nat.mul_comm]; exact Nat.mod_mul_right_mod m 2 (2 ^ j)
    have e2 : m % 2 ^ (j + 1) / 2 = (m / 2) % 2 ^ j := by
      rw [Nat.pow_succ, Nat.mul_comm]; exact Nat.mod_mul_right_div_self m 2 (2 ^ j)
    rw [e1, e2, pcN_mod j (m / 2)]
theorem pcN_small {j k m : Nat} (h : m < 2 ^ j) : pcN (j + k) m = pcN j m := by
  rw [pcN_add, Nat.div_eq_of_lt h, pcN_0]; omega
theorem pcN_31 {j m : Nat} (hj : j ≤ 31) (h : m < 2 ^ j) : pcN 31 m = pcN j m := by
  have := pcN_small (k := 31 - j) h
  rw [show j + (31 - j) = 31 by omega] at this
  exact this
/-- the second side's count -/
theorem sh_and1 (m i : Nat) : (m >>> i) &&& 1 = (m / 2 ^ i) % 2 := by
  rw [Nat.shiftRight_eq_div_pow, show (1 : Nat) = 2 ^ 1 - 1 from rfl, Nat.and_two_pow_sub_one_eq_mod]
theorem b_sh1 {m i : Nat} (hm : m < 2147483648) (hi : i < 32) : bAnd (bShr (m : Int) (i : Int)) 1 = ((m / 2 ^ i % 2 : Nat) : Int) := by
  rw [nShr hi hm, show (1 : Int) = ((1 : Nat) : Int) from rfl, nAnd (Nat.lt_of_le_of_lt (Nat.shiftRight_le m i) hm) (by decide), sh_and1]
/-! the first side's count, byte by byte -/
theorem and_split (p q r s : Nat) (hp : p < 256) (hr : r < 256) : (p + 256 * q) &&& (r + 256 * s) = (p &&& r) + 256 * (q &&& s) := by
  have hm : ((p + 256 * q) &&& (r + 256 * s)) % 2 ^ 8 = p &&& r := by
    rw [Nat.and_mod_two_pow]
    congr 1 <;> omega
  have hd : ((p + 256 * q) &&& (r + 256 * s)) / 2 ^ 8 = q &&& s := by
    rw [Nat.and_div_two_pow]
    congr 1 <;> omega
  have := Nat.div_add_mod ((p + 256 * q) &&& (r + 256 * s)) (2 ^ 8)
  rw [hm, hd] at this
  omega
def w1 (a : Nat) : Nat := a - ((a >>> 1) &&& 85)
def w2 (a : Nat) : Nat := (a &&& 51) + ((a >>> 2) &&& 51)
def w3 (a : Nat) : Nat := (a + a >>> 4) &&& 15
theorem low1 : ∀ a, a < 256 → ((a >>> 1) + 128) &&& 85 = (a >>> 1) &&& 85 := by decide +kernel
theorem low2 : ∀ a, a < 256 → ((a >>> 2) + 64) &&& 51 = (a >>> 2) &&& 51 ∧ ((a >>> 2) + 128) &&& 51 = (a >>> 2) &&& 51 ∧ ((a >>> 2) + 192) &&& 51 = (a >>> 2) &&& 51 := by decide +kernel
theorem tab : ∀ a, a < 256 → w3 (w2 (w1 a)) = pcN 8 a ∧ (a >>> 1) &&& 85 ≤ a ∧ w1 a < 256 ∧ w2 (w1 a) ≤ 68 ∧ (w2 (w1 a)) % 16 ≤ 4 := by decide +kernel
theorem tab4 : ∀ a, a < 256 → a % 16 ≤ 4 → a ≤ 68 → ∀ c, c < 5 → ((a + a >>> 4) + 16 * c) &&& 15 = w3 a := by decide +kernel
theorem s1 (a y : Nat) (ha : a < 256) (m : Nat) : ((a + 256 * y) >>> 1) &&& (85 + 256 * m) = ((a >>> 1) &&& 85) + 256 * ((y >>> 1) &&& m) := by
  have e : (a + 256 * y) >>> 1 = ((a >>> 1) + 128 * (y % 2)) + 256 * (y >>> 1) := by
    simp only [Nat.shiftRight_eq_div_pow, Nat.pow_one]; omega
  rw [e, and_split _ _ _ _ (by simp only [Nat.shiftRight_eq_div_pow, Nat.pow_one]; omega) (by decide)]
  have : y % 2 = 0 ∨ y % 2 = 1 := by omega
  rcases this with h | h
  · rw [h]; rfl
  · rw [h, show 128 * 1 = 128 from rfl, low1 a ha]
theorem s2 (a y : Nat) (ha : a < 256) (m : Nat) : ((a + 256 * y) >>> 2) &&& (51 + 256 * m) = ((a >>> 2) &&& 51) + 256 * ((y >>> 2) &&& m) := by
  have e : (a + 256 * y) >>> 2 = ((a >>> 2) + 64 * (y % 4)) + 256 * (y >>> 2) := by
    simp only [Nat.shiftRight_eq_div_pow]; omega
  rw [e, and_split _ _ _ _ (by simp only [Nat.shiftRight_eq_div_pow]; omega) (by decide)]
  have l := low2 a ha
  have : y % 4 = 0 ∨ y % 4 = 1 ∨ y % 4 = 2 ∨ y % 4 = 3 := by omega
  rcases this with h | h | h | h
  · rw [h]; rfl
  · rw [h, show 64 * 1 = 64 from rfl, l.1]
  · rw [h, show 64 * 2 = 128 from rfl, l.2.1]
  · rw [h, show 64 * 3 = 192 from rfl, l.2.2]
theorem bAndM {m k : Nat} {b : Int} (hb : b = (k : Int)) (hm : m < 2147483648) (hk : k < 2147483648) : bAnd (m : Int) b = ((m &&& k : Nat) : Int) := by
  rw [hb]; exact nAnd hm hk
theorem e_bitCount {n : Nat} {M : Mem} {m : Nat} (hm : m < 16777216) : m_J6_bitCount_0f7a4 n M (m : Int) = some (((pcN 31 m : Nat) : Int), M) := by
  obtain ⟨a, b, c, ha, hb, hc, rfl⟩ : ∃ a b c : Nat, a < 256 ∧ b < 256 ∧ c < 256 ∧ m = a + 256 * (b + 256 * c) := ⟨m % 256, m / 256 % 256, m / 65536, by omega, by omega, by omega, by omega⟩
  have ta := tab a ha
  have tb := tab b hb
  have tc := tab c hc
  have p : pcN 31 (a + 256 * (b + 256 * c)) = pcN 8 a + pcN 8 b + pcN 8 c := by
    rw [pcN_31 (j := 8 + (8 + 8)) (by decide) (by omega), pcN_add, pcN_add, ← pcN_mod 8 (a + 256 * (b + 256 * c)), ← pcN_mod 8 ((a + 256 * (b + 256 * c)) / 2 ^ 8)]
    rw [show (a + 256 * (b + 256 * c)) % 2 ^ 8 = a by omega, show (a + 256 * (b + 256 * c)) / 2 ^ 8 % 2 ^ 8 = b by omega, show (a + 256 * (b + 256 * c)) / 2 ^ 8 / 2 ^ 8 = c by omega]
    omega
  rw [p]
  unfold m_J6_bitCount_0f7a4
  simp only [lt]
  -- first words
  have q1 : bAnd (bUshr ((a + 256 * (b + 256 * c) : Nat) : Int) 1) 1431655765 = (((a >>> 1) &&& 85) + 256 * (((b >>> 1) &&& 85) + 256 * ((c >>> 1) &&& 85)) : Nat) := by
    rw [show (1 : Int) = ((1 : Nat) : Int) from rfl, nUshr (by decide) (by omega), bAndM (k := 85 + 256 * (85 + 256 * (85 + 256 * 85))) (by decide) (by rw [Nat.shiftRight_eq_div_pow]; omega) (by decide), s1 a _ ha, s1 b _ hb]
    have := s1 c 0 hc 85
    rw [show c + 256 * 0 = c by omega, show (0 >>> 1) &&& 85 = 0 from rfl, Nat.mul_zero, Nat.add_zero] at this
    rw [this, Nat.add_zero]
  have hd : (((a + 256 * (b + 256 * c) : Nat) : Int) - (((a >>> 1) &&& 85) + 256 * (((b >>> 1) &&& 85) + 256 * ((c >>> 1) &&& 85)) : Nat)) = ((w1 a + 256 * (w1 b + 256 * w1 c) : Nat) : Int) := by
    unfold w1 at *
    omega
  rw [q1, hd]
  have q2 : bAnd ((w1 a + 256 * (w1 b + 256 * w1 c) : Nat) : Int) 858993459 = (((w1 a) &&& 51) + 256 * (((w1 b) &&& 51) + 256 * ((w1 c) &&& 51)) : Nat) := by
    rw [bAndM (k := 51 + 256 * (51 + 256 * (51 + 256 * 51))) (by decide) (by omega) (by decide), and_split _ _ _ _ ta.2.2.1 (by decide), and_split _ _ _ _ tb.2.2.1 (by decide)]
    have := and_split (w1 c) 0 51 51 tc.2.2.1 (by decide)
    rw [show w1 c + 256 * 0 = w1 c by omega, show 0 &&& 51 = 0 from rfl, Nat.mul_zero, Nat.add_zero] at this
    rw [this, Nat.add_zero]
  have q3 : bAnd (bUshr ((w1 a + 256 * (w1 b + 256 * w1 c) : Nat) : Int) 2) 858993459 = (((w1 a >>> 2) &&& 51) + 256 * (((w1 b >>> 2) &&& 51) + 256 * ((w1 c >>> 2) &&& 51)) : Nat) := by
    rw [show (2 : Int) = ((2 : Nat) : Int) from rfl, nUshr (by decide) (by omega), bAndM (k := 51 + 256 * (51 + 256 * (51 + 256 * 51))) (by decide) (by rw [Nat.shiftRight_eq_div_pow]; omega) (by decide), s2 _ _ ta.2.2.1, s2 _ _ tb.2.2.1]
    have := s2 (w1 c) 0 tc.2.2.1 51
    rw [show w1 c + 256 * 0 = w1 c by omega, show (0 >>> 2) &&& 51 = 0 from rfl, Nat.mul_zero, Nat.add_zero] at this
    rw [this, Nat.add_zero]
  have he : ((((w1 a) &&& 51) + 256 * (((w1 b) &&& 51) + 256 * ((w1 c) &&& 51)) : Nat) : Int) + (((w1 a >>> 2) &&& 51) + 256 * (((w1 b >>> 2) &&& 51) + 256 * ((w1 c >>> 2) &&& 51)) : Nat) = ((w2 (w1 a) + 256 * (w2 (w1 b) + 256 * w2 (w1 c)) : Nat) : Int) := by
    unfold w2
    omega
  rw [q2, q3, he]
  have ma : w2 (w1 a) ≤ 68 ∧ w2 (w1 b) ≤ 68 ∧ w2 (w1 c) ≤ 68 := ⟨ta.2.2.2.1, tb.2.2.2.1, tc.2.2.2.1⟩
  have q4 : bAnd (((w2 (w1 a) + 256 * (w2 (w1 b) + 256 * w2 (w1 c)) : Nat) : Int) + bUshr ((w2 (w1 a) + 256 * (w2 (w1 b) + 256 * w2 (w1 c)) : Nat) : Int) 4) 252645135 = ((pcN 8 a + 256 * (pcN 8 b + 256 * pcN 8 c) : Nat) : Int) := by
    rw [show (4 : Int) = ((4 : Nat) : Int) from rfl, nUshr (by decide) (by omega)]
    have e4 : ((w2 (w1 a) + 256 * (w2 (w1 b) + 256 * w2 (w1 c)) : Nat) : Int) + (((w2 (w1 a) + 256 * (w2 (w1 b) + 256 * w2 (w1 c))) >>> 4 : Nat) : Int)
        = (((w2 (w1 a) + w2 (w1 a) >>> 4 + 16 * (w2 (w1 b) % 16)) + 256 * ((w2 (w1 b) + w2 (w1 b) >>> 4 + 16 * (w2 (w1 c) % 16)) + 256 * (w2 (w1 c) + w2 (w1 c) >>> 4))) : Nat) := by
      simp only [Nat.shiftRight_eq_div_pow]
      omega
    have sa : w2 (w1 a) >>> 4 = w2 (w1 a) / 16 := Nat.shiftRight_eq_div_pow _ _
    have sb : w2 (w1 b) >>> 4 = w2 (w1 b) / 16 := Nat.shiftRight_eq_div_pow _ _
    have sc : w2 (w1 c) >>> 4 = w2 (w1 c) / 16 := Nat.shiftRight_eq_div_pow _ _
    rw [e4, bAndM (k := 15 + 256 * (15 + 256 * (15 + 256 * 15))) (by decide) (by omega) (by decide), and_split _ _ _ _ (by omega) (by decide), and_split _ _ _ _ (by omega) (by decide)]
    have := and_split (w2 (w1 c) + w2 (w1 c) >>> 4) 0 15 15 (by omega) (by decide)
    rw [show w2 (w1 c) + w2 (w1 c) >>> 4 + 256 * 0 = w2 (w1 c) + w2 (w1 c) >>> 4 by omega, show 0 &&& 15 = 0 from rfl, Nat.mul_zero, Nat.add_zero] at this
    rw [this, Nat.add_zero]
    have ra := tab4 (w2 (w1 a)) (by omega) ta.2.2.2.2 (by omega) (w2 (w1 b) % 16) (by omega)
    have rb := tab4 (w2 (w1 b)) (by omega) tb.2.2.2.2 (by omega) (w2 (w1 c) % 16) (by omega)
    have rc : (w2 (w1 c) + w2 (w1 c) >>> 4) &&& 15 = w3 (w2 (w1 c)) := rfl
    rw [ra, rb, rc, ta.1, tb.1, tc.1]
  rw [q4]
  have la := pcN_le 8 a
  have lb := pcN_le 8 b
  have lc := pcN_le 8 c
  rw [show (8 : Int) = ((8 : Nat) : Int) from rfl, nUshr (by decide) (by omega)]
  have e8 : ((pcN 8 a + 256 * (pcN 8 b + 256 * pcN 8 c) : Nat) : Int) + (((pcN 8 a + 256 * (pcN 8 b + 256 * pcN 8 c)) >>> 8 : Nat) : Int) = ((pcN 8 a + pcN 8 b + 256 * (pcN 8 b + pcN 8 c + 256 * pcN 8 c) : Nat) : Int) := by
    simp only [Nat.shiftRight_eq_div_pow]
    omega
  rw [e8, show (16 : Int) = ((16 : Nat) : Int) from rfl, nUshr (by decide) (by omega)]
  have e16 : ((pcN 8 a + pcN 8 b + 256 * (pcN 8 b + pcN 8 c + 256 * pcN 8 c) : Nat) : Int) + (((pcN 8 a + pcN 8 b + 256 * (pcN 8 b + pcN 8 c + 256 * pcN 8 c)) >>> 16 : Nat) : Int) = ((pcN 8 a + pcN 8 b + pcN 8 c + 256 * (pcN 8 b + pcN 8 c + 256 * pcN 8 c) : Nat) : Int) := by
    simp only [Nat.shiftRight_eq_div_pow]
    omega
  rw [e16, bAndM (k := 63) (by decide) (by omega) (by decide), show (63 : Nat) = 2 ^ 6 - 1 from rfl, Nat.and_two_pow_sub_one_eq_mod]
  rw [show (pcN 8 a + pcN 8 b + pcN 8 c + 256 * (pcN 8 b + pcN 8 c + 256 * pcN 8 c)) % 2 ^ 6 = pcN 8 a + pcN 8 b + pcN 8 c by omega]
/-! sets of small numbers -/
def bs (C : Nat → Bool) : Nat → Nat → Nat
  | 0, _ => 0
  | k + 1, i => (if C i then 1 else 0) + 2 * bs C k (i + 1)
theorem bs_lt (C : Nat → Bool) : ∀ k i, bs C k i < 2 ^ k
  | 0, _ => Nat.one_pos
  | k + 1, i => by
    have := bs_lt C k (i + 1)
    show (if C i then 1 else 0) + 2 * bs C k (i + 1) < 2 ^ (k + 1)
    rw [Nat.pow_succ]
    split <;> omega
def cn (C : Nat → Bool) : Nat → Nat → Nat
  | 0, _ => 0
  | k + 1, i => (if C i then 1 else 0) + cn C k (i + 1)
theorem pc_bs (C : Nat → Bool) : ∀ k i, pcN k (bs C k i) = cn C k i
  | 0, _ => rfl
  | k + 1, i => by
    show ((if C i then 1 else 0) + 2 * bs C k (i + 1)) % 2 + pcN k (((if C i then 1 else 0) + 2 * bs C k (i + 1)) / 2) = (if C i then 1 else 0) + cn C k (i + 1)
    rw [← pc_bs C k (i + 1)]
    split
    · rw [show (1 + 2 * bs C k (i + 1)) / 2 = bs C k (i + 1) by omega]; omega
    · rw [show (0 + 2 * bs C k (i + 1)) / 2 = bs C k (i + 1) by omega]; omega
theorem bs_bit (C : Nat → Bool) : ∀ k i j, (bs C k i).testBit j = (decide (j < k) && C (i + j))
  | 0, i, j => by
    show Nat.testBit 0 j = _
    rw [Nat.zero_testBit]; simp
  | k + 1, i, 0 => by
    show ((if C i then 1 else 0) + 2 * bs C k (i + 1)).testBit 0 = _
    rw [Nat.testBit_zero]
    cases h : C i <;> simp [h] <;> omega
  | k + 1, i, j + 1 => by
    show ((if C i then 1 else 0) + 2 * bs C k (i + 1)).testBit (j + 1) = _
    rw [Nat.testBit_succ, show ((if C i then 1 else 0) + 2 * bs C k (i + 1)) / 2 = bs C k (i + 1) by split <;> omega, bs_bit C k (i + 1) j, show i + 1 + j = i + (j + 1) by omega]
    congr 1
    simp
theorem or_pow {m i : Nat} (h : m < 2 ^ i) : m ||| 2 ^ i = m + 2 ^ i := by
  rw [Nat.or_comm, ← Nat.one_mul (2 ^ i), Nat.mul_comm, ← Nat.two_pow_add_eq_or_of_lt h]
  omega
theorem bShl1 {i : Nat} (hi : i < 31) : bShl 1 (i : Int) = ((2 ^ i : Nat) : Int) := by
  have hp : 2 ^ i < 2147483648 := by
    calc 2 ^ i < 2 ^ 31 := Nat.pow_lt_pow_right (by decide) hi
      _ = 2147483648 := by decide
  rw [show (1 : Int) = ((1 : Nat) : Int) from rfl, nShl (by omega) (by rw [Nat.shiftLeft_eq, Nat.one_mul]; exact hp), Nat.shiftLeft_eq, Nat.one_mul]
theorem pow31 {i : Nat} (hi : i ≤ 30) : 2 ^ i ≤ 1073741824 := by
  calc 2 ^ i ≤ 2 ^ 30 := Nat.pow_le_pow_right (by decide) hi
    _ = 1073741824 := by decide
theorem frm_bs (C : Nat → Bool) : ∀ k i (m : Nat), i + k ≤ 30 → m < 2 ^ i → frm (fun i s => if C i = true then bOr s (bShl 1 i) else s) k i (m : Int) = ((m + 2 ^ i * bs C k i : Nat) : Int)
  | 0, i, m, _, _ => by
    show (m : Int) = ((m + 2 ^ i * 0 : Nat) : Int)
    omega
  | k + 1, i, m, h, hm => by
    have h1 := pow31 (i := i) (by omega)
    have e : 2 ^ (i + 1) = 2 * 2 ^ i := by rw [Nat.pow_succ]; omega
    simp only [frm, bs]
    by_cases c : C i = true
    · rw [if_pos c, if_pos c, bShl1 (by omega), nOr (by omega) (by omega), or_pow hm, frm_bs C k (i + 1) (m + 2 ^ i) (by omega) (by omega), e]
      congr 1
      rw [Nat.mul_add, Nat.mul_left_comm, Nat.mul_assoc]
      omega
    · rw [if_neg c, if_neg c, frm_bs C k (i + 1) m (by omega) (by omega), e]
      congr 1
      rw [Nat.zero_add, Nat.mul_assoc, Nat.mul_left_comm]
/-- a set told as bits -/
theorem frm_set {C : Nat → Prop} {d : ∀ i, Decidable (C i)} {k : Nat} (h : k ≤ 30) : frm (fun i s => if C i then bOr s (bShl 1 i) else s) k 0 0 = ((bs (fun i => decide (C i)) k 0 : Nat) : Int) := by
  have := frm_bs (fun i => decide (C i)) k 0 0 (by omega) (by decide)
  simp only [decide_eq_true_eq] at this
  rw [show ((0 : Nat) : Int) = 0 from rfl] at this
  rw [this]
  congr 1
  omega
theorem tb_div (m i : Nat) : m.testBit i = decide (m / 2 ^ i % 2 = 1) := by
  rw [Nat.testBit_eq_decide_div_mod_eq]
theorem and_pow (m i : Nat) : m &&& 2 ^ i = if m.testBit i = true then 2 ^ i else 0 := by
  apply Nat.eq_of_testBit_eq
  intro j
  rw [Nat.testBit_and, Nat.testBit_two_pow]
  by_cases h : i = j
  · subst h
    cases q : m.testBit i <;> simp
  · by_cases c : m.testBit i = true
    · rw [if_pos c, Nat.testBit_two_pow]; simp [h]
    · rw [if_neg c, Nat.zero_testBit]; simp [h]
theorem bAnd_pow {m i : Nat} (hm : m < 2147483648) (hi : i < 31) : bAnd (m : Int) (bShl 1 (i : Int)) = ((if m.testBit i = true then 2 ^ i else 0 : Nat) : Int) := by
  have := pow31 (i := i) (by omega)
  rw [bShl1 hi, nAnd hm (by omega), and_pow]
