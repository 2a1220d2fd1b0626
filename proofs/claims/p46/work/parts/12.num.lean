abbrev I32 (a : Int) : Prop := -2147483648 ≤ a ∧ a ≤ 2147483647
abbrev I64 (a : Int) : Prop := -9223372036854775808 ≤ a ∧ a ≤ 9223372036854775807
theorem i_toInt {a : Int} (h : I32 a) : (Int32.ofInt a).toInt = a := Int32.toInt_ofInt_of_le (by have := h.1; simpa using this) (by have := h.2; simp; omega)
theorem l_toInt {a : Int} (h : I64 a) : (Int64.ofInt a).toInt = a := Int64.toInt_ofInt_of_le (by have := h.1; simpa using this) (by have := h.2; simp; omega)
theorem i_rng (x : Int32) : I32 x.toInt := ⟨by have := x.le_toInt; simpa using this, by have := x.toInt_lt; simp at this; omega⟩
theorem l_rng (x : Int64) : I64 x.toInt := ⟨by have := x.le_toInt; simpa using this, by have := x.toInt_lt; simp at this; omega⟩
theorem i_ofToInt (x : Int32) : Int32.ofInt x.toInt = x := Int32.ofInt_toInt x
theorem i_inj {a b : Int} (ha : I32 a) (hb : I32 b) : Int32.ofInt a = Int32.ofInt b ↔ a = b := by
  constructor
  · intro h
    rw [← i_toInt ha, ← i_toInt hb, h]
  · intro h
    rw [h]
theorem l_inj {a b : Int} (ha : I64 a) (hb : I64 b) : Int64.ofInt a = Int64.ofInt b ↔ a = b := by
  constructor
  · intro h
    rw [← l_toInt ha, ← l_toInt hb, h]
  · intro h
    rw [h]
theorem i_lt {a b : Int} (ha : I32 a) (hb : I32 b) : Int32.ofInt a < Int32.ofInt b ↔ a < b := by
  rw [Int32.lt_iff_toInt_lt, i_toInt ha, i_toInt hb]
theorem i_le {a b : Int} (ha : I32 a) (hb : I32 b) : Int32.ofInt a ≤ Int32.ofInt b ↔ a ≤ b := by
  rw [Int32.le_iff_toInt_le, i_toInt ha, i_toInt hb]
theorem l_lt {a b : Int} (ha : I64 a) (hb : I64 b) : Int64.ofInt a < Int64.ofInt b ↔ a < b := by
  rw [Int64.lt_iff_toInt_lt, l_toInt ha, l_toInt hb]
theorem z32 : (0 : Int32) = Int32.ofInt 0 := by decide
theorem z64 : (0 : Int64) = Int64.ofInt 0 := by decide
theorem i32_0 : I32 0 := by decide
theorem i64_0 : I64 0 := by decide
theorem i_div {a b : Int} (ha : I32 a) (hb : I32 b) : Int32.ofInt a / Int32.ofInt b = Int32.ofInt (a.tdiv b) := (Int32.ofInt_tdiv (by have := ha.1; rw [Int32.toInt_minValue]; omega) (by have := ha.2; rw [Int32.toInt_maxValue]; omega) (by have := hb.1; rw [Int32.toInt_minValue]; omega) (by have := hb.2; rw [Int32.toInt_maxValue]; omega)).symm
theorem l_div {a b : Int} (ha : I64 a) (hb : I64 b) : Int64.ofInt a / Int64.ofInt b = Int64.ofInt (a.tdiv b) := (Int64.ofInt_tdiv (by have := ha.1; rw [Int64.toInt_minValue]; omega) (by have := ha.2; rw [Int64.toInt_maxValue]; omega) (by have := hb.1; rw [Int64.toInt_minValue]; omega) (by have := hb.2; rw [Int64.toInt_maxValue]; omega)).symm
theorem i_rem {a b : Int} (ha : I32 a) (hb : I32 b) : Int32.ofInt a - Int32.ofInt a / Int32.ofInt b * Int32.ofInt b = Int32.ofInt (a.tmod b) := by
  rw [i_div ha hb, ← Int32.ofInt_mul, ← Int32.ofInt_sub, Int.tmod_def, Int.mul_comm]
theorem l_rem {a b : Int} (ha : I64 a) (hb : I64 b) : Int64.ofInt a - Int64.ofInt a / Int64.ofInt b * Int64.ofInt b = Int64.ofInt (a.tmod b) := by
  rw [l_div ha hb, ← Int64.ofInt_mul, ← Int64.ofInt_sub, Int.tmod_def, Int.mul_comm]
def bAnd (a b : Int) : Int := (Int32.ofInt a &&& Int32.ofInt b).toInt
def bOr (a b : Int) : Int := (Int32.ofInt a ||| Int32.ofInt b).toInt
def bXor (a b : Int) : Int := (Int32.ofInt a ^^^ Int32.ofInt b).toInt
def bShl (a b : Int) : Int := (Int32.ofInt a <<< (Int32.ofInt b &&& 31)).toInt
def bShr (a b : Int) : Int := (Int32.ofInt a >>> (Int32.ofInt b &&& 31)).toInt
theorem c_and (a b : Int) : Int32.ofInt (bAnd a b) = Int32.ofInt a &&& Int32.ofInt b := i_ofToInt _
theorem c_or (a b : Int) : Int32.ofInt (bOr a b) = Int32.ofInt a ||| Int32.ofInt b := i_ofToInt _
theorem c_xor (a b : Int) : Int32.ofInt (bXor a b) = Int32.ofInt a ^^^ Int32.ofInt b := i_ofToInt _
theorem c_shl (a b : Int) : Int32.ofInt (bShl a b) = Int32.ofInt a <<< (Int32.ofInt b &&& 31) := i_ofToInt _
theorem c_shr (a b : Int) : Int32.ofInt (bShr a b) = Int32.ofInt a >>> (Int32.ofInt b &&& 31) := i_ofToInt _
theorem c_i2l {a : Int} (h : I32 a) : (Int32.ofInt a).toInt64 = Int64.ofInt a := by
  apply Int64.toInt.inj
  rw [Int32.toInt_toInt64, i_toInt h, l_toInt ⟨by have := h.1; omega, by have := h.2; omega⟩]
/-- the answer of lcmp -/
def cmpZ (a b : Int) : Int := if b < a then 1 else if a = b then 0 else -1
theorem l_cmp {a b : Int} (ha : I64 a) (hb : I64 b) : lg_cmp (Int64.ofInt a) (Int64.ofInt b) = Int32.ofInt (cmpZ a b) := by
  unfold lg_cmp cmpZ
  by_cases h1 : b < a
  · have h2 : Int64.ofInt a > Int64.ofInt b := (l_lt hb ha).mpr h1
    rw [if_pos h2, if_pos h1]; rfl
  · have h2 : ¬ Int64.ofInt a > Int64.ofInt b := fun q => h1 ((l_lt hb ha).mp q)
    rw [if_neg h2, if_neg h1]
    by_cases h3 : a = b
    · rw [if_pos (by rw [h3]), if_pos h3]; rfl
    · rw [if_neg (fun q => h3 ((l_inj ha hb).mp q)), if_neg h3]; rfl
theorem i_max {a b : Int} (ha : I32 a) (hb : I32 b) : (if Int32.ofInt a < Int32.ofInt b then Int32.ofInt b else Int32.ofInt a) = Int32.ofInt (if a < b then b else a) := by
  by_cases h : a < b
  · rw [if_pos h, if_pos ((i_lt ha hb).mpr h)]
  · rw [if_neg h, if_neg (fun q => h ((i_lt ha hb).mp q))]
theorem i_abs {a : Int} (ha : I32 a) : (if 0 ≤ Int32.ofInt a then Int32.ofInt a else 0 - Int32.ofInt a) = Int32.ofInt (if 0 ≤ a then a else -a) := by
  rw [z32]
  by_cases h : 0 ≤ a
  · rw [if_pos h, if_pos ((i_le i32_0 ha).mpr h)]
  · rw [if_neg h, if_neg (fun q => h ((i_le i32_0 ha).mp q)), ← Int32.ofInt_sub]
    congr 1
    omega
theorem i_in {a : Int} {n : Nat} (h : 0 ≤ a) (h1 : a < (n : Int)) (hn : n < 2147483648) : vp_in (Int32.ofInt a) n := by
  rw [vp_in_iff, i_toInt ⟨by omega, by omega⟩]
  exact ⟨h, h1⟩
theorem i_ix {a : Int} (h : 0 ≤ a) (h1 : a < 2147483648) : (Int32.ofInt a).toNatClampNeg = a.toNat := by
  have e := i_toInt (a := a) ⟨by omega, by omega⟩
  show (Int32.ofInt a).toInt.toNat = a.toNat
  rw [e]
theorem i_min {a b : Int} (ha : I32 a) (hb : I32 b) : (if Int32.ofInt a < Int32.ofInt b then Int32.ofInt a else Int32.ofInt b) = Int32.ofInt (if a < b then a else b) := by
  by_cases h : a < b
  · rw [if_pos h, if_pos ((i_lt ha hb).mpr h)]
  · rw [if_neg h, if_neg (fun q => h ((i_lt ha hb).mp q))]
