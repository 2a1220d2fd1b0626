/-! bits of numbers that are not negative -/
theorem bv_ofNat (m : Nat) : (Int32.ofInt (m : Int)).toBitVec = BitVec.ofNat 32 m := by
  rw [Int32.toBitVec_ofInt]
  exact BitVec.ofInt_natCast 32 m
theorem bv_toInt {x : Int32} {m : Nat} (h : x.toBitVec.toNat = m) (hm : m < 2147483648) : x.toInt = (m : Int) := by
  show x.toBitVec.toInt = _
  rw [BitVec.toInt_eq_toNat_of_lt (by rw [h]; omega), h]
theorem bv_nat {m : Nat} (hm : m < 2147483648) : (BitVec.ofNat 32 m).toNat = m := by
  rw [BitVec.toNat_ofNat]; exact Nat.mod_eq_of_lt (by omega)
theorem nAnd {m k : Nat} (hm : m < 2147483648) (hk : k < 2147483648) : bAnd (m : Int) (k : Int) = ((m &&& k : Nat) : Int) := by
  refine bv_toInt ?_ (Nat.lt_of_le_of_lt Nat.and_le_left hm)
  rw [Int32.toBitVec_and, bv_ofNat, bv_ofNat, BitVec.toNat_and, bv_nat hm, bv_nat hk]
theorem nOr {m k : Nat} (hm : m < 2147483648) (hk : k < 2147483648) : bOr (m : Int) (k : Int) = ((m ||| k : Nat) : Int) := by
  refine bv_toInt ?_ (Nat.or_lt_two_pow (n := 31) hm hk)
  rw [Int32.toBitVec_or, bv_ofNat, bv_ofNat, BitVec.toNat_or, bv_nat hm, bv_nat hk]
theorem nXor {m k : Nat} (hm : m < 2147483648) (hk : k < 2147483648) : bXor (m : Int) (k : Int) = ((m ^^^ k : Nat) : Int) := by
  refine bv_toInt ?_ (Nat.xor_lt_two_pow (n := 31) hm hk)
  rw [Int32.toBitVec_xor, bv_ofNat, bv_ofNat, BitVec.toNat_xor, bv_nat hm, bv_nat hk]
theorem sh31 {c : Nat} (hc : c < 32) : (Int32.ofInt (c : Int) &&& 31) = Int32.ofInt (c : Int) := by
  apply Int32.toBitVec.inj
  rw [Int32.toBitVec_and, bv_ofNat]
  apply BitVec.eq_of_toNat_eq
  rw [BitVec.toNat_and, bv_nat (by omega)]
  show c &&& 31 = c
  rw [show (31 : Nat) = 2 ^ 5 - 1 by decide, Nat.and_two_pow_sub_one_eq_mod]
  omega
theorem smod32 : ∀ c : Nat, c < 32 → (BitVec.ofNat 32 c).smod 32 = BitVec.ofNat 32 c := by decide
theorem umod32 : ∀ c : Nat, c < 32 → (BitVec.ofNat 32 c) % 32 = BitVec.ofNat 32 c := by decide
theorem nShl {m c : Nat} (hc : c < 32) (hm : m <<< c < 2147483648) : bShl (m : Int) (c : Int) = ((m <<< c : Nat) : Int) := by
  unfold bShl
  rw [sh31 hc]
  refine bv_toInt ?_ hm
  have hm0 : m < 2147483648 := Nat.lt_of_le_of_lt (by rw [Nat.shiftLeft_eq]; exact Nat.le_mul_of_pos_right m (Nat.two_pow_pos c)) hm
  rw [Int32.toBitVec_shiftLeft, bv_ofNat, bv_ofNat]
  rw [smod32 c hc]
  rw [BitVec.shiftLeft_eq', BitVec.toNat_shiftLeft, bv_nat hm0, bv_nat (by omega)]
  exact Nat.mod_eq_of_lt (by omega)
theorem nShr {m c : Nat} (hc : c < 32) (hm : m < 2147483648) : bShr (m : Int) (c : Int) = ((m >>> c : Nat) : Int) := by
  unfold bShr
  rw [sh31 hc]
  refine bv_toInt ?_ (Nat.lt_of_le_of_lt (Nat.shiftRight_le m c) hm)
  rw [Int32.toBitVec_shiftRight, bv_ofNat, bv_ofNat]
  rw [smod32 c hc]
  rw [BitVec.sshiftRight_eq', BitVec.sshiftRight_eq_of_msb_false, BitVec.toNat_ushiftRight, bv_nat hm, bv_nat (by omega)]
  rw [BitVec.msb_eq_decide, bv_nat hm]
  exact decide_eq_false (by omega)
theorem nUshr {m c : Nat} (hc : c < 32) (hm : m < 2147483648) : bUshr (m : Int) (c : Int) = ((m >>> c : Nat) : Int) := by
  unfold bUshr
  refine bv_toInt ?_ (Nat.lt_of_le_of_lt (Nat.shiftRight_le m c) hm)
  have e : (Int32.ofInt (c : Int)).toUInt32 &&& Int32.toUInt32 31 = (Int32.ofInt (c : Int) &&& 31).toUInt32 := rfl
  rw [e, sh31 hc]
  show ((Int32.ofInt (m : Int)).toUInt32 >>> (Int32.ofInt (c : Int)).toUInt32).toBitVec.toNat = _
  rw [UInt32.toBitVec_shiftRight]
  show ((Int32.ofInt (m : Int)).toBitVec >>> ((Int32.ofInt (c : Int)).toBitVec % 32)).toNat = _
  rw [bv_ofNat, bv_ofNat]
  rw [umod32 c hc]
  rw [BitVec.ushiftRight_eq', BitVec.toNat_ushiftRight, bv_nat hm, bv_nat (by omega)]
/-- a, without the bits of b -/
theorem nBut {m k : Nat} (hm : m < 2147483648) (hk : k < 2147483648) : bAnd (m : Int) (bXor (k : Int) (-1)) = ((m ^^^ (m &&& k) : Nat) : Int) := by
  unfold bAnd bXor
  rw [i_ofToInt]
  refine bv_toInt ?_ (Nat.xor_lt_two_pow (n := 31) hm (Nat.lt_of_le_of_lt Nat.and_le_left hm))
  rw [Int32.toBitVec_and, Int32.toBitVec_xor, bv_ofNat, bv_ofNat]
  rw [show (Int32.ofInt (-1)).toBitVec = BitVec.allOnes 32 by decide]
  rw [show BitVec.ofNat 32 m &&& (BitVec.ofNat 32 k ^^^ BitVec.allOnes 32) = BitVec.ofNat 32 m ^^^ (BitVec.ofNat 32 m &&& BitVec.ofNat 32 k) by
    apply BitVec.eq_of_getLsbD_eq
    intro i hi
    simp only [BitVec.getLsbD_and, BitVec.getLsbD_xor, BitVec.getLsbD_allOnes, hi, decide_true]
    cases (BitVec.ofNat 32 m).getLsbD i <;> cases (BitVec.ofNat 32 k).getLsbD i <;> rfl]
  rw [BitVec.toNat_xor, BitVec.toNat_and, bv_nat hm, bv_nat hk]
theorem and63 {h : Int} (h0 : 0 ≤ h) (h1 : h ≤ 2147483647) : bAnd h 63 = h % 64 := by
  obtain ⟨m, rfl⟩ := Int.eq_ofNat_of_zero_le h0
  rw [show (63 : Int) = ((63 : Nat) : Int) by decide, nAnd (by omega) (by decide)]
  rw [show (63 : Nat) = 2 ^ 6 - 1 by decide, Nat.and_two_pow_sub_one_eq_mod]
  omega
