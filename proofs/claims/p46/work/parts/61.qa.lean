/-! shares, odds -/
theorem gcd_s (x y : Nat) : Nat.gcd x y = Nat.gcd y (x % y) := by
  rw [Nat.gcd_comm x y, Nat.gcd_rec y x, Nat.gcd_comm]
theorem half_mod {y r : Nat} (h0 : 0 < r) (h : r < y) : 2 * (y % r) < y := by
  have h1 := Nat.mod_lt y h0
  by_cases c : 2 * r ≤ y
  · omega
  · have : y % r = y - r := by
      rw [Nat.mod_eq_sub_mod (by omega), Nat.mod_eq_of_lt (by omega)]
    omega
theorem tmN (x y : Nat) : Int.tmod (x : Int) (y : Int) = ((x % y : Nat) : Int) := by
  rw [tm (by omega)]; rfl
theorem tdN (x y : Nat) : Int.tdiv (x : Int) (y : Int) = ((x / y : Nat) : Int) := by
  rw [td (by omega)]; rfl
/-- a fraction's part in lowest terms -/
def lowS (x y : Nat) (p : Int) : Int := if x = 0 ∨ y = 0 then p else if p = 0 then ((x / Nat.gcd x y : Nat) : Int) else ((y / Nat.gcd x y : Nat) : Int)
theorem lowS_b {x y : Nat} {p : Int} (hx : x < 4611686018427387904) (hy : y < 4611686018427387904) (hp : p = 0 ∨ p = 1) : 0 ≤ lowS x y p ∧ lowS x y p < 4611686018427387904 := by
  have h1 := Nat.div_le_self x (Nat.gcd x y)
  have h2 := Nat.div_le_self y (Nat.gcd x y)
  have hl : lowS x y p = p ∨ lowS x y p = ((x / Nat.gcd x y : Nat) : Int) ∨ lowS x y p = ((y / Nat.gcd x y : Nat) : Int) := by
    unfold lowS
    split
    · exact .inl rfl
    · split
      · exact .inr (.inl rfl)
      · exact .inr (.inr rfl)
  have h7 : ((x / Nat.gcd x y : Nat) : Int) ≤ x := Int.ofNat_le.mpr h1
  have h8 : ((y / Nat.gcd x y : Nat) : Int) ≤ y := Int.ofNat_le.mpr h2
  have h9 : 0 ≤ ((x / Nat.gcd x y : Nat) : Int) := Int.natCast_nonneg _
  have h10 : 0 ≤ ((y / Nat.gcd x y : Nat) : Int) := Int.natCast_nonneg _
  rcases hl with e | e | e
  · rw [e]; omega
  · rw [e]; exact ⟨h9, by omega⟩
  · rw [e]; exact ⟨h10, by omega⟩
/-- all worths -/
def allN (u : US) : Nat → Nat → Nat → Nat
  | 0, _, v => v
  | k + 1, i, v => allN u k (i + 1) (v + (u 4 i).toNat)
theorem allN_b {u : US} (wf : WF 999 u) : ∀ k i v, allN u k i v ≤ v + 9 * k
  | 0, _, v => by
    show v ≤ v + 0
    omega
  | k + 1, i, v => by
    have := allN_b wf k (i + 1) (v + (u 4 i).toNat)
    have := (wFt wf i).1
    simp only [allN]
    omega
