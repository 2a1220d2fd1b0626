/-! the second side keeps a coast in a row of numbers -/
def offk (k : Nat) : Nat := if k ≤ 4 then 6 * (k - 1) else if k ≤ 7 then 18 + 8 * (k - 4) else 42 + 5 * (k - 7)
theorem ln_k {k : Nat} (h1 : 1 ≤ k) (h2 : k ≤ 10) : ln (137 + k) = lnk k := by
  have : k = 1 ∨ k = 2 ∨ k = 3 ∨ k = 4 ∨ k = 5 ∨ k = 6 ∨ k = 7 ∨ k = 8 ∨ k = 9 ∨ k = 10 := by omega
  rcases this with rfl | rfl | rfl | rfl | rfl | rfl | rfl | rfl | rfl | rfl <;> decide
theorem off_s {k : Nat} (h1 : 1 ≤ k) (h2 : k ≤ 10) : offk (k + 1) = offk k + lnk k ∧ lnk k ≤ 8 ∧ offk k + lnk k ≤ 62 := by
  have : k = 1 ∨ k = 2 ∨ k = 3 ∨ k = 4 ∨ k = 5 ∨ k = 6 ∨ k = 7 ∨ k = 8 ∨ k = 9 ∨ k = 10 := by omega
  rcases this with rfl | rfl | rfl | rfl | rfl | rfl | rfl | rfl | rfl | rfl <;> decide
theorem off_mono {k j : Nat} (h1 : 1 ≤ k) (h : k < j) (h2 : j ≤ 11) : offk k + lnk k ≤ offk j := by
  unfold offk lnk
  repeat' split
  all_goals omega
theorem mup_c (M : Mem) (q i : Nat) (x : Int32) : mup M q i x.toInt q i = x := by
  show (if q = q ∧ i = i then Int32.ofInt x.toInt else _) = x
  rw [if_pos ⟨rfl, rfl⟩, i_ofToInt]
theorem mup_n (M : Mem) {q i a b : Nat} {v : Int} (h : ¬ (a = q ∧ b = i)) : mup M q i v a b = M a b := by
  show (if a = q ∧ b = i then _ else _) = _
  rw [if_neg h]
/-- rows kept so far -/
def KI (M0 M : Mem) (s j : Nat) : Prop := rd M 137 27 = 1 ∧ rd M 137 28 = ((68 * s + offk (j + 1) : Nat) : Int) ∧ (∀ k b, 1 ≤ k → k ≤ j → b < lnk k → M 155 (68 * s + offk k + b) = M0 (137 + k) b) ∧ (∀ a b, ¬ (a = 155 ∧ 68 * s ≤ b ∧ b < 68 * s + 67) → ¬ (a = 137 ∧ (b = 27 ∨ b = 28)) → M a b = M0 a b)
/-- rows given back so far -/
def GvI (M0 M : Mem) (s j : Nat) : Prop := rd M 137 27 = 0 ∧ rd M 137 28 = ((68 * s + offk (j + 1) : Nat) : Int) ∧ (∀ k b, 1 ≤ k → k ≤ j → b < lnk k → M (137 + k) b = M0 155 (68 * s + offk k + b)) ∧ (∀ a b, ¬ (138 ≤ a ∧ a ≤ 147 ∧ b < ln a) → ¬ (a = 137 ∧ (b = 27 ∨ b = 28)) → M a b = M0 a b)
