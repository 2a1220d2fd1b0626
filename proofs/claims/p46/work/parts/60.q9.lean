def K1 (M M' : Mem) : Prop := ∀ q i, q ≠ 138 → q ≠ 149 → q ≠ 150 → M' q i = M q i
theorem tw1_wf {u : US} (wu : WF 999 u) (a k : Nat) : WF 999 (if k / 2 = 1 then uset u 10 a (u 9 a) else u) := by
  split
  · exact WF_set wu 10 a (wu 9 a).1 (wu 9 a).2
  · exact wu
theorem and2 : ∀ k : Nat, k < 4 → bAnd (k : Int) 2 = (if k / 2 = 1 then 2 else 0) := by decide
theorem and1 : ∀ k : Nat, k < 4 → bAnd (k : Int) 1 = (if k % 2 = 1 then 1 else 0) := by decide
theorem xor2 : ∀ k : Nat, k < 4 → bXor (k : Int) 2 = ((k ^^^ 2 : Nat) : Int) ∧ (k ^^^ 2) < 4 ∧ bXor (k : Int) 1 = ((k ^^^ 1 : Nat) : Int) ∧ (k ^^^ 1) < 4 ∧ bShr (k : Int) 1 = ((k / 2 : Nat) : Int) ∧ bAnd (k : Int) 1 = ((k % 2 : Nat) : Int) := by decide
