theorem uset_comm (u : US) {k i k' i' : Nat} (v v' : Int) (h : ¬ (k = k' ∧ i = i')) : uset (uset u k i v) k' i' v' = uset (uset u k' i' v') k i v := by
  funext a b
  simp only [uset]
  by_cases c : a = k ∧ b = i
  · have d : ¬ (a = k' ∧ b = i') := by omega
    rw [if_neg d, if_pos c, if_pos c]
  · rw [if_neg c, if_neg c]
/-! counts of kinds -/
theorem cn_frm (C : Nat → Bool) : ∀ k i (v : Int), frm (fun i v => if C i = true then v + 1 else v) k i v = v + ((cn C k i : Nat) : Int)
  | 0, _, v => by
    show v = v + 0
    omega
  | k + 1, i, v => by
    simp only [frm, cn]
    by_cases h : C i = true
    · rw [if_pos h, if_pos h, cn_frm C k (i + 1)]; omega
    · rw [if_neg h, if_neg h, cn_frm C k (i + 1)]; omega
theorem cn_le (C : Nat → Bool) : ∀ k i, cn C k i ≤ k
  | 0, _ => Nat.le_refl _
  | k + 1, i => by
    have := cn_le C k (i + 1)
    simp only [cn]
    split <;> omega
def atN (u : US) (k N : Nat) (c : Int) : Nat := bs (fun i => decide (u k i = c)) N 0
theorem at_N (u : US) (k : Nat) {N : Nat} (h : N ≤ 8) (c : Int) : atS u k N c = ((atN u k N c : Nat) : Int) ∧ atN u k N c < 256 ∧ pcN 31 (atN u k N c) = cn (fun i => decide (u k i = c)) N 0 := by
  have l := bs_lt (fun i => decide (u k i = c)) N 0
  have : 2 ^ N ≤ 2 ^ 8 := Nat.pow_le_pow_right (by decide) h
  refine ⟨frm_set (by omega), Nat.lt_of_lt_of_le l this, ?_⟩
  unfold atN
  rw [pcN_31 (j := N) (by omega) l, pc_bs]
