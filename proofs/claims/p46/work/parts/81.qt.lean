/-! the memory at the start -/
def M0 (q : Nat) : Nat → Int32 :=
  if q = 126 then fun i => if i < 64 then -1 else 0
  else if q = 129 then fun i => if i = 3 then -1 else 0
  else if q = 131 then fun i => Int32.ofInt (33 + 11 * (i : Int))
  else if q = 137 then fun i => if i = 14 then 3 else if i = 20 then -9 else 0
  else if q < 121 ∧ q % 11 = 0 then fun i => if i = 14 then 3 else 0
  else fun _ => 0
theorem M0_z {q : Nat} (h : q ≠ 126 ∧ q ≠ 129 ∧ q ≠ 131 ∧ q ≠ 137 ∧ ¬ (q < 121 ∧ q % 11 = 0)) (i : Nat) : M0 q i = 0 := by
  unfold M0
  rw [if_neg h.1, if_neg h.2.1, if_neg h.2.2.1, if_neg h.2.2.2.1, if_neg h.2.2.2.2]
theorem rd0 {q : Nat} (h : q ≠ 126 ∧ q ≠ 129 ∧ q ≠ 131 ∧ q ≠ 137 ∧ ¬ (q < 121 ∧ q % 11 = 0)) (i : Nat) : rd M0 q i = 0 := by
  unfold rd
  rw [M0_z h]
  rfl
theorem rd0_w (i : Nat) : rd M0 0 i = if i = 14 then 3 else 0 := by
  show (if i = 14 then (3 : Int32) else 0).toInt = _
  split <;> rfl
theorem vw0_0 (k i : Nat) : vw M0 0 k i = if k = 0 ∧ i = 14 then 3 else if k = 0 ∧ i = 20 then -1 else 0 := by
  unfold vw
  by_cases hk : k = 0
  · rw [if_pos hk]
    unfold vs
    rw [rd0_w]
    by_cases h1 : i = 14
    · rw [if_pos (by omega), if_pos h1, if_pos ⟨hk, h1⟩]
    · rw [if_neg (show ¬ (k = 0 ∧ i = 14) by omega)]
      by_cases h2 : i = 20
      · rw [if_neg (by omega), if_pos h2, if_neg (by decide), if_neg (by decide), if_pos ⟨hk, h2⟩]
      · rw [if_neg (show ¬ (k = 0 ∧ i = 20) by omega), if_neg h2, if_neg h1]
        repeat' split
        all_goals first | rfl | omega
  · rw [if_neg hk, if_neg (show ¬ (k = 0 ∧ i = 14) by omega), if_neg (show ¬ (k = 0 ∧ i = 20) by omega)]
    by_cases h6 : k = 6
    · rw [if_pos h6]
      split
      · rw [rd0 (by omega)]; rfl
      · rfl
    · rw [if_neg h6]
      by_cases g : i < lnk k
      · rw [if_pos g]
        have := lnk_le g
        exact rd0 (by omega) i
      · rw [if_neg g]
theorem rd0_131 {j : Nat} (h : j < 8) : rd M0 131 j = 33 + 11 * (j : Int) := by
  show (Int32.ofInt (33 + 11 * (j : Int))).toInt = _
  exact i_toInt (by omega)
theorem lohi0 {H : Int} (k i : Nat) (hH : 0 ≤ H) : lo k i ≤ 0 ∧ 0 ≤ hi H k i := by
  constructor
  · unfold lo
    repeat' split
    all_goals omega
  · unfold hi
    repeat' split
    all_goals omega
theorem sv0 (k i : Nat) : sv M0 k i = 0 := by
  unfold sv
  by_cases hk : k = 0
  · rw [if_pos hk]
    by_cases h : i = 3
    · rw [if_pos h]; exact rd0 (by decide) _
    · rw [if_neg h]
  · rw [if_neg hk]
    by_cases h : k ≤ 3
    · rw [if_pos h]
      by_cases g : i < 6
      · rw [if_pos g]; exact rd0 (by omega) _
      · rw [if_neg g]
    · rw [if_neg h]
theorem rd0_126 {s : Nat} (h : s < 64) : rd M0 126 s = -1 := by
  show (if s < 64 then (-1 : Int32) else 0).toInt = -1
  rw [if_pos h]
  rfl
