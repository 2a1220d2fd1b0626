/-! without a front, with two changed, clear runs, sights, counts -/
def cellsN (u : US) : Nat := bs (fun c => decide (u 0 14 ≤ fogS u (c : Nat))) 24 0
theorem cells_N (u : US) : cellsS u = ((cellsN u : Nat) : Int) ∧ cellsN u < 16777216 := ⟨frm_set (by decide), bs_lt _ 24 0⟩
