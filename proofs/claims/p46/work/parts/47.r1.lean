theorem v137k (M : Mem) : vw M 137 0 20 = ow 137 (rd M 137 20) := rfl
theorem v137s (M : Mem) : vw M 137 0 21 = rd M 137 21 := rfl
theorem mx_comm9 (v s : Int) : mx (mx v s) 9 = mx (mx v 9) s := by
  unfold mx
  omega
theorem fog_kettle {u : US} {c : Int} : ∀ k i v, mx (frm (fun p v => if u 10 p = c then mx v (steamS (u 7 p) (u 8 p)) else v) k i v) 9 = frm (fun p v => if u 10 p = c then mx v (steamS (u 7 p) (u 8 p)) else v) k i (mx v 9)
  | 0, _, _ => rfl
  | k + 1, i, v => by
    simp only [frm]
    rw [fog_kettle k (i + 1)]
    by_cases g : u 10 i = c
    · simp only [if_pos g]
      rw [mx_comm9]
    · simp only [if_neg g]
theorem bOr0 {s : Int} (h : I32 s) : bOr s 0 = s := by
  unfold bOr
  rw [show Int32.ofInt 0 = 0 from rfl, Int32.or_zero, i_toInt h]
