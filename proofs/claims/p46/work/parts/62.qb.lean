/-! sunny hours by odds -/
theorem vw_s22 {M : Mem} {v : Int} (hv : I32 v) : vw (mup M 129 4 v) 22 = uset (vw M 22) 0 21 v := by
  funext k i
  show _ = (if k = 0 ∧ i = 21 then v else vw M 22 k i)
  by_cases c : k = 0 ∧ i = 21
  · obtain ⟨rfl, rfl⟩ := c
    rw [if_pos ⟨rfl, rfl⟩, v22s, rd_ups _ _ _ hv]
  · rw [if_neg c]
    unfold vw
    by_cases k0 : k = 0
    · rw [if_pos k0, if_pos k0]
      unfold vs
      rw [rd_upne _ _ _ 22 _ _ (by omega), rd_upne _ _ _ 129 3 _ (by omega)]
      by_cases g : i = 3 ∨ i = 7 ∨ i = 12 ∨ i = 13 ∨ i = 14
      · rw [if_pos g, if_pos g]
      · have i21 : i ≠ 21 := by omega
        rw [if_neg g, if_neg g, if_neg i21, if_neg i21]
        simp
    · rw [if_neg k0, if_neg k0]
      by_cases k6 : k = 6
      · rw [if_pos k6, if_pos k6, rd_upne _ _ _ _ _ _ (by omega)]
      · rw [if_neg k6, if_neg k6]
        by_cases g : i < lnk k
        · have := lnk_le g
          rw [if_pos g, if_pos g, rd_upne _ _ _ _ _ _ (by omega)]
        · rw [if_neg g, if_neg g]
theorem vw_s137 {M : Mem} {v : Int} (hv : I32 v) : vw (mup M 137 21 v) 137 = uset (vw M 137) 0 21 v := by
  funext k i
  show _ = (if k = 0 ∧ i = 21 then v else vw M 137 k i)
  by_cases c : k = 0 ∧ i = 21
  · obtain ⟨rfl, rfl⟩ := c
    rw [if_pos ⟨rfl, rfl⟩, v137s, rd_ups _ _ _ hv]
  · rw [if_neg c]
    unfold vw
    by_cases k0 : k = 0
    · rw [if_pos k0, if_pos k0]
      unfold vs
      rw [rd_upne _ _ _ 137 20 _ (by omega)]
      by_cases g : i = 3 ∨ i = 7 ∨ i = 12 ∨ i = 13 ∨ i = 14
      · rw [if_pos g, if_pos g, rd_upne _ _ _ _ _ _ (by omega)]
      · have i21 : i ≠ 21 := by omega
        rw [if_neg g, if_neg g, if_neg i21, if_neg i21]
        simp
    · rw [if_neg k0, if_neg k0]
      by_cases k6 : k = 6
      · rw [if_pos k6, if_pos k6, rd_upne _ _ _ _ _ _ (by omega)]
      · rw [if_neg k6, if_neg k6]
        by_cases g : i < lnk k
        · have := lnk_le g
          rw [if_pos g, if_pos g, rd_upne _ _ _ _ _ _ (by omega)]
        · rw [if_neg g, if_neg g]
def bitI (m i : Nat) : Int := if m.testBit i = true then 1 else 0
def suF (m : Nat) : Nat → US → US := fun i w => hourS (uset w 0 21 (bitI m i))
theorem su_wf (m : Nat) : ∀ (k i : Nat) (H : Int) (u : US), WF H u → WF (H + k) (frm (suF m) k i u)
  | 0, _, H, u, wf => by
    rw [show H + ((0 : Nat) : Int) = H by omega]; exact wf
  | k + 1, i, H, u, wf => by
    have := su_wf m k (i + 1) (H + 1) (suF m i u) (hourS_wf (WF_set wf 0 21 (by show (0 : Int) ≤ _; unfold bitI; split <;> decide) (by show _ ≤ (1 : Int); unfold bitI; split <;> decide)))
    rw [show H + ((k + 1 : Nat) : Int) = H + 1 + k by omega]
    exact this
theorem and_bit {m i : Nat} (hm : m < 2147483648) (hi : i < 32) : bAnd (bShr (m : Int) (i : Int)) 1 = bitI m i := by
  rw [b_sh1 hm hi]
  have h : m.testBit i = true ↔ m / 2 ^ i % 2 = 1 := by rw [tb_div]; exact decide_eq_true_iff
  unfold bitI
  by_cases c : m.testBit i = true
  · rw [if_pos c, h.mp c]; rfl
  · rw [if_neg c]
    have : ¬ m / 2 ^ i % 2 = 1 := fun z => c (h.mpr z)
    omega
theorem pc_cn (m : Nat) : ∀ k i, pcN k (m / 2 ^ i) = cn (fun i => m.testBit i) k i
  | 0, _ => rfl
  | k + 1, i => by
    have := pc_cn m k (i + 1)
    simp only [pcN, cn]
    rw [← this, Nat.pow_succ, ← Nat.div_div_eq_div_mul]
    have h : (if m.testBit i = true then 1 else 0) = m / 2 ^ i % 2 := by
      rw [tb_div]
      by_cases c : m / 2 ^ i % 2 = 1
      · simp [c]
      · simp [c]; omega
    show _ = (if m.testBit i = true then 1 else 0) + _
    rw [h]
theorem pc_set {m N : Nat} (hN : N ≤ 31) (h : m < 2 ^ N) : pcN 31 m = cn (fun i => m.testBit i) N 0 := by
  rw [pcN_31 hN h]
  have := pc_cn m N 0
  rw [Nat.pow_zero, Nat.div_one] at this
  exact this
def ptN (b m : Nat) : Nat → Nat → Nat → Nat
  | 0, _, v => v
  | k + 1, i, v => ptN b m k (i + 1) (v * (if m.testBit i = true then 1 else b))
theorem ptN_eq (b m : Nat) : ∀ k i v, ptN b m k i v = v * b ^ (k - cn (fun i => m.testBit i) k i)
  | 0, _, v => by
    show v = v * b ^ (0 - 0)
    rw [Nat.pow_zero, Nat.mul_one]
  | k + 1, i, v => by
    have l := cn_le (fun i => m.testBit i) k (i + 1)
    simp only [ptN, cn]
    rw [ptN_eq b m k (i + 1)]
    by_cases c : m.testBit i = true
    · rw [if_pos c, if_pos c, Nat.mul_one, show k + 1 - (1 + cn (fun i => m.testBit i) k (i + 1)) = k - cn (fun i => m.testBit i) k (i + 1) by omega]
    · rw [if_neg c, if_neg c, show k + 1 - (0 + cn (fun i => m.testBit i) k (i + 1)) = (k - cn (fun i => m.testBit i) k (i + 1)) + 1 by omega, Nat.pow_succ', Nat.mul_assoc]
def suV (u : US) (p t N b : Nat) : Nat → Nat → Nat := fun m v => if frm (suF m) N 0 u 6 t = (p : Int) then v + b ^ (N - cn (fun i => m.testBit i) N 0) else v
theorem pow_b {b e : Nat} (hb : b ≤ 19) (he : e ≤ 7) : b ^ e ≤ 893871739 := by
  calc b ^ e ≤ 19 ^ e := Nat.pow_le_pow_left hb e
    _ ≤ 19 ^ 7 := Nat.pow_le_pow_right (by decide) he
    _ = 893871739 := by decide
theorem pow_t {b e : Nat} (hb : b ≤ 20) (hb2 : 2 ≤ b) (he : e ≤ 7) : b ^ e ≤ 1280000000 ∧ 0 < b ^ e := by
  refine ⟨?_, Nat.pow_pos (by omega)⟩
  calc b ^ e ≤ 20 ^ e := Nat.pow_le_pow_left hb e
    _ ≤ 20 ^ 7 := Nat.pow_le_pow_right (by decide) he
    _ = 1280000000 := by decide
theorem suV_b {u : US} {p t N b : Nat} (hb : b ≤ 19) (hN : N ≤ 7) : ∀ k i v, frm (suV u p t N b) k i v ≤ v + 893871739 * k
  | 0, _, v => by
    show v ≤ v + 0
    omega
  | k + 1, i, v => by
    have := suV_b (u := u) (p := p) (t := t) hb hN k (i + 1) (suV u p t N b i v)
    have q := pow_b hb (e := N - cn (fun j => i.testBit j) N 0) (by omega)
    have : suV u p t N b i v ≤ v + 893871739 := by
      unfold suV
      split <;> omega
    simp only [frm]
    omega
