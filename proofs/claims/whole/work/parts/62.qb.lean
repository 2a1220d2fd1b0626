/-! sunny hours by odds -/
theorem vw_s22 {M : Mem} {v : Int} (hv : I32 v) : vw (mup M 129 4 v) 22 = uset (vw M 22) 0 21 v := by
  funext k i
  show _ = (if k = 0 ∧ i = 21 then v else vw M 22 k i)
  by_cases c : k = 0 ∧ i = 21
  · obtain ⟨rfl, rfl⟩ := c
    rw [if_pos ⟨rfl, rfl⟩, v22s, rd_ups _ _ _ hv]
  · rw [if_neg c]
    unfold vw
    by_cases k0 : k = 0
    · rw [if_pos k0, if_pos k0]
      unfold vs
      rw [rd_upne _ _ _ 22 _ _ (by omega), rd_upne _ _ _ 129 3 _ (by omega)]
      by_cases g : i = 3 ∨ i = 7 ∨ i = 12 ∨ i = 13 ∨ i = 14
      · rw [if_pos g, if_pos g]
      · have i21 : i ≠ 21 := by omega
        rw [if_neg g, if_neg g, if_neg i21, if_neg i21]
        simp
    · rw [if_neg k0, if_neg k0]
      by_cases k6 : k = 6
      · rw [if_pos k6, if_pos k6, rd_upne _ _ _ _ _ _ (by omega)]
      · rw [if_neg k6, if_neg k6]
        by_cases g : i < lnk k
        · have := lnk_le g
          rw [if_pos g, if_pos g, rd_upne _ _ _ _ _ _ (by omega)]
        · rw [if_neg g, if_neg g]
theorem vw_s137 {M : Mem} {v : Int} (hv : I32 v) : vw (mup M 137 21 v) 137 = uset (vw M 137) 0 21 v := by
  funext k i
  show _ = (if k = 0 ∧ i = 21 then v else vw M 137 k i)
  by_cases c : k = 0 ∧ i = 21
  · obtain ⟨rfl, rfl⟩ := c
    rw [if_pos ⟨rfl, rfl⟩, v137s, rd_ups _ _ _ hv]
  · rw [if_neg c]
    unfold vw
    by_cases k0 : k = 0
    · rw [if_pos k0, if_pos k0]
      unfold vs
      rw [rd_upne _ _ _ 137 20 _ (by omega)]
      by_cases g : i = 3 ∨ i = 7 ∨ i = 12 ∨ i = 13 ∨ i = 14
      · rw [if_pos g, if_pos g, rd_upne _ _ _ _ _ _ (by omega)]
      · have i21 : i ≠ 21 := by omega
        rw [if_neg g, if_neg g, if_neg i21, if_neg i21]
        simp
    · rw [if_neg k0, if_neg k0]
      by_cases k6 : k = 6
      · rw [if_pos k6, if_pos k6, rd_upne _ _ _ _ _ _ (by omega)]
      · rw [if_neg k6, if_neg k6]
        by_cases g : i < lnk k
        · have := lnk_le g
          rw [if_pos g, if_pos g, rd_upne _ _ _ _ _ _ (by omega)]
        · rw [if_neg g, if_neg g]
def bitI (m i : Nat) : Int := if m.testBit i = true then 1 else 0
def suF (m : Nat) : Nat → US → US := fun i w => hourS (uset w 0 21 (bitI m i))
theorem su_wf (m : Nat) : ∀ (k i : Nat) (H : Int) (u : US), WF H u → WF (H + k) (frm (suF m) k i u)
  | 0, _, H, u, wf => by
    rw [show H + ((0 : Nat) : Int) = H by omega]; exact wf
  | k + 1, i, H, u, wf => by
    have := su_wf m k (i + 1) (H + 1) (suF m i u) (hourS_wf (WF_set wf 0 21 (by show (0 : Int) ≤ _; unfold bitI; split <;> decide) (by show _ ≤ (1 : Int); unfold bitI; split <;> decide)))
    rw [show H + ((k + 1 : Nat) : Int) = H + 1 + k by omega]
    exact this
theorem and_bit {m i : Nat} (hm : m < 2147483648) (hi : i < 32) : bAnd (bShr (m : Int) (i : Int)) 1 = bitI m i := by
  rw [b_sh1 hm hi]
  have h : m.testBit i = true ↔ m / 2 ^ i % 2 = 1 := by rw [tb_div]; exact decide_eq_true_iff
  unfold bitI
  by_cases c : m.testBit i = true
  · rw [if_pos c, h.mp c]; rfl
  · rw [if_neg c]
    have : ¬ m / 2 ^ i % 2 = 1 := fun z => c (h.mpr z)
    omega
theorem e_ob_14 {n p tt N m : Nat} (hn : 2000 ≤ n) (hp : p < 5) (ht8 : tt < 8) (hN : N ≤ 7) (hm : m < 2147483648) : ∀ k t (i : Nat) (H : Int) M, i + k = N → k < t → H + k ≤ 100000 → SkyOk M → WF H (vw M 22) →
    Ok (m_X5_isOwnedBehind_14 n t M (p : Int) (tt : Int) (N : Int) (m : Int) (i : Int)) (fun r M' => r = (if frm (suF m) k i (vw M 22) 6 tt = (p : Int) then 1 else 0) ∧ SkyOk M' ∧ KM M M') := by
  intro k
  induction k with
  | zero =>
    intro t i H M hi ht hH sk wf
    cases t with
    | zero => omega
    | succ t =>
      have b := tW (by decide) wf ht8
      simp only [Nat.reduceAdd] at b
      rw [m_X5_isOwnedBehind_14]
      simp only [Int.toNat_natCast]
      repeat (first
          | with_reducible refine Ok_g (by first | assumption | omega) ?_
          | with_reducible refine Ok_lt ?_
          | with_reducible refine Ok_t (by first | assumption | omega) ?_
          | with_reducible refine Ok_f (by first | assumption | omega) ?_)
      refine Ok_if (fun g => Ok_ret ⟨(if_pos (show vw M 22 6 tt = (p : Int) by omega)).symm, sk, KM_refl M⟩) (fun g => Ok_ret ⟨(if_neg (show ¬ vw M 22 6 tt = (p : Int) by omega)).symm, sk, KM_refl M⟩)
  | succ k ih =>
    intro t i H M hi ht hH sk wf
    cases t with
    | zero => omega
    | succ t =>
      rw [m_X5_isOwnedBehind_14, and_bit hm (by omega)]
      simp only [frm]
      unfold m_X5_isOwnedBehind_39
      have bb : bitI m i = 0 ∨ bitI m i = 1 := by unfold bitI; split <;> omega
      have go : Ok (bd (m_X0_goOn n (mup M 129 4 (bitI m i)) 1) (fun _ M3 => m_X5_isOwnedBehind_14 n t M3 (p : Int) (tt : Int) (N : Int) (m : Int) ((i : Int) + 1))) (fun r M' => r = (if frm (suF m) k (i + 1) (suF m i (vw M 22)) 6 tt = (p : Int) then 1 else 0) ∧ SkyOk M' ∧ KM M M') := by
        have e : vw (mup M 129 4 (bitI m i)) 22 = uset (vw M 22) 0 21 (bitI m i) := vw_s22 (by omega)
        refine Ok_bd (e_goOn1 (H := H) hn (by omega) (SkyOk_keep sk (fun q j _ _ => mup_n _ (by omega))) (by rw [e]; exact WF_set wf 0 21 (by show (0 : Int) ≤ _; omega) (by show _ ≤ (1 : Int); omega))) ?_
        rintro _ M1 ⟨v1, w1, k1, l1, km⟩
        rw [e] at v1
        refine Ok_mono (ih t (i + 1) (H + 1) M1 (by omega) (by omega) (by omega) k1 w1) ?_
        rintro r M2 ⟨h1, h2, h3⟩
        refine ⟨?_, h2, KM_trans (KM_trans (KM_up (by omega)) km) h3⟩
        rw [h1, v1]
        rfl
      rcases bb with c | c
      · rw [c] at go
        repeat (first
            | with_reducible refine Ok_g (by first | assumption | omega) ?_
            | with_reducible refine Ok_lt ?_
            | with_reducible refine Ok_t (by first | assumption | omega) ?_
            | with_reducible refine Ok_f (by first | assumption | omega) ?_)
        exact go
      · rw [c] at go
        repeat (first
            | with_reducible refine Ok_g (by first | assumption | omega) ?_
            | with_reducible refine Ok_lt ?_
            | with_reducible refine Ok_t (by first | assumption | omega) ?_
            | with_reducible refine Ok_f (by first | assumption | omega) ?_)
        exact go
theorem e_ob {n p tt N m : Nat} {M : Mem} (hn : 2000 ≤ n) (hp : p < 5) (ht8 : tt < 8) (hN : N ≤ 7) (hm : m < 2147483648) (sk : SkyOk M) (wf : WF 999 (vw M 0)) :
    Ok (m_X5_isOwnedBehind n M (p : Int) (tt : Int) (N : Int) (m : Int)) (fun r M' => r = (if frm (suF m) N 0 (vw M 0) 6 tt = (p : Int) then 1 else 0) ∧ SkyOk M' ∧ KM M M') := by
  unfold m_X5_isOwnedBehind
  refine Ok_bd (e_begin hn sk wf (by decide)) ?_
  rintro _ M1 ⟨v1, k1, l1, f1⟩
  have km : KM M M1 := fun q i hq => f1 q i (by omega)
  refine Ok_mono (e_ob_14 hn hp ht8 hN hm N n 0 999 M1 (by omega) (by omega) (by omega) k1 (by rw [v1]; exact wf)) ?_
  rintro r M2 ⟨h1, h2, h3⟩
  exact ⟨by rw [h1, v1], h2, KM_trans km h3⟩
theorem e_power_5 {n : Nat} {M : Mem} {b e : Nat} (he : e ≤ 100) : ∀ k t (i v : Nat), i + k = e → k < t → m_X5_power_5 n t M (b : Int) (e : Int) (v : Int) (i : Int) = some (((v * b ^ k : Nat) : Int), M) := by
  intro k
  induction k with
  | zero =>
    intro t i v hi ht
    cases t with
    | zero => omega
    | succ t =>
      refine Ok_eq ?_
      rw [m_X5_power_5]
      repeat (first
          | with_reducible refine Ok_g (by first | assumption | omega) ?_
          | with_reducible refine Ok_lt ?_
          | with_reducible refine Ok_t (by first | assumption | omega) ?_
          | with_reducible refine Ok_f (by first | assumption | omega) ?_)
      exact Ok_ret ⟨by rw [Nat.pow_zero, Nat.mul_one], rfl⟩
  | succ k ih =>
    intro t i v hi ht
    cases t with
    | zero => omega
    | succ t =>
      refine Ok_eq ?_
      rw [m_X5_power_5]
      repeat (first
          | with_reducible refine Ok_g (by first | assumption | omega) ?_
          | with_reducible refine Ok_lt ?_
          | with_reducible refine Ok_t (by first | assumption | omega) ?_
          | with_reducible refine Ok_f (by first | assumption | omega) ?_)
      rw [← Int.natCast_mul]
      exact Ok_of (ih t (i + 1) (v * b) (by omega) (by omega)) ⟨by rw [Nat.pow_succ', Nat.mul_assoc], rfl⟩
theorem e_power {n b e : Nat} {M : Mem} (hn : 2000 ≤ n) (he : e ≤ 100) : m_X5_power n M (b : Int) (e : Int) = some (((b ^ e : Nat) : Int), M) := by
  have := e_power_5 (n := n) (M := M) (b := b) he e n 0 1 (by omega) (by omega)
  rw [Nat.one_mul] at this
  exact this
theorem pc_cn (m : Nat) : ∀ k i, pcN k (m / 2 ^ i) = cn (fun i => m.testBit i) k i
  | 0, _ => rfl
  | k + 1, i => by
    have := pc_cn m k (i + 1)
    simp only [pcN, cn]
    rw [← this, Nat.pow_succ, ← Nat.div_div_eq_div_mul]
    have h : (if m.testBit i = true then 1 else 0) = m / 2 ^ i % 2 := by
      rw [tb_div]
      by_cases c : m / 2 ^ i % 2 = 1
      · simp [c]
      · simp [c]; omega
    show _ = (if m.testBit i = true then 1 else 0) + _
    rw [h]
theorem pc_set {m N : Nat} (hN : N ≤ 31) (h : m < 2 ^ N) : pcN 31 m = cn (fun i => m.testBit i) N 0 := by
  rw [pcN_31 hN h]
  have := pc_cn m N 0
  rw [Nat.pow_zero, Nat.div_one] at this
  exact this
def ptN (b m : Nat) : Nat → Nat → Nat → Nat
  | 0, _, v => v
  | k + 1, i, v => ptN b m k (i + 1) (v * (if m.testBit i = true then 1 else b))
theorem ptN_eq (b m : Nat) : ∀ k i v, ptN b m k i v = v * b ^ (k - cn (fun i => m.testBit i) k i)
  | 0, _, v => by
    show v = v * b ^ (0 - 0)
    rw [Nat.pow_zero, Nat.mul_one]
  | k + 1, i, v => by
    have l := cn_le (fun i => m.testBit i) k (i + 1)
    simp only [ptN, cn]
    rw [ptN_eq b m k (i + 1)]
    by_cases c : m.testBit i = true
    · rw [if_pos c, if_pos c, Nat.mul_one, show k + 1 - (1 + cn (fun i => m.testBit i) k (i + 1)) = k - cn (fun i => m.testBit i) k (i + 1) by omega]
    · rw [if_neg c, if_neg c, show k + 1 - (0 + cn (fun i => m.testBit i) k (i + 1)) = (k - cn (fun i => m.testBit i) k (i + 1)) + 1 by omega, Nat.pow_succ', Nat.mul_assoc]
def suV (u : US) (p t N b : Nat) : Nat → Nat → Nat := fun m v => if frm (suF m) N 0 u 6 t = (p : Int) then v + b ^ (N - cn (fun i => m.testBit i) N 0) else v
theorem pow_b {b e : Nat} (hb : b ≤ 19) (he : e ≤ 7) : b ^ e ≤ 893871739 := by
  calc b ^ e ≤ 19 ^ e := Nat.pow_le_pow_left hb e
    _ ≤ 19 ^ 7 := Nat.pow_le_pow_right (by decide) he
    _ = 893871739 := by decide
theorem pow_t {b e : Nat} (hb : b ≤ 20) (hb2 : 2 ≤ b) (he : e ≤ 7) : b ^ e ≤ 1280000000 ∧ 0 < b ^ e := by
  refine ⟨?_, Nat.pow_pos (by omega)⟩
  calc b ^ e ≤ 20 ^ e := Nat.pow_le_pow_left hb e
    _ ≤ 20 ^ 7 := Nat.pow_le_pow_right (by decide) he
    _ = 1280000000 := by decide
theorem suV_b {u : US} {p t N b : Nat} (hb : b ≤ 19) (hN : N ≤ 7) : ∀ k i v, frm (suV u p t N b) k i v ≤ v + 893871739 * k
  | 0, _, v => by
    show v ≤ v + 0
    omega
  | k + 1, i, v => by
    have := suV_b (u := u) (p := p) (t := t) hb hN k (i + 1) (suV u p t N b i v)
    have q := pow_b hb (e := N - cn (fun j => i.testBit j) N 0) (by omega)
    have : suV u p t N b i v ≤ v + 893871739 := by
      unfold suV
      split <;> omega
    simp only [frm]
    omega
theorem e_sun_89 {n p tt N b : Nat} {c5 : Int} {M0 : Mem} (hn : 2000 ≤ n) (hp : p < 5) (ht8 : tt < 8) (hN : N ≤ 7) (hb : 1 ≤ b ∧ b ≤ 19) (h5 : c5 = 0 ∨ c5 = 1) (wf0 : WF 999 (vw M0 0)) : ∀ k t (i v : Nat) M, i + k = 2 ^ N → k < t → SkyOk M → KM M0 M → v ≤ 893871739 * i →
    Ok (m_X5_sun_89 n t M (p : Int) (tt : Int) (N : Int) ((b : Int) + 1) c5 (v : Int) (i : Int)) (fun r M' => r = lowS (frm (suV (vw M0 0) p tt N b) k i v) ((b + 1) ^ N) c5 ∧ SkyOk M' ∧ KM M0 M') := by
  have l2 : 2 ^ N ≤ 128 := by
    calc 2 ^ N ≤ 2 ^ 7 := Nat.pow_le_pow_right (by decide) hN
      _ = 128 := by decide
  intro k
  induction k with
  | zero =>
    intro t i v M hi ht sk km hv
    cases t with
    | zero => omega
    | succ t =>
      have pt := pow_t (b := b + 1) (e := N) (by omega) (by omega) hN
      rw [m_X5_sun_89, bShl1 (by omega)]
      simp only [frm]
      repeat (first
          | with_reducible refine Ok_g (by first | assumption | omega) ?_
          | with_reducible refine Ok_lt ?_
          | with_reducible refine Ok_t (by first | assumption | omega) ?_
          | with_reducible refine Ok_f (by first | assumption | omega) ?_)
      rw [show (b : Int) + 1 = ((b + 1 : Nat) : Int) by omega]
      refine Ok_be (e_power hn (by omega)) ?_
      refine Ok_be (e_lowest hn (by omega) (by omega) h5) (Ok_ret ⟨rfl, sk, km⟩)
  | succ k ih =>
    intro t i v M hi ht sk km hv
    cases t with
    | zero => omega
    | succ t =>
      have e0 := vw0_KM km
      rw [m_X5_sun_89, bShl1 (by omega)]
      simp only [frm]
      repeat (first
          | with_reducible refine Ok_g (by first | assumption | omega) ?_
          | with_reducible refine Ok_lt ?_
          | with_reducible refine Ok_t (by first | assumption | omega) ?_
          | with_reducible refine Ok_f (by first | assumption | omega) ?_)
      refine Ok_bd (e_ob hn hp ht8 hN (by omega) sk (by rw [e0]; exact wf0)) ?_
      rintro r M1 ⟨er, k1, km1⟩
      rw [e0] at er
      have kmm := KM_trans km km1
      by_cases c : frm (suF i) N 0 (vw M0 0) 6 tt = (p : Int)
      · rw [if_pos c] at er
        repeat (first
            | with_reducible refine Ok_g (by first | assumption | omega) ?_
            | with_reducible refine Ok_lt ?_
            | with_reducible refine Ok_t (by first | assumption | omega) ?_
            | with_reducible refine Ok_f (by first | assumption | omega) ?_)
        refine Ok_be (e_bitCount (by omega)) ?_
        have cl := cn_le (fun j => i.testBit j) N 0
        rw [pc_set (N := N) (by omega) (by omega), show (b : Int) + 1 - 1 = (b : Int) by omega, show (N : Int) - ((cn (fun j => i.testBit j) N 0 : Nat) : Int) = ((N - cn (fun j => i.testBit j) N 0 : Nat) : Int) by omega]
        refine Ok_be (e_power hn (by omega)) ?_
        have q := pow_b hb.2 (e := N - cn (fun j => i.testBit j) N 0) (by omega)
        rw [← Int.natCast_add]
        refine Ok_mono (ih t (i + 1) _ M1 (by omega) (by omega) k1 kmm (by omega)) ?_
        rintro r' M2 ⟨h1, h2⟩
        refine ⟨?_, h2⟩
        rw [h1, show suV (vw M0 0) p tt N b i v = _ from if_pos c]
      · rw [if_neg c] at er
        repeat (first
            | with_reducible refine Ok_g (by first | assumption | omega) ?_
            | with_reducible refine Ok_lt ?_
            | with_reducible refine Ok_t (by first | assumption | omega) ?_
            | with_reducible refine Ok_f (by first | assumption | omega) ?_)
        refine Ok_mono (ih t (i + 1) v M1 (by omega) (by omega) k1 kmm (by omega)) ?_
        rintro r' M2 ⟨h1, h2⟩
        refine ⟨?_, h2⟩
        rw [h1, show suV (vw M0 0) p tt N b i v = v from if_neg c]
theorem r_sun_133 {n p tt N b m v9 v7 : Nat} {c5 : Int} {M0 M1 : Mem} {k115 : Mem → Int → Int → Int → Int → Int → Int → Int → Int → Rs} {Post : Int → Mem → Prop} (hn : 2000 ≤ n) (s : Sim M0) (md : Md M0 M1) (hp : p < 5) (ht8 : tt < 8) (hN : N ≤ 7) (hb : 1 ≤ b ∧ b ≤ 19) (hm : m < 128)
    : ∀ k t (i v : Nat) (H : Int) M, i + k = N → k < t → H + k ≤ 100000 → KX M1 M → WF H (vw M 137) →
    (∀ M', Sim M' → vw M' 137 = vw M0 137 → Ok (k115 M' (p : Int) (tt : Int) (N : Int) ((b : Int) + 1) c5 (((if frm (suF m) k i (vw M 137) 6 tt = (p : Int) then v7 + ptN b m k i v else v7 : Nat)) : Int) (v9 : Int) ((m : Int) + 1)) Post) →
    Ok (m_X6_sun_133 n k115 t M (p : Int) (tt : Int) (N : Int) ((b : Int) + 1) c5 (v7 : Int) (v9 : Int) (m : Int) (v : Int) (i : Int)) Post := by
  intro k
  induction k with
  | zero =>
    intro t i v H M hi ht hH kx wf hk
    cases t with
    | zero => omega
    | succ t =>
      have q := tR wf ht8
      rw [m_X6_sun_133]
      simp only [Int.toNat_natCast]
      unfold m_X6_sun_199
      repeat (first
          | with_reducible refine Ok_g (by first | assumption | omega) ?_
          | with_reducible refine Ok_lt ?_
          | with_reducible refine Ok_t (by first | assumption | omega) ?_
          | with_reducible refine Ok_f (by first | assumption | omega) ?_)
      refine Ok_if (fun g => ?_) (fun g => ?_)
      · refine Ok_bd (r_forgets hn s md kx) ?_
        rintro _ M3 ⟨s3, v3, _⟩
        have := hk M3 s3 v3
        have e : (if frm (suF m) 0 i (vw M 137) 6 tt = (p : Int) then v7 + ptN b m 0 i v else v7) = v7 + v := if_pos (show vw M 137 6 tt = (p : Int) by omega)
        rw [e, Int.natCast_add] at this
        exact this
      · refine Ok_bd (r_forgets hn s md kx) ?_
        rintro _ M3 ⟨s3, v3, _⟩
        have := hk M3 s3 v3
        have e : (if frm (suF m) 0 i (vw M 137) 6 tt = (p : Int) then v7 + ptN b m 0 i v else v7) = v7 := if_neg (show ¬ vw M 137 6 tt = (p : Int) by omega)
        rw [e] at this
        rw [show (v7 : Int) + 0 = (v7 : Int) by omega]
        exact this
  | succ k ih =>
    intro t i v H M hi ht hH kx wf hk
    cases t with
    | zero => omega
    | succ t =>
      rw [m_X6_sun_133]
      unfold m_X6_sun_168
      simp only [frm, ptN] at hk
      repeat (first
          | with_reducible refine Ok_g (by first | assumption | omega) ?_
          | with_reducible refine Ok_lt ?_
          | with_reducible refine Ok_t (by first | assumption | omega) ?_
          | with_reducible refine Ok_f (by first | assumption | omega) ?_)
      refine Ok_be (r_has (by omega) (by omega)) ?_
      have go : ∀ x : Int, ∀ w : Nat, x = bitI m i → v * (if m.testBit i = true then 1 else b) = w → Ok (bd (m_X6_goesHour n (mup M 137 21 x)) (fun _ M2 => m_X6_sun_133 n k115 t M2 (p : Int) (tt : Int) (N : Int) ((b : Int) + 1) c5 (v7 : Int) (v9 : Int) (m : Int) (w : Int) ((i : Int) + 1))) Post := by
        intro x w hx hw
        subst hx
        have bb : bitI m i = 0 ∨ bitI m i = 1 := by unfold bitI; split <;> omega
        have e : vw (mup M 137 21 (bitI m i)) 137 = uset (vw M 137) 0 21 (bitI m i) := vw_s137 (by omega)
        have w1 : WF H (vw (mup M 137 21 (bitI m i)) 137) := by
          rw [e]; exact WF_set wf 0 21 (by show (0 : Int) ≤ _; omega) (by show _ ≤ (1 : Int); omega)
        refine Ok_bd (r_goesHour hn w1 (by omega)) ?_
        rintro _ M2 ⟨v2, k2⟩
        refine ih t (i + 1) w (H + 1) M2 (by omega) (by omega) (by omega) (KX_trans kx (KX_trans (KX_up (by omega)) (KX_G k2))) (by rw [v2]; exact hourS_wf w1) ?_
        intro M' h1 h2
        have := hk M' h1 h2
        rw [hw] at this
        rw [v2, e]
        exact this
      by_cases c : m.testBit i = true
      · rw [if_pos c] at go ⊢
        repeat (first
            | with_reducible refine Ok_g (by first | assumption | omega) ?_
            | with_reducible refine Ok_lt ?_
            | with_reducible refine Ok_t (by first | assumption | omega) ?_
            | with_reducible refine Ok_f (by first | assumption | omega) ?_)
        refine Ok_wr ?_
        rw [rd_ups _ _ _ (by decide)]
        repeat (first
            | with_reducible refine Ok_g (by first | assumption | omega) ?_
            | with_reducible refine Ok_lt ?_
            | with_reducible refine Ok_t (by first | assumption | omega) ?_
            | with_reducible refine Ok_f (by first | assumption | omega) ?_)
        rw [show (v : Int) * 1 = (v : Int) by omega]
        exact go 1 v (by unfold bitI; rw [if_pos c]) (Nat.mul_one v)
      · rw [if_neg c] at go ⊢
        repeat (first
            | with_reducible refine Ok_g (by first | assumption | omega) ?_
            | with_reducible refine Ok_lt ?_
            | with_reducible refine Ok_t (by first | assumption | omega) ?_
            | with_reducible refine Ok_f (by first | assumption | omega) ?_)
        refine Ok_wr ?_
        rw [rd_ups _ _ _ (by decide)]
        repeat (first
            | with_reducible refine Ok_g (by first | assumption | omega) ?_
            | with_reducible refine Ok_lt ?_
            | with_reducible refine Ok_t (by first | assumption | omega) ?_
            | with_reducible refine Ok_f (by first | assumption | omega) ?_)
        rw [show (b : Int) + 1 - 1 = (b : Int) by omega, ← Int.natCast_mul]
        exact go 0 (v * b) (by unfold bitI; rw [if_neg c]) rfl
theorem r_sun_115 {n p tt N b : Nat} {c5 : Int} {u : US} (hn : 2000 ≤ n) (hp : p < 5) (ht8 : tt < 8) (hN : N ≤ 7) (hb : 1 ≤ b ∧ b ≤ 19) (h5 : c5 = 0 ∨ c5 = 1) (wu : WF 999 u) : ∀ k t (i v : Nat) M, i + k = 2 ^ N → k < t → Sim M → vw M 0 = u → v ≤ 893871739 * i →
    Ok (m_X6_sun_115 n t M (p : Int) (tt : Int) (N : Int) ((b : Int) + 1) c5 (v : Int) (((b + 1) ^ N : Nat) : Int) (i : Int)) (fun r M' => r = lowS (frm (suV u p tt N b) k i v) ((b + 1) ^ N) c5 ∧ Sim M') := by
  have l2 : 2 ^ N ≤ 128 := by
    calc 2 ^ N ≤ 2 ^ 7 := Nat.pow_le_pow_right (by decide) hN
      _ = 128 := by decide
  intro k
  induction k with
  | zero =>
    intro t i v M hi ht s hu hv
    cases t with
    | zero => omega
    | succ t =>
      have pt := pow_t (b := b + 1) (e := N) (by omega) (by omega) hN
      rw [m_X6_sun_115, bShl1 (by omega)]
      simp only [frm]
      repeat (first
          | with_reducible refine Ok_g (by first | assumption | omega) ?_
          | with_reducible refine Ok_lt ?_
          | with_reducible refine Ok_t (by first | assumption | omega) ?_
          | with_reducible refine Ok_f (by first | assumption | omega) ?_)
      refine Ok_be (r_partOf hn (by omega) (by omega) pt.2 h5) (Ok_ret ⟨rfl, s⟩)
  | succ k ih =>
    intro t i v M hi ht s hu hv
    cases t with
    | zero => omega
    | succ t =>
      rw [m_X6_sun_115, bShl1 (by omega)]
      simp only [frm]
      repeat (first
          | with_reducible refine Ok_g (by first | assumption | omega) ?_
          | with_reducible refine Ok_lt ?_
          | with_reducible refine Ok_t (by first | assumption | omega) ?_
          | with_reducible refine Ok_f (by first | assumption | omega) ?_)
      refine Ok_bd (r_minds hn s) ?_
      rintro _ M1 ⟨v1, md, _⟩
      have e1 : vw M1 137 = u := by rw [v1, s.1, hu]
      refine r_sun_133 (m := i) hn s md hp ht8 hN hb (by omega) N n 0 1 999 M1 (by omega) (by omega) (by omega) (KX_refl M1) (by rw [e1]; exact wu) ?_
      intro M2 s2 v2
      have u2 : vw M2 0 = u := by rw [← s2.1, v2, s.1, hu]
      rw [e1, ptN_eq, Nat.one_mul]
      have q := pow_b hb.2 (e := N - cn (fun j => i.testBit j) N 0) (by omega)
      exact ih t (i + 1) (suV u p tt N b i v) M2 (by omega) (by omega) s2 u2 (by
        unfold suV
        split <;> omega)
theorem r_sun_92 {n p tt N b : Nat} {c5 : Int} {M : Mem} (hN : N ≤ 7) (hb : 1 ≤ b ∧ b ≤ 19) : ∀ k t (i : Nat), i + k = N → k < t →
    m_X6_sun_92 n t M (p : Int) (tt : Int) (N : Int) ((b : Int) + 1) c5 0 (((b + 1) ^ i : Nat) : Int) (i : Int) = m_X6_sun_115 n n M (p : Int) (tt : Int) (N : Int) ((b : Int) + 1) c5 0 (((b + 1) ^ N : Nat) : Int) 0 := by
  intro k
  induction k with
  | zero =>
    intro t i hi ht
    cases t with
    | zero => omega
    | succ t =>
      rw [m_X6_sun_92, if_pos (by omega), if_pos (by omega), if_pos (by omega), show i = N by omega]
  | succ k ih =>
    intro t i hi ht
    cases t with
    | zero => omega
    | succ t =>
      rw [m_X6_sun_92, if_pos (by omega), if_pos (by omega), if_neg (by omega), if_pos (by omega), ← ih t (i + 1) (by omega) (by omega)]
      rw [show (b : Int) + 1 = ((b + 1 : Nat) : Int) by omega, ← Int.natCast_mul, Nat.pow_succ]
      rfl
theorem q_sun {n : Nat} {M : Mem} {a b c d e : Int} (hn : 2000 ≤ n) (s : Sim M) (ha : I32 a) (hb : I32 b) (hc : I32 c) (hd : I32 d) (he : I32 e) : AgrL (m_X5_sun n M a b c d e) (fun M1 => m_X6_sun n M1 a b c d e) := by
  obtain ⟨wf0, vv0, rf0⟩ := sim_rf s (M1 := M) (fun _ _ _ => rfl)
  unfold AgrL m_X5_sun m_X5_sun_22 m_X5_sun_38 m_X5_sun_58
  by_cases h : 0 ≤ a ∧ a < rd M 0 12
  · by_cases h2 : 0 ≤ b ∧ b < rd M 0 7
    · by_cases hc0 : c < 0
      · repeat (first
            | with_reducible refine Ok_g (by first | assumption | omega) ?_
            | with_reducible refine Ok_lt ?_
            | with_reducible refine Ok_t (by first | assumption | omega) ?_
            | with_reducible refine Ok_f (by first | assumption | omega) ?_
            | with_reducible refine Ok_be (e_hasF (by decide) (by assumption)) ?_
            | with_reducible refine Ok_be (e_hasT (by decide) (by assumption)) ?_
            | with_reducible refine Ok_be (e_hasP (by decide) (by assumption)) ?_
            | with_reducible refine Ok_be (e_isCell (by first | assumption | omega)) ?_
            | with_reducible refine Ok_be (e_oor (by assumption) (by decide) (by decide)) ?_
            | with_reducible refine Ok_be (r_isIn (by first | assumption | omega) (by first | decide | omega) (by first | decide | omega)) ?_
            | with_reducible refine Ok_be (r_bound (by assumption) (by decide) (by decide)) ?_
            | with_reducible refine Ok_be (r_isF (by assumption) (by assumption)) ?_
            | with_reducible refine Ok_be (r_isT (by assumption) (by assumption)) ?_
            | with_reducible refine Ok_be (r_isP (by assumption) (by assumption)) ?_
            | with_reducible refine Ok_be (r_isCell (by first | assumption | omega)) ?_)
        refine Ok_be (e_refuseLong 4 (by omega) (by decide) (by decide)) (Ok_ret ⟨by decide, ?_⟩)
        obtain ⟨wf1, rf1, rf2⟩ := sim_rf s (M1 := bump 134 M 4) (fun q i h => bump_ne (by omega))
        unfold m_X6_sun m_X6_sun_16 m_X6_sun_30 m_X6_sun_48 m_X6_sun_69
        repeat (first
            | with_reducible refine Ok_g (by first | assumption | omega) ?_
            | with_reducible refine Ok_lt ?_
            | with_reducible refine Ok_t (by first | assumption | omega) ?_
            | with_reducible refine Ok_f (by first | assumption | omega) ?_
            | with_reducible refine Ok_be (e_hasF (by decide) (by assumption)) ?_
            | with_reducible refine Ok_be (e_hasT (by decide) (by assumption)) ?_
            | with_reducible refine Ok_be (e_hasP (by decide) (by assumption)) ?_
            | with_reducible refine Ok_be (e_isCell (by first | assumption | omega)) ?_
            | with_reducible refine Ok_be (e_oor (by assumption) (by decide) (by decide)) ?_
            | with_reducible refine Ok_be (r_isIn (by first | assumption | omega) (by first | decide | omega) (by first | decide | omega)) ?_
            | with_reducible refine Ok_be (r_bound (by assumption) (by decide) (by decide)) ?_
            | with_reducible refine Ok_be (r_isF (by assumption) (by assumption)) ?_
            | with_reducible refine Ok_be (r_isT (by assumption) (by assumption)) ?_
            | with_reducible refine Ok_be (r_isP (by assumption) (by assumption)) ?_
            | with_reducible refine Ok_be (r_isCell (by first | assumption | omega)) ?_)
        exact Ok_be (r_lowestOf 4 (by omega) (by decide) (by decide)) (Ok_ret ⟨rfl, sim_bump s 4⟩)
      by_cases hd2 : d < 2
      · repeat (first
            | with_reducible refine Ok_g (by first | assumption | omega) ?_
            | with_reducible refine Ok_lt ?_
            | with_reducible refine Ok_t (by first | assumption | omega) ?_
            | with_reducible refine Ok_f (by first | assumption | omega) ?_
            | with_reducible refine Ok_be (e_hasF (by decide) (by assumption)) ?_
            | with_reducible refine Ok_be (e_hasT (by decide) (by assumption)) ?_
            | with_reducible refine Ok_be (e_hasP (by decide) (by assumption)) ?_
            | with_reducible refine Ok_be (e_isCell (by first | assumption | omega)) ?_
            | with_reducible refine Ok_be (e_oor (by assumption) (by decide) (by decide)) ?_
            | with_reducible refine Ok_be (r_isIn (by first | assumption | omega) (by first | decide | omega) (by first | decide | omega)) ?_
            | with_reducible refine Ok_be (r_bound (by assumption) (by decide) (by decide)) ?_
            | with_reducible refine Ok_be (r_isF (by assumption) (by assumption)) ?_
            | with_reducible refine Ok_be (r_isT (by assumption) (by assumption)) ?_
            | with_reducible refine Ok_be (r_isP (by assumption) (by assumption)) ?_
            | with_reducible refine Ok_be (r_isCell (by first | assumption | omega)) ?_)
        refine Ok_be (e_refuseLong 4 (by omega) (by decide) (by decide)) (Ok_ret ⟨by decide, ?_⟩)
        obtain ⟨wf1, rf1, rf2⟩ := sim_rf s (M1 := bump 134 M 4) (fun q i h => bump_ne (by omega))
        unfold m_X6_sun m_X6_sun_16 m_X6_sun_30 m_X6_sun_48 m_X6_sun_69
        repeat (first
            | with_reducible refine Ok_g (by first | assumption | omega) ?_
            | with_reducible refine Ok_lt ?_
            | with_reducible refine Ok_t (by first | assumption | omega) ?_
            | with_reducible refine Ok_f (by first | assumption | omega) ?_
            | with_reducible refine Ok_be (e_hasF (by decide) (by assumption)) ?_
            | with_reducible refine Ok_be (e_hasT (by decide) (by assumption)) ?_
            | with_reducible refine Ok_be (e_hasP (by decide) (by assumption)) ?_
            | with_reducible refine Ok_be (e_isCell (by first | assumption | omega)) ?_
            | with_reducible refine Ok_be (e_oor (by assumption) (by decide) (by decide)) ?_
            | with_reducible refine Ok_be (r_isIn (by first | assumption | omega) (by first | decide | omega) (by first | decide | omega)) ?_
            | with_reducible refine Ok_be (r_bound (by assumption) (by decide) (by decide)) ?_
            | with_reducible refine Ok_be (r_isF (by assumption) (by assumption)) ?_
            | with_reducible refine Ok_be (r_isT (by assumption) (by assumption)) ?_
            | with_reducible refine Ok_be (r_isP (by assumption) (by assumption)) ?_
            | with_reducible refine Ok_be (r_isCell (by first | assumption | omega)) ?_)
        exact Ok_be (r_lowestOf 4 (by omega) (by decide) (by decide)) (Ok_ret ⟨rfl, sim_bump s 4⟩)
      by_cases hc7 : 7 < c
      · repeat (first
            | with_reducible refine Ok_g (by first | assumption | omega) ?_
            | with_reducible refine Ok_lt ?_
            | with_reducible refine Ok_t (by first | assumption | omega) ?_
            | with_reducible refine Ok_f (by first | assumption | omega) ?_
            | with_reducible refine Ok_be (e_hasF (by decide) (by assumption)) ?_
            | with_reducible refine Ok_be (e_hasT (by decide) (by assumption)) ?_
            | with_reducible refine Ok_be (e_hasP (by decide) (by assumption)) ?_
            | with_reducible refine Ok_be (e_isCell (by first | assumption | omega)) ?_
            | with_reducible refine Ok_be (e_oor (by assumption) (by decide) (by decide)) ?_
            | with_reducible refine Ok_be (r_isIn (by first | assumption | omega) (by first | decide | omega) (by first | decide | omega)) ?_
            | with_reducible refine Ok_be (r_bound (by assumption) (by decide) (by decide)) ?_
            | with_reducible refine Ok_be (r_isF (by assumption) (by assumption)) ?_
            | with_reducible refine Ok_be (r_isT (by assumption) (by assumption)) ?_
            | with_reducible refine Ok_be (r_isP (by assumption) (by assumption)) ?_
            | with_reducible refine Ok_be (r_isCell (by first | assumption | omega)) ?_)
        refine Ok_be (e_refuseLong 6 (by omega) (by decide) (by decide)) (Ok_ret ⟨by decide, ?_⟩)
        obtain ⟨wf1, rf1, rf2⟩ := sim_rf s (M1 := bump 134 M 6) (fun q i h => bump_ne (by omega))
        unfold m_X6_sun m_X6_sun_16 m_X6_sun_30 m_X6_sun_48 m_X6_sun_69
        repeat (first
            | with_reducible refine Ok_g (by first | assumption | omega) ?_
            | with_reducible refine Ok_lt ?_
            | with_reducible refine Ok_t (by first | assumption | omega) ?_
            | with_reducible refine Ok_f (by first | assumption | omega) ?_
            | with_reducible refine Ok_be (e_hasF (by decide) (by assumption)) ?_
            | with_reducible refine Ok_be (e_hasT (by decide) (by assumption)) ?_
            | with_reducible refine Ok_be (e_hasP (by decide) (by assumption)) ?_
            | with_reducible refine Ok_be (e_isCell (by first | assumption | omega)) ?_
            | with_reducible refine Ok_be (e_oor (by assumption) (by decide) (by decide)) ?_
            | with_reducible refine Ok_be (r_isIn (by first | assumption | omega) (by first | decide | omega) (by first | decide | omega)) ?_
            | with_reducible refine Ok_be (r_bound (by assumption) (by decide) (by decide)) ?_
            | with_reducible refine Ok_be (r_isF (by assumption) (by assumption)) ?_
            | with_reducible refine Ok_be (r_isT (by assumption) (by assumption)) ?_
            | with_reducible refine Ok_be (r_isP (by assumption) (by assumption)) ?_
            | with_reducible refine Ok_be (r_isCell (by first | assumption | omega)) ?_)
        exact Ok_be (r_lowestOf 6 (by omega) (by decide) (by decide)) (Ok_ret ⟨rfl, sim_bump s 6⟩)
      by_cases hd20 : 20 < d
      · repeat (first
            | with_reducible refine Ok_g (by first | assumption | omega) ?_
            | with_reducible refine Ok_lt ?_
            | with_reducible refine Ok_t (by first | assumption | omega) ?_
            | with_reducible refine Ok_f (by first | assumption | omega) ?_
            | with_reducible refine Ok_be (e_hasF (by decide) (by assumption)) ?_
            | with_reducible refine Ok_be (e_hasT (by decide) (by assumption)) ?_
            | with_reducible refine Ok_be (e_hasP (by decide) (by assumption)) ?_
            | with_reducible refine Ok_be (e_isCell (by first | assumption | omega)) ?_
            | with_reducible refine Ok_be (e_oor (by assumption) (by decide) (by decide)) ?_
            | with_reducible refine Ok_be (r_isIn (by first | assumption | omega) (by first | decide | omega) (by first | decide | omega)) ?_
            | with_reducible refine Ok_be (r_bound (by assumption) (by decide) (by decide)) ?_
            | with_reducible refine Ok_be (r_isF (by assumption) (by assumption)) ?_
            | with_reducible refine Ok_be (r_isT (by assumption) (by assumption)) ?_
            | with_reducible refine Ok_be (r_isP (by assumption) (by assumption)) ?_
            | with_reducible refine Ok_be (r_isCell (by first | assumption | omega)) ?_)
        refine Ok_be (e_refuseLong 6 (by omega) (by decide) (by decide)) (Ok_ret ⟨by decide, ?_⟩)
        obtain ⟨wf1, rf1, rf2⟩ := sim_rf s (M1 := bump 134 M 6) (fun q i h => bump_ne (by omega))
        unfold m_X6_sun m_X6_sun_16 m_X6_sun_30 m_X6_sun_48 m_X6_sun_69
        repeat (first
            | with_reducible refine Ok_g (by first | assumption | omega) ?_
            | with_reducible refine Ok_lt ?_
            | with_reducible refine Ok_t (by first | assumption | omega) ?_
            | with_reducible refine Ok_f (by first | assumption | omega) ?_
            | with_reducible refine Ok_be (e_hasF (by decide) (by assumption)) ?_
            | with_reducible refine Ok_be (e_hasT (by decide) (by assumption)) ?_
            | with_reducible refine Ok_be (e_hasP (by decide) (by assumption)) ?_
            | with_reducible refine Ok_be (e_isCell (by first | assumption | omega)) ?_
            | with_reducible refine Ok_be (e_oor (by assumption) (by decide) (by decide)) ?_
            | with_reducible refine Ok_be (r_isIn (by first | assumption | omega) (by first | decide | omega) (by first | decide | omega)) ?_
            | with_reducible refine Ok_be (r_bound (by assumption) (by decide) (by decide)) ?_
            | with_reducible refine Ok_be (r_isF (by assumption) (by assumption)) ?_
            | with_reducible refine Ok_be (r_isT (by assumption) (by assumption)) ?_
            | with_reducible refine Ok_be (r_isP (by assumption) (by assumption)) ?_
            | with_reducible refine Ok_be (r_isCell (by first | assumption | omega)) ?_)
        exact Ok_be (r_lowestOf 6 (by omega) (by decide) (by decide)) (Ok_ret ⟨rfl, sim_bump s 6⟩)
      have main : e = 0 ∨ e = 1 → Ok (m_X5_sun_83 n M a b c d e) (fun r M1 => I64 r ∧ Ok (m_X6_sun n M1 a b c d e) (fun r' M2 => r' = r ∧ Sim M2)) := by
        intro he01
        obtain ⟨p, rfl⟩ := Int.eq_ofNat_of_zero_le h.1
        obtain ⟨tt, rfl⟩ := Int.eq_ofNat_of_zero_le h2.1
        obtain ⟨N, rfl⟩ := Int.eq_ofNat_of_zero_le (show 0 ≤ c by omega)
        obtain ⟨B, hB⟩ := Int.eq_ofNat_of_zero_le (show 0 ≤ d - 1 by omega)
        have ed : d = (B : Int) + 1 := by omega
        have l2 : 2 ^ N ≤ 128 := by
          calc 2 ^ N ≤ 2 ^ 7 := Nat.pow_le_pow_right (by decide) (by omega)
            _ = 128 := by decide
        have sb := suV_b (u := vw M 0) (p := p) (t := tt) (N := N) (b := B) (by omega) (by omega) (2 ^ N) 0 0
        have pt := pow_t (b := B + 1) (e := N) (by omega) (by omega) (by omega)
        have lb := lowS_b (x := frm (suV (vw M 0) p tt N B) (2 ^ N) 0 0) (y := (B + 1) ^ N) (p := e) (by omega) (by omega) he01
        unfold m_X5_sun_83
        rw [ed]
        refine Ok_mono (e_sun_89 (b := B) (M0 := M) hn (by omega) (by omega) (by omega) (by omega) he01 s.2.1 (2 ^ N) n 0 0 M (by omega) (by omega) s.2.2.1 (KM_refl M) (by omega)) ?_
        rintro r M1 ⟨er, k1, km⟩
        refine ⟨by rw [er]; omega, ?_⟩
        have s1 := sim_KM s k1 km
        have e0 := vw0_KM km
        have z12 : rd M1 0 12 = rd M 0 12 := rd_of (km _ _ (by omega))
        have z7 : rd M1 0 7 = rd M 0 7 := rd_of (km _ _ (by omega))
        obtain ⟨wf2, vv2, rf2⟩ := sim_rf s1 (M1 := M1) (fun _ _ _ => rfl)
        have hd' : I32 ((B : Int) + 1) := by omega
        unfold m_X6_sun m_X6_sun_16 m_X6_sun_30 m_X6_sun_48 m_X6_sun_69
        repeat (first
            | with_reducible refine Ok_g (by first | assumption | omega) ?_
            | with_reducible refine Ok_lt ?_
            | with_reducible refine Ok_t (by first | assumption | omega) ?_
            | with_reducible refine Ok_f (by first | assumption | omega) ?_
            | with_reducible refine Ok_be (e_hasF (by decide) (by assumption)) ?_
            | with_reducible refine Ok_be (e_hasT (by decide) (by assumption)) ?_
            | with_reducible refine Ok_be (e_hasP (by decide) (by assumption)) ?_
            | with_reducible refine Ok_be (e_isCell (by first | assumption | omega)) ?_
            | with_reducible refine Ok_be (e_oor (by assumption) (by decide) (by decide)) ?_
            | with_reducible refine Ok_be (r_isIn (by first | assumption | omega) (by first | decide | omega) (by first | decide | omega)) ?_
            | with_reducible refine Ok_be (r_bound (by assumption) (by decide) (by decide)) ?_
            | with_reducible refine Ok_be (r_isF (by assumption) (by assumption)) ?_
            | with_reducible refine Ok_be (r_isT (by assumption) (by assumption)) ?_
            | with_reducible refine Ok_be (r_isP (by assumption) (by assumption)) ?_
            | with_reducible refine Ok_be (r_isCell (by first | assumption | omega)) ?_)
        have e92 := r_sun_92 (n := n) (p := p) (tt := tt) (N := N) (b := B) (c5 := e) (M := M1) (by omega) (by omega) N n 0 (by omega) (by omega)
        rw [Nat.pow_zero] at e92
        rw [show ((1 : Nat) : Int) = 1 from rfl, show ((0 : Nat) : Int) = 0 from rfl] at e92
        rw [e92]
        refine Ok_mono (r_sun_115 (b := B) (u := vw M 0) hn (by omega) (by omega) (by omega) (by omega) he01 s.2.1 (2 ^ N) n 0 0 M1 (by omega) (by omega) s1 e0 (by omega)) ?_
        rintro r' M2 ⟨er', s2⟩
        exact ⟨by rw [er', er], s2⟩
      repeat (first
          | with_reducible refine Ok_g (by first | assumption | omega) ?_
          | with_reducible refine Ok_lt ?_
          | with_reducible refine Ok_t (by first | assumption | omega) ?_
          | with_reducible refine Ok_f (by first | assumption | omega) ?_
          | with_reducible refine Ok_be (e_hasF (by decide) (by assumption)) ?_
          | with_reducible refine Ok_be (e_hasT (by decide) (by assumption)) ?_
          | with_reducible refine Ok_be (e_hasP (by decide) (by assumption)) ?_
          | with_reducible refine Ok_be (e_isCell (by first | assumption | omega)) ?_
          | with_reducible refine Ok_be (e_oor (by assumption) (by decide) (by decide)) ?_
          | with_reducible refine Ok_be (r_isIn (by first | assumption | omega) (by first | decide | omega) (by first | decide | omega)) ?_
          | with_reducible refine Ok_be (r_bound (by assumption) (by decide) (by decide)) ?_
          | with_reducible refine Ok_be (r_isF (by assumption) (by assumption)) ?_
          | with_reducible refine Ok_be (r_isT (by assumption) (by assumption)) ?_
          | with_reducible refine Ok_be (r_isP (by assumption) (by assumption)) ?_
          | with_reducible refine Ok_be (r_isCell (by first | assumption | omega)) ?_)
      refine Ok_if (fun g => main (.inl g)) (fun g => ?_)
      refine Ok_if (fun g => main (.inr g)) (fun g1 => ?_)
      refine Ok_be (e_refuseLong 2 (by omega) (by decide) (by decide)) (Ok_ret ⟨by decide, ?_⟩)
      obtain ⟨wf1, rf1, rf2⟩ := sim_rf s (M1 := bump 134 M 2) (fun q i h => bump_ne (by omega))
      unfold m_X6_sun m_X6_sun_16 m_X6_sun_30 m_X6_sun_48 m_X6_sun_69
      repeat (first
          | with_reducible refine Ok_g (by first | assumption | omega) ?_
          | with_reducible refine Ok_lt ?_
          | with_reducible refine Ok_t (by first | assumption | omega) ?_
          | with_reducible refine Ok_f (by first | assumption | omega) ?_
          | with_reducible refine Ok_be (e_hasF (by decide) (by assumption)) ?_
          | with_reducible refine Ok_be (e_hasT (by decide) (by assumption)) ?_
          | with_reducible refine Ok_be (e_hasP (by decide) (by assumption)) ?_
          | with_reducible refine Ok_be (e_isCell (by first | assumption | omega)) ?_
          | with_reducible refine Ok_be (e_oor (by assumption) (by decide) (by decide)) ?_
          | with_reducible refine Ok_be (r_isIn (by first | assumption | omega) (by first | decide | omega) (by first | decide | omega)) ?_
          | with_reducible refine Ok_be (r_bound (by assumption) (by decide) (by decide)) ?_
          | with_reducible refine Ok_be (r_isF (by assumption) (by assumption)) ?_
          | with_reducible refine Ok_be (r_isT (by assumption) (by assumption)) ?_
          | with_reducible refine Ok_be (r_isP (by assumption) (by assumption)) ?_
          | with_reducible refine Ok_be (r_isCell (by first | assumption | omega)) ?_)
      exact Ok_be (r_lowestOf 2 (by omega) (by decide) (by decide)) (Ok_ret ⟨rfl, sim_bump s 2⟩)
    · repeat (first
          | with_reducible refine Ok_g (by first | assumption | omega) ?_
          | with_reducible refine Ok_lt ?_
          | with_reducible refine Ok_t (by first | assumption | omega) ?_
          | with_reducible refine Ok_f (by first | assumption | omega) ?_
          | with_reducible refine Ok_be (e_hasF (by decide) (by assumption)) ?_
          | with_reducible refine Ok_be (e_hasT (by decide) (by assumption)) ?_
          | with_reducible refine Ok_be (e_hasP (by decide) (by assumption)) ?_
          | with_reducible refine Ok_be (e_isCell (by first | assumption | omega)) ?_
          | with_reducible refine Ok_be (e_oor (by assumption) (by decide) (by decide)) ?_
          | with_reducible refine Ok_be (r_isIn (by first | assumption | omega) (by first | decide | omega) (by first | decide | omega)) ?_
          | with_reducible refine Ok_be (r_bound (by assumption) (by decide) (by decide)) ?_
          | with_reducible refine Ok_be (r_isF (by assumption) (by assumption)) ?_
          | with_reducible refine Ok_be (r_isT (by assumption) (by assumption)) ?_
          | with_reducible refine Ok_be (r_isP (by assumption) (by assumption)) ?_
          | with_reducible refine Ok_be (r_isCell (by first | assumption | omega)) ?_)
      refine Ok_be (e_refuseLong 1 (by omega) (by decide) (by decide)) (Ok_ret ⟨by decide, ?_⟩)
      obtain ⟨wf1, rf1, rf2⟩ := sim_rf s (M1 := bump 134 M 1) (fun q i h => bump_ne (by omega))
      unfold m_X6_sun m_X6_sun_16 m_X6_sun_30 m_X6_sun_48 m_X6_sun_69
      repeat (first
          | with_reducible refine Ok_g (by first | assumption | omega) ?_
          | with_reducible refine Ok_lt ?_
          | with_reducible refine Ok_t (by first | assumption | omega) ?_
          | with_reducible refine Ok_f (by first | assumption | omega) ?_
          | with_reducible refine Ok_be (e_hasF (by decide) (by assumption)) ?_
          | with_reducible refine Ok_be (e_hasT (by decide) (by assumption)) ?_
          | with_reducible refine Ok_be (e_hasP (by decide) (by assumption)) ?_
          | with_reducible refine Ok_be (e_isCell (by first | assumption | omega)) ?_
          | with_reducible refine Ok_be (e_oor (by assumption) (by decide) (by decide)) ?_
          | with_reducible refine Ok_be (r_isIn (by first | assumption | omega) (by first | decide | omega) (by first | decide | omega)) ?_
          | with_reducible refine Ok_be (r_bound (by assumption) (by decide) (by decide)) ?_
          | with_reducible refine Ok_be (r_isF (by assumption) (by assumption)) ?_
          | with_reducible refine Ok_be (r_isT (by assumption) (by assumption)) ?_
          | with_reducible refine Ok_be (r_isP (by assumption) (by assumption)) ?_
          | with_reducible refine Ok_be (r_isCell (by first | assumption | omega)) ?_)
      exact Ok_be (r_lowestOf 1 (by omega) (by decide) (by decide)) (Ok_ret ⟨rfl, sim_bump s 1⟩)
  · repeat (first
        | with_reducible refine Ok_g (by first | assumption | omega) ?_
        | with_reducible refine Ok_lt ?_
        | with_reducible refine Ok_t (by first | assumption | omega) ?_
        | with_reducible refine Ok_f (by first | assumption | omega) ?_
        | with_reducible refine Ok_be (e_hasF (by decide) (by assumption)) ?_
        | with_reducible refine Ok_be (e_hasT (by decide) (by assumption)) ?_
        | with_reducible refine Ok_be (e_hasP (by decide) (by assumption)) ?_
        | with_reducible refine Ok_be (e_isCell (by first | assumption | omega)) ?_
        | with_reducible refine Ok_be (e_oor (by assumption) (by decide) (by decide)) ?_
        | with_reducible refine Ok_be (r_isIn (by first | assumption | omega) (by first | decide | omega) (by first | decide | omega)) ?_
        | with_reducible refine Ok_be (r_bound (by assumption) (by decide) (by decide)) ?_
        | with_reducible refine Ok_be (r_isF (by assumption) (by assumption)) ?_
        | with_reducible refine Ok_be (r_isT (by assumption) (by assumption)) ?_
        | with_reducible refine Ok_be (r_isP (by assumption) (by assumption)) ?_
        | with_reducible refine Ok_be (r_isCell (by first | assumption | omega)) ?_)
    refine Ok_be (e_refuseLong 1 (by omega) (by decide) (by decide)) (Ok_ret ⟨by decide, ?_⟩)
    obtain ⟨wf1, rf1, rf2⟩ := sim_rf s (M1 := bump 134 M 1) (fun q i h => bump_ne (by omega))
    unfold m_X6_sun m_X6_sun_16 m_X6_sun_30 m_X6_sun_48 m_X6_sun_69
    repeat (first
        | with_reducible refine Ok_g (by first | assumption | omega) ?_
        | with_reducible refine Ok_lt ?_
        | with_reducible refine Ok_t (by first | assumption | omega) ?_
        | with_reducible refine Ok_f (by first | assumption | omega) ?_
        | with_reducible refine Ok_be (e_hasF (by decide) (by assumption)) ?_
        | with_reducible refine Ok_be (e_hasT (by decide) (by assumption)) ?_
        | with_reducible refine Ok_be (e_hasP (by decide) (by assumption)) ?_
        | with_reducible refine Ok_be (e_isCell (by first | assumption | omega)) ?_
        | with_reducible refine Ok_be (e_oor (by assumption) (by decide) (by decide)) ?_
        | with_reducible refine Ok_be (r_isIn (by first | assumption | omega) (by first | decide | omega) (by first | decide | omega)) ?_
        | with_reducible refine Ok_be (r_bound (by assumption) (by decide) (by decide)) ?_
        | with_reducible refine Ok_be (r_isF (by assumption) (by assumption)) ?_
        | with_reducible refine Ok_be (r_isT (by assumption) (by assumption)) ?_
        | with_reducible refine Ok_be (r_isP (by assumption) (by assumption)) ?_
        | with_reducible refine Ok_be (r_isCell (by first | assumption | omega)) ?_)
    exact Ok_be (r_lowestOf 1 (by omega) (by decide) (by decide)) (Ok_ret ⟨rfl, sim_bump s 1⟩)
