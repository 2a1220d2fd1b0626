/-! the second side: air, fog -/
theorem tR {H : Int} {M : Mem} (wf : WF H (vw M 137)) {i : Nat} (h : i < 8) : (vw M 137 4 i = rd M 141 i ∧ vw M 137 5 i = rd M 142 i ∧ vw M 137 6 i = ow 137 (rd M 143 i)) ∧ (0 ≤ rd M 141 i ∧ rd M 141 i ≤ 9) ∧ (0 ≤ rd M 142 i ∧ rd M 142 i ≤ 23) ∧ (rd M 143 i = -9 ∧ vw M 137 6 i = -1 ∨ 0 ≤ rd M 143 i ∧ rd M 143 i ≤ 4 ∧ vw M 137 6 i = rd M 143 i) := by
  have b := wFt wf i
  have e : vw M 137 6 i = ow 137 (rd M 143 i) := vw_o h
  rw [vw_4 M 137 h, vw_5 M 137 h] at b
  refine ⟨⟨vw_4 M 137 h, vw_5 M 137 h, e⟩, b.1, b.2.1, ?_⟩
  have c := b.2.2
  rw [e] at c ⊢
  unfold ow at c ⊢
  rw [if_pos rfl] at c ⊢
  omega
theorem v137k (M : Mem) : vw M 137 0 20 = ow 137 (rd M 137 20) := rfl
theorem v137s (M : Mem) : vw M 137 0 21 = rd M 137 21 := rfl
theorem kR {H : Int} {M : Mem} (wf : WF H (vw M 137)) : rd M 137 20 = -9 ∧ vw M 137 0 20 = -1 ∨ 0 ≤ rd M 137 20 ∧ rd M 137 20 ≤ 23 ∧ vw M 137 0 20 = rd M 137 20 := by
  have b := (wF wf).2.2.2.2.2.1
  rw [v137k] at b ⊢
  unfold ow at b ⊢
  rw [if_pos rfl] at b ⊢
  omega
def KA (M M' : Mem) : Prop := ∀ q i, q ≠ 149 → q ≠ 150 → M' q i = M q i
theorem KA_refl (M : Mem) : KA M M := fun _ _ _ _ => rfl
theorem KA_trans {M M1 M2 : Mem} (h : KA M M1) (h' : KA M1 M2) : KA M M2 := fun q i a b => by rw [h' q i a b, h q i a b]
theorem vwA {M M' : Mem} (h : KA M M') : vw M' 137 = vw M 137 := vw_congr (fun i _ => h _ _ (by decide) (by decide)) (fun k i _ _ => h _ _ (by omega) (by omega)) (fun z => absurd z (by decide)) (fun _ => ⟨h _ _ (by decide) (by decide), h _ _ (by decide) (by decide)⟩)
theorem r_greater {n : Nat} {M : Mem} {a b : Int} (ha : I32 a) (hb : I32 b) : m_X6_greater n M a b = some (mx a b, M) := by
  refine Ok_eq ?_
  unfold m_X6_greater
  repeat' (first
      | with_reducible refine Ok_g (by first | assumption | omega) ?_
      | with_reducible refine Ok_lt ?_
      | with_reducible refine Ok_t (by first | assumption | omega) ?_
      | with_reducible refine Ok_f (by first | assumption | omega) ?_
      | with_reducible refine Ok_ret ?_
      | with_reducible refine Ok_if (fun _ => ?_) (fun _ => ?_))
  all_goals refine ⟨?_, rfl⟩
  all_goals unfold mx
  all_goals omega
theorem r_apart {n : Nat} {M : Mem} {a b : Int} (ha : I32 a) (hb : I32 b) : m_X6_apart n M a b = some (ab (a - b), M) := by
  refine Ok_eq ?_
  unfold m_X6_apart
  repeat' (first
      | with_reducible refine Ok_g (by first | assumption | omega) ?_
      | with_reducible refine Ok_lt ?_
      | with_reducible refine Ok_t (by first | assumption | omega) ?_
      | with_reducible refine Ok_f (by first | assumption | omega) ?_
      | with_reducible refine Ok_ret ?_
      | with_reducible refine Ok_if (fun _ => ?_) (fun _ => ?_))
  all_goals refine ⟨?_, rfl⟩
  all_goals unfold ab
  all_goals omega
theorem r_asks_13 {n : Nat} {M0 : Mem} {H : Int} {F : Nat} {c h : Int} (wf : WF H (vw M0 137)) (hF : rd M0 137 3 = F) (hc : 0 ≤ c ∧ c ≤ 23) (hh : 0 ≤ h ∧ h ≤ 1000000) :
    ∀ m j t M, m + j = F → m < t → KA M0 M → (∀ f, m ≤ f → f < F → rd M 149 f = acS (vw M0 137) F c (F - 1 - f) ∧ rd M 150 f = ahS (vw M0 137) F h (F - 1 - f)) →
    Ok (m_X6_asksBack_13 n t M (acS (vw M0 137) F c j) (ahS (vw M0 137) F h j) ((m : Int) - 1)) (fun _ M' => KA M0 M' ∧ ∀ f, f < F → rd M' 149 f = acS (vw M0 137) F c (F - 1 - f) ∧ rd M' 150 f = ahS (vw M0 137) F h (F - 1 - f)) := by
  have b := sW wf
  intro m
  induction m with
  | zero =>
    intro j t M hj ht hk ha
    cases t with
    | zero => omega
    | succ t =>
      rw [m_X6_asksBack_13]
      repeat (first
          | with_reducible refine Ok_g (by first | assumption | omega) ?_
          | with_reducible refine Ok_lt ?_
          | with_reducible refine Ok_t (by first | assumption | omega) ?_
          | with_reducible refine Ok_f (by first | assumption | omega) ?_)
      exact Ok_ret ⟨hk, fun f hf => ha f (by omega) hf⟩
  | succ m ih =>
    intro j t M hj ht hk ha
    cases t with
    | zero => omega
    | succ t =>
      have a2 := acS_b (vw M0 137) F hc j
      have a3 := ahS_b wf F hh.1 j
      have a4 := acS_b (vw M0 137) F hc (j + 1)
      have a5 := ahS_b wf F hh.1 (j + 1)
      have b0 := fW wf (i := m) (by omega)
      simp only [Nat.reduceAdd] at b0
      have ej : F - 1 - j = m := by omega
      have k138 : rd M 138 m = rd M0 138 m := rd_of (hk _ _ (by decide) (by decide))
      have k140 : rd M 140 m = rd M0 140 m := rd_of (hk _ _ (by decide) (by decide))
      have e1 : acS (vw M0 137) F c (j + 1) = trC (rd M0 138 m) (acS (vw M0 137) F c j) := by
        show trC _ _ = _
        rw [ej, b0.1.1]
      have e2 : ahS (vw M0 137) F h (j + 1) = trH (rd M0 138 m) (rd M0 140 m) (ahS (vw M0 137) F h j) := by
        show trH _ _ _ = _
        rw [ej, b0.1.1, b0.1.2.2]
      have fin : ∀ x y, x = acS (vw M0 137) F c (j + 1) → y = ahS (vw M0 137) F h (j + 1) → Ok (m_X6_asksBack_13 n t (mup (mup M 149 m (acS (vw M0 137) F c j)) 150 m (ahS (vw M0 137) F h j)) x y ((m : Int) - 1)) (fun _ M' => KA M0 M' ∧ ∀ f, f < F → rd M' 149 f = acS (vw M0 137) F c (F - 1 - f) ∧ rd M' 150 f = ahS (vw M0 137) F h (F - 1 - f)) := by
        intro x y hx hy
        subst hx hy
        refine ih (j + 1) t _ (by omega) (by omega) ?_ ?_
        · intro q i h1 h2
          rw [mup_ne _ h2, mup_ne _ h1]; exact hk q i h1 h2
        · intro f h1 h2
          rw [rd_upne _ _ _ _ _ _ (by omega), rd_up _ _ _ _ _ (by omega), rd_up _ _ _ _ _ (by omega)]
          by_cases q : f = m
          · rw [if_pos ⟨rfl, q⟩, if_pos ⟨rfl, q⟩, q, show F - 1 - m = j by omega]; exact ⟨rfl, rfl⟩
          · rw [if_neg (by omega), if_neg (by omega), rd_upne _ _ _ _ _ _ (by omega)]
            exact ha f (by omega) h2
      rw [m_X6_asksBack_13]
      simp only [show ((m + 1 : Nat) : Int) - 1 = (m : Int) by omega, Int.toNat_natCast]
      unfold m_X6_asksBack_61 m_X6_asksBack_99
      simp only [Int.toNat_natCast]
      rw [td a2.1, tm a2.1, show (m : Int) + -1 = (m : Int) - 1 by omega]
      repeat (first
          | with_reducible refine Ok_g (by first | assumption | omega) ?_
          | with_reducible refine Ok_lt ?_
          | with_reducible refine Ok_wr ?_
          | with_reducible refine Ok_t (by first | assumption | omega) ?_
          | with_reducible refine Ok_f (by first | assumption | omega) ?_)
      rw [rd_upne _ _ _ 138 _ _ (by omega), rd_upne _ _ _ 138 _ _ (by omega), rd_upne _ _ _ 140 _ _ (by omega), rd_upne _ _ _ 140 _ _ (by omega), k138, k140]
      unfold trC at e1
      unfold trH at e2
      refine Ok_if (fun g => ?_) (fun g => ?_)
      · repeat (first
            | with_reducible refine Ok_g (by first | assumption | omega) ?_
            | with_reducible refine Ok_lt ?_
            | with_reducible refine Ok_t (by first | assumption | omega) ?_
            | with_reducible refine Ok_f (by first | assumption | omega) ?_)
        exact fin _ _ (by omega) (by omega)
      · repeat (first
            | with_reducible refine Ok_g (by first | assumption | omega) ?_
            | with_reducible refine Ok_lt ?_
            | with_reducible refine Ok_t (by first | assumption | omega) ?_
            | with_reducible refine Ok_f (by first | assumption | omega) ?_)
        refine Ok_if (fun g2 => ?_) (fun g2 => ?_)
        · repeat (first
              | with_reducible refine Ok_g (by first | assumption | omega) ?_
              | with_reducible refine Ok_lt ?_
              | with_reducible refine Ok_t (by first | assumption | omega) ?_
              | with_reducible refine Ok_f (by first | assumption | omega) ?_)
          refine Ok_if (fun g3 => ?_) (fun g3 => ?_)
          · exact fin _ _ (by omega) (by omega)
          · exact fin _ _ (by omega) (by omega)
        · exact fin _ _ (by omega) (by omega)
theorem r_airBy {n : Nat} {M : Mem} {H : Int} {f : Nat} {v c h : Int} (wf : WF H (vw M 137)) (hf : f < 6) (hv : 0 ≤ v ∧ v ≤ 9) (ec : rd M 149 f = c) (eh : rd M 150 f = h) (hc : 0 ≤ c ∧ c ≤ 23) (hh : 0 ≤ h ∧ h ≤ 1000000) :
    m_X6_airBy n M (f : Int) v = some (byS (vw M 137 1 f) (vw M 137 2 f) (vw M 137 3 f) c h v, M) := by
  have b := fW wf hf
  simp only [Nat.reduceAdd] at b
  rw [b.1.1, b.1.2.1, b.1.2.2]
  have m1 := em_rng (a := h) (b := rd M 140 f + 2) (by omega)
  have m2 := em_rng (a := h) (b := rd M 140 f + 1) (by omega)
  have gr := r_greater (n := n) (M := M) (a := v) (b := rd M 139 f) (by omega) (by omega)
  refine Ok_eq ?_
  unfold m_X6_airBy byS
  simp only [Int.toNat_natCast, ec, eh, lt, td hc.1, tm hc.1, tm hh.1, tm b.2.2.2.1]
  repeat (first
      | with_reducible refine Ok_g (by first | assumption | omega) ?_
      | with_reducible refine Ok_lt ?_
      | with_reducible refine Ok_t (by first | assumption | omega) ?_
      | with_reducible refine Ok_f (by first | assumption | omega) ?_)
  refine Ok_if (fun g => ?_) (fun g => ?_)
  · repeat (first
        | with_reducible refine Ok_g (by first | assumption | omega) ?_
        | with_reducible refine Ok_lt ?_
        | with_reducible refine Ok_t (by first | assumption | omega) ?_
        | with_reducible refine Ok_f (by first | assumption | omega) ?_)
    refine Ok_if (fun g2 => Ok_ret ⟨?_, rfl⟩) (fun g2 => Ok_be gr (Ok_ret ⟨?_, rfl⟩))
    · rw [if_pos g, if_neg (by omega)]
    · rw [if_pos g, if_pos (by omega)]
  refine Ok_if (fun g1 => ?_) (fun g1 => ?_)
  · repeat (first
        | with_reducible refine Ok_g (by first | assumption | omega) ?_
        | with_reducible refine Ok_lt ?_
        | with_reducible refine Ok_t (by first | assumption | omega) ?_
        | with_reducible refine Ok_f (by first | assumption | omega) ?_)
    refine Ok_if (fun g2 => Ok_be gr (Ok_ret ⟨?_, rfl⟩)) (fun g2 => Ok_ret ⟨?_, rfl⟩)
    · rw [if_neg g, if_pos g1, if_pos g2]
    · rw [if_neg g, if_pos g1, if_neg g2]
  refine Ok_if (fun g2 => ?_) (fun g2 => ?_)
  · repeat (first
        | with_reducible refine Ok_g (by first | assumption | omega) ?_
        | with_reducible refine Ok_lt ?_
        | with_reducible refine Ok_t (by first | assumption | omega) ?_
        | with_reducible refine Ok_f (by first | assumption | omega) ?_)
    refine Ok_if (fun g3 => Ok_be gr (Ok_ret ⟨?_, rfl⟩)) (fun g3 => Ok_ret ⟨?_, rfl⟩)
    · rw [if_neg g, if_neg g1, if_pos g2, if_pos g3]
    · rw [if_neg g, if_neg g1, if_pos g2, if_neg g3]
  refine Ok_if (fun g3 => ?_) (fun g3 => ?_)
  · repeat (first
        | with_reducible refine Ok_g (by first | assumption | omega) ?_
        | with_reducible refine Ok_lt ?_
        | with_reducible refine Ok_t (by first | assumption | omega) ?_
        | with_reducible refine Ok_f (by first | assumption | omega) ?_)
    refine Ok_be (r_apart (by omega) (by omega)) ?_
    refine Ok_be (r_greater (by omega) (by unfold ab; omega)) (Ok_ret ⟨?_, rfl⟩)
    rw [if_neg g, if_neg g1, if_neg g2, if_pos g3]
  refine Ok_if (fun g4 => ?_) (fun g4 => ?_)
  · refine Ok_be (r_greater (by omega) (by omega)) (Ok_ret ⟨?_, rfl⟩)
    rw [if_neg g, if_neg g1, if_neg g2, if_neg g3, if_pos g4]
  · exact Ok_ret ⟨by rw [if_neg g, if_neg g1, if_neg g2, if_neg g3, if_neg g4], rfl⟩
theorem r_airIn_20 {n : Nat} {M : Mem} {H : Int} {F : Nat} {c h : Int} (wf : WF H (vw M 137)) (hF : rd M 137 3 = F) (hc : 0 ≤ c ∧ c ≤ 23) (hh : 0 ≤ h ∧ h ≤ 1000000)
    (ask : ∀ f, f < F → rd M 149 f = acS (vw M 137) F c (F - 1 - f) ∧ rd M 150 f = ahS (vw M 137) F h (F - 1 - f)) :
    ∀ k t i v, i + k = F → k < t → 0 ≤ v ∧ v ≤ 9 → m_X6_airIn_20 n t M v (i : Int) = some (frm (fun f v => byS (vw M 137 1 f) (vw M 137 2 f) (vw M 137 3 f) (acS (vw M 137) F c (F - 1 - f)) (ahS (vw M 137) F h (F - 1 - f)) v) k i v, M) := by
  have b := sW wf
  intro k
  induction k with
  | zero =>
    intro t i v hi ht hv
    cases t with
    | zero => omega
    | succ t =>
      refine Ok_eq ?_
      rw [m_X6_airIn_20]
      repeat (first
          | with_reducible refine Ok_g (by first | assumption | omega) ?_
          | with_reducible refine Ok_lt ?_
          | with_reducible refine Ok_t (by first | assumption | omega) ?_
          | with_reducible refine Ok_f (by first | assumption | omega) ?_)
      exact Ok_ret ⟨rfl, rfl⟩
  | succ k ih =>
    intro t i v hi ht hv
    cases t with
    | zero => omega
    | succ t =>
      have a1 := ask i (by omega)
      have a2 := acS_b (vw M 137) F hc (F - 1 - i)
      have a3 := ahS_b wf F hh.1 (F - 1 - i)
      have a4 := byS_b (s := vw M 137 1 i) (b := vw M 137 3 i) (c := acS (vw M 137) F c (F - 1 - i)) (h := ahS (vw M 137) F h (F - 1 - i)) (wFf wf i).2.1 hv
      refine Ok_eq ?_
      rw [m_X6_airIn_20]
      repeat (first
          | with_reducible refine Ok_g (by first | assumption | omega) ?_
          | with_reducible refine Ok_lt ?_
          | with_reducible refine Ok_t (by first | assumption | omega) ?_
          | with_reducible refine Ok_f (by first | assumption | omega) ?_)
      refine Ok_be (r_airBy wf (by omega) hv a1.1 a1.2 a2 (by omega)) ?_
      exact Ok_of (ih t (i + 1) _ (by omega) (by omega) a4) ⟨rfl, rfl⟩
theorem r_airIn {n : Nat} {M : Mem} {H : Int} {c h : Int} (hn : 2000 ≤ n) (wf : WF H (vw M 137)) (hc : 0 ≤ c ∧ c ≤ 23) (hh : 0 ≤ h ∧ h ≤ 1000000) :
    Ok (m_X6_airIn n M c h) (fun r M' => r = airOS (vw M 137) c h ∧ KA M M') := by
  have b := sW wf
  unfold m_X6_airIn airOS
  rw [v137s]
  refine Ok_if (fun g => ?_) (fun g => ?_)
  · have := r_asks_13 (n := n) (F := (rd M 137 3).toNat) wf (by omega) hc hh (rd M 137 3).toNat 0 n M rfl (by omega) (KA_refl M) (fun f h1 h2 => absurd h1 (by omega))
    rw [show (((rd M 137 3).toNat : Nat) : Int) = rd M 137 3 by omega] at this
    refine Ok_bd this ?_
    rintro _ M1 ⟨k1, a1⟩
    have e := vwA k1
    have := r_airIn_20 (n := n) (M := M1) (H := H) (F := (rd M 137 3).toNat) (c := c) (h := h) (by rw [e]; exact wf) (by rw [rd_of (k1 _ _ (by decide) (by decide))]; omega) hc hh (by rw [e]; exact a1) (rd M 137 3).toNat n 0 0 (by omega) (by omega) (by omega)
    refine Ok_of this ⟨?_, k1⟩
    rw [if_pos g, e]
    unfold airS
    rw [b.1.1]
  · exact Ok_ret ⟨by rw [if_neg g], KA_refl M⟩
theorem r_steam {n : Nat} {M : Mem} {H : Int} {p : Nat} (wf : WF H (vw M 137)) (hp : p < 5) : m_X6_steam n M (p : Int) = some (steamS (vw M 137 7 p) (vw M 137 8 p), M) := by
  have q := pW wf hp
  simp only [Nat.reduceAdd] at q
  refine Ok_eq ?_
  unfold m_X6_steam
  simp only [Int.toNat_natCast, q.1.1, q.1.2.1, td q.2.2.1.1]
  repeat' (first
      | with_reducible refine Ok_g (by first | assumption | omega) ?_
      | with_reducible refine Ok_lt ?_
      | with_reducible refine Ok_t (by first | assumption | omega) ?_
      | with_reducible refine Ok_f (by first | assumption | omega) ?_
      | with_reducible refine Ok_ret ?_
      | with_reducible refine Ok_if (fun _ => ?_) (fun _ => ?_))
  all_goals refine ⟨?_, rfl⟩
  all_goals unfold steamS
  all_goals omega
theorem r_pace {n : Nat} {M : Mem} {H : Int} {p : Nat} (wf : WF H (vw M 137)) (hp : p < 5) : m_X6_pace n M (p : Int) = some (paceS (vw M 137 7 p) (vw M 137 8 p), M) := by
  have q := pW wf hp
  simp only [Nat.reduceAdd] at q
  refine Ok_eq ?_
  unfold m_X6_pace
  simp only [Int.toNat_natCast, q.1.1, q.1.2.1, td q.2.2.1.1]
  repeat' (first
      | with_reducible refine Ok_g (by first | assumption | omega) ?_
      | with_reducible refine Ok_lt ?_
      | with_reducible refine Ok_t (by first | assumption | omega) ?_
      | with_reducible refine Ok_f (by first | assumption | omega) ?_
      | with_reducible refine Ok_ret ?_
      | with_reducible refine Ok_if (fun _ => ?_) (fun _ => ?_))
  all_goals refine ⟨?_, rfl⟩
  all_goals unfold paceS
  all_goals omega
theorem r_grabs {n : Nat} {M : Mem} {H : Int} {p : Nat} (wf : WF H (vw M 137)) (hp : p < 5) : m_X6_grabs n M (p : Int) = some (grabsS (vw M 137 7 p) (vw M 137 8 p), M) := by
  have q := pW wf hp
  simp only [Nat.reduceAdd] at q
  refine Ok_eq ?_
  unfold m_X6_grabs m_X6_grabs_59
  simp only [Int.toNat_natCast, q.1.1, q.1.2.1, td q.2.2.1.1]
  repeat' (first
      | with_reducible refine Ok_g (by first | assumption | omega) ?_
      | with_reducible refine Ok_lt ?_
      | with_reducible refine Ok_t (by first | assumption | omega) ?_
      | with_reducible refine Ok_f (by first | assumption | omega) ?_
      | with_reducible refine Ok_ret ?_
      | with_reducible refine Ok_if (fun _ => ?_) (fun _ => ?_))
  all_goals refine ⟨?_, rfl⟩
  all_goals unfold grabsS
  all_goals omega
theorem r_fogOf_12 {n : Nat} {M : Mem} {H c : Int} {P : Nat} (wf : WF H (vw M 137)) (hP : rd M 137 12 = P) (hc : 0 ≤ c ∧ c ≤ 23) : ∀ k t i v, i + k = P → k < t → 0 ≤ v ∧ v ≤ 9 →
    m_X6_fogOf_12 n t M c v (i : Int) = some (if vw M 137 0 20 = c then mx (frm (fun p v => if vw M 137 10 p = c then mx v (steamS (vw M 137 7 p) (vw M 137 8 p)) else v) k i v) 9 else frm (fun p v => if vw M 137 10 p = c then mx v (steamS (vw M 137 7 p) (vw M 137 8 p)) else v) k i v, M) := by
  have b := sW wf
  have kr := kR wf
  intro k
  induction k with
  | zero =>
    intro t i v hi ht hv
    cases t with
    | zero => omega
    | succ t =>
      refine Ok_eq ?_
      rw [m_X6_fogOf_12]
      repeat (first
          | with_reducible refine Ok_g (by first | assumption | omega) ?_
          | with_reducible refine Ok_lt ?_
          | with_reducible refine Ok_t (by first | assumption | omega) ?_
          | with_reducible refine Ok_f (by first | assumption | omega) ?_)
      refine Ok_if (fun g => ?_) (fun g => ?_)
      · refine Ok_be (r_greater (by omega) (by omega)) (Ok_ret ⟨?_, rfl⟩)
        rw [if_pos (by omega)]; rfl
      · refine Ok_ret ⟨?_, rfl⟩
        rw [if_neg (by omega)]; rfl
  | succ k ih =>
    intro t i v hi ht hv
    cases t with
    | zero => omega
    | succ t =>
      have p := pW wf (i := i) (by omega)
      simp only [Nat.reduceAdd] at p
      refine Ok_eq ?_
      rw [m_X6_fogOf_12]
      simp only [Int.toNat_natCast, frm]
      unfold m_X6_fogOf_43
      rw [p.1.2.2.2]
      repeat (first
          | with_reducible refine Ok_g (by first | assumption | omega) ?_
          | with_reducible refine Ok_lt ?_
          | with_reducible refine Ok_t (by first | assumption | omega) ?_
          | with_reducible refine Ok_f (by first | assumption | omega) ?_)
      by_cases g : rd M 147 i = c
      · rw [if_pos g, if_pos g]
        have s := steamS_b (k := vw M 137 7 i) (wFp wf i).2.1
        refine Ok_be (r_steam wf (by omega)) ?_
        refine Ok_be (r_greater (by omega) (by omega)) ?_
        exact Ok_of (ih t (i + 1) _ (by omega) (by omega) (mx_b hv s)) ⟨rfl, rfl⟩
      · rw [if_neg g, if_neg g]
        exact Ok_of (ih t (i + 1) _ (by omega) (by omega) hv) ⟨rfl, rfl⟩
theorem mx_comm9 (v s : Int) : mx (mx v s) 9 = mx (mx v 9) s := by
  unfold mx
  omega
theorem fog_kettle {u : US} {c : Int} : ∀ k i v, mx (frm (fun p v => if u 10 p = c then mx v (steamS (u 7 p) (u 8 p)) else v) k i v) 9 = frm (fun p v => if u 10 p = c then mx v (steamS (u 7 p) (u 8 p)) else v) k i (mx v 9)
  | 0, _, _ => rfl
  | k + 1, i, v => by
    simp only [frm]
    rw [fog_kettle k (i + 1)]
    by_cases g : u 10 i = c
    · simp only [if_pos g]
      rw [mx_comm9]
    · simp only [if_neg g]
theorem r_fogOf {n : Nat} {M : Mem} {H c : Int} (hn : 2000 ≤ n) (wf : WF H (vw M 137)) (hH : H ≤ 1000000) (hc : 0 ≤ c ∧ c ≤ 23) : Ok (m_X6_fogOf n M c) (fun r M' => r = fogS (vw M 137) c ∧ KA M M') := by
  have b := sW wf
  have a := airOS_b wf c (vw M 137 0 13)
  unfold m_X6_fogOf fogS
  refine Ok_bd (r_airIn hn wf hc (by omega)) ?_
  rintro r M1 ⟨er, k1⟩
  have e := vwA k1
  rw [b.1.2.2.2.1] at a
  have := r_fogOf_12 (n := n) (M := M1) (H := H) (c := c) (P := (rd M 137 12).toNat) (by rw [e]; exact wf) (by rw [rd_of (k1 _ _ (by decide) (by decide))]; omega) hc (rd M 137 12).toNat n 0 r (by omega) (by omega) (by omega)
  refine Ok_of this ⟨?_, k1⟩
  rw [e, er, b.1.2.2.1, b.1.2.2.2.1]
  by_cases g : vw M 137 0 20 = c
  · rw [if_pos g, if_pos g, fog_kettle, show mx (airOS (vw M 137) c (rd M 137 13)) 9 = 9 by unfold mx; omega]
  · rw [if_neg g, if_neg g]
theorem r_isFoggy {n : Nat} {M : Mem} {H c : Int} (hn : 2000 ≤ n) (wf : WF H (vw M 137)) (hH : H ≤ 1000000) (hc : 0 ≤ c ∧ c ≤ 23) : Ok (m_X6_isFoggy n M c) (fun r M' => r = (if vw M 137 0 14 ≤ fogS (vw M 137) c then 1 else 0) ∧ KA M M') := by
  have f := fogS_b wf c
  unfold m_X6_isFoggy
  refine Ok_bd (r_fogOf hn wf hH hc) ?_
  rintro r M1 ⟨er, k1⟩
  rw [← er] at f ⊢
  rw [rd_of (k1 137 14 (by decide) (by decide)), vw_s (by omega)]
  repeat (first
      | with_reducible refine Ok_g (by first | assumption | omega) ?_
      | with_reducible refine Ok_lt ?_
      | with_reducible refine Ok_t (by first | assumption | omega) ?_
      | with_reducible refine Ok_f (by first | assumption | omega) ?_)
  refine Ok_if (fun g => ?_) (fun g => ?_)
  · exact Ok_ret ⟨by rw [if_neg (by omega)], k1⟩
  · exact Ok_ret ⟨by rw [if_pos (by omega)], k1⟩
theorem bOr0 {s : Int} (h : I32 s) : bOr s 0 = s := by
  unfold bOr
  rw [show Int32.ofInt 0 = 0 from rfl, Int32.or_zero, i_toInt h]
theorem r_foggyCells_4 {n : Nat} {H : Int} (hn : 2000 ≤ n) (hH : H ≤ 1000000) : ∀ k t (i : Nat) v M, i + k = 24 → k < t → WF H (vw M 137) → I32 v →
    Ok (m_X6_foggyCells_4 n t M v (i : Int)) (fun r M' => r = frm (fun c s => if vw M 137 0 14 ≤ fogS (vw M 137) c then bOr s (bShl 1 c) else s) k i v ∧ KA M M') := by
  intro k
  induction k with
  | zero =>
    intro t i v M hi ht wf hv
    cases t with
    | zero => omega
    | succ t =>
      rw [m_X6_foggyCells_4]
      repeat (first
          | with_reducible refine Ok_g (by first | assumption | omega) ?_
          | with_reducible refine Ok_lt ?_
          | with_reducible refine Ok_t (by first | assumption | omega) ?_
          | with_reducible refine Ok_f (by first | assumption | omega) ?_)
      exact Ok_ret ⟨rfl, KA_refl M⟩
  | succ k ih =>
    intro t i v M hi ht wf hv
    cases t with
    | zero => omega
    | succ t =>
      rw [m_X6_foggyCells_4]
      simp only [frm]
      unfold m_X6_foggyCells_26
      repeat (first
          | with_reducible refine Ok_g (by first | assumption | omega) ?_
          | with_reducible refine Ok_lt ?_
          | with_reducible refine Ok_t (by first | assumption | omega) ?_
          | with_reducible refine Ok_f (by first | assumption | omega) ?_)
      refine Ok_bd (r_isFoggy hn wf hH (by omega)) ?_
      rintro r M1 ⟨er, k1⟩
      have e := vwA k1
      subst er
      by_cases g : vw M 137 0 14 ≤ fogS (vw M 137) i
      · rw [if_pos g, if_pos g]
        repeat (first
            | with_reducible refine Ok_g (by first | assumption | omega) ?_
            | with_reducible refine Ok_lt ?_
            | with_reducible refine Ok_t (by first | assumption | omega) ?_
            | with_reducible refine Ok_f (by first | assumption | omega) ?_)
        refine Ok_mono (ih t (i + 1) (bOr v (bShl 1 i)) M1 (by omega) (by omega) (by rw [e]; exact wf) (i_rng _)) ?_
        rintro r M' ⟨h1, h2⟩
        exact ⟨by rw [h1, e], KA_trans k1 h2⟩
      · rw [if_neg g, if_neg g]
        repeat (first
            | with_reducible refine Ok_g (by first | assumption | omega) ?_
            | with_reducible refine Ok_lt ?_
            | with_reducible refine Ok_t (by first | assumption | omega) ?_
            | with_reducible refine Ok_f (by first | assumption | omega) ?_)
        rw [bOr0 hv]
        refine Ok_mono (ih t (i + 1) v M1 (by omega) (by omega) (by rw [e]; exact wf) hv) ?_
        rintro r M' ⟨h1, h2⟩
        exact ⟨by rw [h1, e], KA_trans k1 h2⟩
theorem r_foggyCells {n : Nat} {M : Mem} {H : Int} (hn : 2000 ≤ n) (wf : WF H (vw M 137)) (hH : H ≤ 1000000) : Ok (m_X6_foggyCells n M) (fun r M' => r = cellsS (vw M 137) ∧ KA M M') := r_foggyCells_4 hn hH 24 n 0 0 M (by omega) (by omega) wf (by decide)
