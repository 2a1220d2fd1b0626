/-! the first side's tables -/
theorem e_X1_steam {n : Nat} {M : Mem} {k f : Int} (hk : I32 k) (hf : 0 ≤ f ∧ f ≤ 9) : m_X1_steam n M k f = some (steamS k f, M) := by
  refine Ok_eq ?_
  unfold m_X1_steam
  repeat' (first
      | with_reducible refine Ok_g (by first | assumption | omega) ?_
      | with_reducible refine Ok_lt ?_
      | with_reducible refine Ok_t (by first | assumption | omega) ?_
      | with_reducible refine Ok_f (by first | assumption | omega) ?_
      | with_reducible refine Ok_ret ?_
      | with_reducible refine Ok_if (fun _ => ?_) (fun _ => ?_))
  all_goals refine ⟨?_, rfl⟩
  all_goals try rw [td (by omega)]
  all_goals unfold steamS
  all_goals omega
theorem e_X1_pace {n : Nat} {M : Mem} {k f : Int} (hk : I32 k) (hf : 0 ≤ f ∧ f ≤ 9) : m_X1_pace n M k f = some (paceS k f, M) := by
  refine Ok_eq ?_
  unfold m_X1_pace
  repeat' (first
      | with_reducible refine Ok_g (by first | assumption | omega) ?_
      | with_reducible refine Ok_lt ?_
      | with_reducible refine Ok_t (by first | assumption | omega) ?_
      | with_reducible refine Ok_f (by first | assumption | omega) ?_
      | with_reducible refine Ok_ret ?_
      | with_reducible refine Ok_if (fun _ => ?_) (fun _ => ?_))
  all_goals refine ⟨?_, rfl⟩
  all_goals try rw [td (by omega)]
  all_goals unfold paceS
  all_goals omega
theorem e_X1_grabs {n : Nat} {M : Mem} {k f : Int} (hk : I32 k) (hf : 0 ≤ f ∧ f ≤ 9) : m_X1_grabs n M k f = some (grabsS k f, M) := by
  refine Ok_eq ?_
  unfold m_X1_grabs m_X1_grabs_50
  repeat' (first
      | with_reducible refine Ok_g (by first | assumption | omega) ?_
      | with_reducible refine Ok_lt ?_
      | with_reducible refine Ok_t (by first | assumption | omega) ?_
      | with_reducible refine Ok_f (by first | assumption | omega) ?_
      | with_reducible refine Ok_ret ?_
      | with_reducible refine Ok_if (fun _ => ?_) (fun _ => ?_))
  all_goals refine ⟨?_, rfl⟩
  all_goals try rw [td (by omega)]
  all_goals unfold grabsS
  all_goals omega
theorem e_X1_may {n : Nat} {M : Mem} {k f w : Int} (hk : I32 k) (hf : I32 f) (hw : I32 w) : m_X1_mayTakeAnothers n M k f w = some (if (k = 2 ∧ w < f) ∨ (k = 7 ∧ w ≤ f) then 1 else 0, M) := by
  refine Ok_eq ?_
  unfold m_X1_mayTakeAnothers
  repeat' (first
      | with_reducible refine Ok_g (by first | assumption | omega) ?_
      | with_reducible refine Ok_lt ?_
      | with_reducible refine Ok_t (by first | assumption | omega) ?_
      | with_reducible refine Ok_f (by first | assumption | omega) ?_
      | with_reducible refine Ok_ret ?_
      | with_reducible refine Ok_if (fun _ => ?_) (fun _ => ?_))
  all_goals refine ⟨?_, rfl⟩
  all_goals split <;> omega
/-! the sky -/
def sv (M : Mem) : US := fun k i => if k = 0 then (if i = 3 then rd M 121 3 else 0) else if k ≤ 3 then (if i < 6 then rd M (121 + k) i else 0) else 0
theorem sv_f (M : Mem) : sv M 0 3 = rd M 121 3 := rfl
theorem sv_1 (M : Mem) {i : Nat} (h : i < 6) : sv M 1 i = rd M 122 i := by
  show (if i < 6 then rd M 122 i else 0) = _
  rw [if_pos h]
theorem sv_2 (M : Mem) {i : Nat} (h : i < 6) : sv M 2 i = rd M 123 i := by
  show (if i < 6 then rd M 123 i else 0) = _
  rw [if_pos h]
theorem sv_3 (M : Mem) {i : Nat} (h : i < 6) : sv M 3 i = rd M 124 i := by
  show (if i < 6 then rd M 124 i else 0) = _
  rw [if_pos h]
theorem sv_congr {M M' : Mem} (h : M' 121 3 = M 121 3) (h2 : ∀ q i, 122 ≤ q → q ≤ 124 → M' q i = M q i) : sv M' = sv M := by
  funext k i
  unfold sv
  by_cases k0 : k = 0
  · rw [if_pos k0, if_pos k0, rd_of h]
  · rw [if_neg k0, if_neg k0]
    by_cases k3 : k ≤ 3
    · rw [if_pos k3, if_pos k3, rd_of (h2 _ i (by omega) (by omega))]
    · rw [if_neg k3, if_neg k3]
theorem f121 {H : Int} {M : Mem} (wf : WF H (sv M)) {i : Nat} (h : i < 6) : (sv M 1 i = rd M 122 i ∧ sv M 2 i = rd M 123 i ∧ sv M 3 i = rd M 124 i) ∧ (0 ≤ rd M 122 i ∧ rd M 122 i ≤ 6) ∧ (0 ≤ rd M 123 i ∧ rd M 123 i ≤ 9) ∧ (0 ≤ rd M 124 i ∧ rd M 124 i ≤ 9) := by
  have b := wFf wf i
  rw [sv_1 M h, sv_2 M h, sv_3 M h] at b
  exact ⟨⟨sv_1 M h, sv_2 M h, sv_3 M h⟩, b⟩
theorem e_X3_airOfFront {n : Nat} {M : Mem} {H : Int} {f : Nat} {v c h : Int} (wf : WF H (sv M)) (hf : f < 6) (hv : 0 ≤ v ∧ v ≤ 9) (hc : 0 ≤ c ∧ c ≤ 23) (hh : 0 ≤ h ∧ h ≤ 1000000) :
    m_X3_airOfFront n M (f : Int) v c h = some (byS (sv M 1 f) (sv M 2 f) (sv M 3 f) c h v, M) := by
  have b := f121 wf hf
  rw [b.1.1, b.1.2.1, b.1.2.2]
  have m1 := em_rng (a := h) (b := rd M 124 f + 2) (by omega)
  have m2 := em_rng (a := h) (b := rd M 124 f + 1) (by omega)
  refine Ok_eq ?_
  unfold m_X3_airOfFront m_X3_airOfFront_86 m_X3_airOfFront_87 m_X3_airOfFront_113 m_X3_airOfFront_146 m_X3_airOfFront_147 m_X3_airOfFront_177 m_X3_airOfFront_198
  simp only [Int.toNat_natCast, td hc.1, tm hc.1, tm hh.1, tm b.2.2.2.1]
  repeat' (first
      | with_reducible refine Ok_g (by first | assumption | omega) ?_
      | with_reducible refine Ok_lt ?_
      | with_reducible refine Ok_t (by first | assumption | omega) ?_
      | with_reducible refine Ok_f (by first | assumption | omega) ?_
      | with_reducible refine Ok_ret ?_
      | with_reducible refine Ok_if (fun _ => ?_) (fun _ => ?_))
  all_goals refine ⟨?_, rfl⟩
  all_goals unfold byS mx ab
  all_goals omega
theorem s_airAt_100 {n : Nat} {M : Mem} {H : Int} {F : Nat} {c h : Int} (wf : WF H (sv M)) (hF : rd M 121 3 = F) (hc : 0 ≤ c ∧ c ≤ 23) (hh : 0 ≤ h ∧ h ≤ 1000000)
    (ask : ∀ f, f < F → rd M 127 f = acS (sv M) F c (F - 1 - f) ∧ rd M 128 f = ahS (sv M) F h (F - 1 - f)) :
    ∀ k t i v, i + k = F → k < t → 0 ≤ v ∧ v ≤ 9 → m_X3_airAt_100 n t M v (i : Int) = some (frm (fun f v => byS (sv M 1 f) (sv M 2 f) (sv M 3 f) (acS (sv M) F c (F - 1 - f)) (ahS (sv M) F h (F - 1 - f)) v) k i v, M) := by
  have b := wF wf
  rw [sv_f, hF] at b
  intro k
  induction k with
  | zero =>
    intro t i v hi ht hv
    cases t with
    | zero => omega
    | succ t =>
      refine Ok_eq ?_
      rw [m_X3_airAt_100]
      repeat (first
          | with_reducible refine Ok_g (by first | assumption | omega) ?_
          | with_reducible refine Ok_lt ?_
          | with_reducible refine Ok_t (by first | assumption | omega) ?_
          | with_reducible refine Ok_f (by first | assumption | omega) ?_)
      exact Ok_ret ⟨rfl, rfl⟩
  | succ k ih =>
    intro t i v hi ht hv
    cases t with
    | zero => omega
    | succ t =>
      have a1 := ask i (by omega)
      have a2 := acS_b (sv M) F hc (F - 1 - i)
      have a3 := ahS_b wf F hh.1 (F - 1 - i)
      have a4 := byS_b (s := sv M 1 i) (b := sv M 3 i) (c := acS (sv M) F c (F - 1 - i)) (h := ahS (sv M) F h (F - 1 - i)) (wFf wf i).2.1 hv
      refine Ok_eq ?_
      rw [m_X3_airAt_100]
      simp only [Int.toNat_natCast]
      rw [a1.1, a1.2]
      repeat (first
          | with_reducible refine Ok_g (by first | assumption | omega) ?_
          | with_reducible refine Ok_lt ?_
          | with_reducible refine Ok_t (by first | assumption | omega) ?_
          | with_reducible refine Ok_f (by first | assumption | omega) ?_)
      refine Ok_be (e_X3_airOfFront wf (by omega) hv a2 (by omega)) ?_
      exact Ok_of (ih t (i + 1) _ (by omega) (by omega) a4) ⟨rfl, rfl⟩
theorem s_airAt_13 {n : Nat} {M0 : Mem} {H : Int} {F : Nat} {c h : Int} (hn : 2000 ≤ n) (wf : WF H (sv M0)) (hF : rd M0 121 3 = F) (hc : 0 ≤ c ∧ c ≤ 23) (hh : 0 ≤ h ∧ h ≤ 1000000) :
    ∀ m j t M, m + j = F → m < t → (∀ q i, q ≠ 127 → q ≠ 128 → M q i = M0 q i) → (∀ f, m ≤ f → f < F → rd M 127 f = acS (sv M0) F c (F - 1 - f) ∧ rd M 128 f = ahS (sv M0) F h (F - 1 - f)) →
    Ok (m_X3_airAt_13 n t M (acS (sv M0) F c j) (ahS (sv M0) F h j) ((m : Int) - 1)) (fun r M' => r = airS (sv M0) c h ∧ ∀ q i, q ≠ 127 → q ≠ 128 → M' q i = M0 q i) := by
  have b := wF wf
  rw [sv_f, hF] at b
  intro m
  induction m with
  | zero =>
    intro j t M hj ht hk ha
    cases t with
    | zero => omega
    | succ t =>
      rw [m_X3_airAt_13]
      repeat (first
          | with_reducible refine Ok_g (by first | assumption | omega) ?_
          | with_reducible refine Ok_lt ?_
          | with_reducible refine Ok_t (by first | assumption | omega) ?_
          | with_reducible refine Ok_f (by first | assumption | omega) ?_)
      have e : sv M = sv M0 := sv_congr (hk 121 3 (by decide) (by decide)) (fun q i _ _ => hk q i (by omega) (by omega))
      have := s_airAt_100 (n := n) (M := M) (H := H) (F := F) (c := c) (h := h) (by rw [e]; exact wf) (by rw [rd_of (hk 121 3 (by decide) (by decide))]; exact hF) hc hh (by rw [e]; exact fun f hf => ha f (by omega) hf) F n 0 0 (by omega) (by omega) (by omega)
      refine Ok_of this ⟨?_, hk⟩
      rw [e]
      unfold airS
      rw [sv_f, hF]
      rfl
  | succ m ih =>
    intro j t M hj ht hk ha
    cases t with
    | zero => omega
    | succ t =>
      have a2 := acS_b (sv M0) F hc j
      have a3 := ahS_b wf F hh.1 j
      have a4 := acS_b (sv M0) F hc (j + 1)
      have a5 := ahS_b wf F hh.1 (j + 1)
      have b0 := f121 wf (i := m) (by omega)
      have ej : F - 1 - j = m := by omega
      have k122 : rd M 122 m = rd M0 122 m := rd_of (hk _ _ (by decide) (by decide))
      have k124 : rd M 124 m = rd M0 124 m := rd_of (hk _ _ (by decide) (by decide))
      have e1 : acS (sv M0) F c (j + 1) = trC (rd M0 122 m) (acS (sv M0) F c j) := by
        show trC _ _ = _
        rw [ej, b0.1.1]
      have e2 : ahS (sv M0) F h (j + 1) = trH (rd M0 122 m) (rd M0 124 m) (ahS (sv M0) F h j) := by
        show trH _ _ _ = _
        rw [ej, b0.1.1, b0.1.2.2]
      have fin : ∀ M', M' = mup (mup M 127 m (acS (sv M0) F c j)) 128 m (ahS (sv M0) F h j) → Ok (m_X3_airAt_13 n t M' (acS (sv M0) F c (j + 1)) (ahS (sv M0) F h (j + 1)) ((m : Int) - 1)) (fun r M' => r = airS (sv M0) c h ∧ ∀ q i, q ≠ 127 → q ≠ 128 → M' q i = M0 q i) := by
        intro M' e
        subst e
        refine ih (j + 1) t _ (by omega) (by omega) ?_ ?_
        · intro q i h1 h2
          rw [mup_ne _ h2, mup_ne _ h1]; exact hk q i h1 h2
        · intro f h1 h2
          rw [rd_upne _ _ _ _ _ _ (by omega), rd_up _ _ _ _ _ (by omega), rd_up _ _ _ _ _ (by omega)]
          by_cases q : f = m
          · rw [if_pos ⟨rfl, q⟩, if_pos ⟨rfl, q⟩, q, show F - 1 - m = j by omega]; exact ⟨rfl, rfl⟩
          · rw [if_neg (by omega), if_neg (by omega), rd_upne _ _ _ _ _ _ (by omega)]
            exact ha f (by omega) h2
      rw [m_X3_airAt_13]
      simp only [show ((m + 1 : Nat) : Int) - 1 = (m : Int) by omega, Int.toNat_natCast]
      repeat (first
          | with_reducible refine Ok_g (by first | assumption | omega) ?_
          | with_reducible refine Ok_lt ?_
          | with_reducible refine Ok_wr ?_
          | with_reducible refine Ok_t (by first | assumption | omega) ?_
          | with_reducible refine Ok_f (by first | assumption | omega) ?_)
      rw [rd_upne _ _ _ 122 _ _ (by omega), rd_upne _ _ _ 122 _ _ (by omega), rd_upne _ _ _ 124 _ _ (by omega), rd_upne _ _ _ 124 _ _ (by omega), k122, k124]
      rw [show (m : Int) + -1 = (m : Int) - 1 by omega]
      unfold trC at e1
      unfold trH at e2
      rw [tm a2.1]
      unfold mxZ
      refine Ok_if (fun g => ?_) (fun g => ?_)
      · repeat (first
            | with_reducible refine Ok_g (by first | assumption | omega) ?_
            | with_reducible refine Ok_lt ?_
            | with_reducible refine Ok_t (by first | assumption | omega) ?_
            | with_reducible refine Ok_f (by first | assumption | omega) ?_)
        have r1 : acS (sv M0) F c j + 5 - 2 * (acS (sv M0) F c j % 6) = acS (sv M0) F c (j + 1) := by omega
        have r2 : ahS (sv M0) F h (j + 1) = ahS (sv M0) F h j := by omega
        rw [r1, ← r2]
        exact fin _ (by rw [r2])
      · have r1 : acS (sv M0) F c (j + 1) = acS (sv M0) F c j := by omega
        refine Ok_if (fun g => ?_) (fun g => ?_)
        · repeat (first
              | with_reducible refine Ok_g (by first | assumption | omega) ?_
              | with_reducible refine Ok_lt ?_
              | with_reducible refine Ok_t (by first | assumption | omega) ?_
              | with_reducible refine Ok_f (by first | assumption | omega) ?_)
          have r2 : (if ahS (sv M0) F h j - rd M0 124 m < 0 then 0 else ahS (sv M0) F h j - rd M0 124 m) = ahS (sv M0) F h (j + 1) := by omega
          rw [r2, ← r1]
          exact fin _ (by rw [r1])
        · have r2 : ahS (sv M0) F h (j + 1) = ahS (sv M0) F h j := by omega
          rw [← r1, ← r2]
          exact fin _ (by rw [r1, r2])
theorem s_airAt {n : Nat} {M : Mem} {H : Int} {c h : Int} (hn : 2000 ≤ n) (wf : WF H (sv M)) (hc : 0 ≤ c ∧ c ≤ 23) (hh : 0 ≤ h ∧ h ≤ 1000000) :
    Ok (m_X3_airAt n M c h) (fun r M' => r = airS (sv M) c h ∧ ∀ q i, q ≠ 127 → q ≠ 128 → M' q i = M q i) := by
  have b := (wF wf).1
  rw [sv_f] at b
  unfold m_X3_airAt
  have := s_airAt_13 (n := n) (F := (rd M 121 3).toNat) hn wf (by omega) hc hh (rd M 121 3).toNat 0 n M rfl (by omega) (fun _ _ _ _ => rfl) (fun f h1 h2 => absurd h1 (by omega))
  rw [show (((rd M 121 3).toNat : Nat) : Int) = rd M 121 3 by omega] at this
  exact this
