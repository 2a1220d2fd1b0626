/-! without a front, with two changed, clear runs, sights, counts -/
def cellsN (u : US) : Nat := bs (fun c => decide (u 0 14 ≤ fogS u (c : Nat))) 24 0
theorem cells_N (u : US) : cellsS u = ((cellsN u : Nat) : Int) ∧ cellsN u < 16777216 := ⟨frm_set (by decide), bs_lt _ 24 0⟩
def shS (u : US) (f j : Nat) : US := fun k b => if 1 ≤ k ∧ k ≤ 3 ∧ f ≤ b ∧ b < j then u k (b + 1) else u k b
theorem shS_wf {H : Int} {u : US} (wf : WF H u) (f j : Nat) : WF H (shS u f j) := by
  intro k i
  unfold shS
  by_cases c : 1 ≤ k ∧ k ≤ 3 ∧ f ≤ i ∧ i < j
  · rw [if_pos c]
    have : k = 1 ∨ k = 2 ∨ k = 3 := by omega
    rcases this with rfl | rfl | rfl
    · exact wf 1 (i + 1)
    · exact wf 2 (i + 1)
    · exact wf 3 (i + 1)
  · rw [if_neg c]; exact wf k i
theorem shS_0 (u : US) (f : Nat) : shS u f f = u := by
  funext k b
  unfold shS
  rw [if_neg (by omega)]
theorem shS_step (u : US) {f j : Nat} (h : f ≤ j) : uset (uset (uset (shS u f j) 1 j (u 1 (j + 1))) 2 j (u 2 (j + 1))) 3 j (u 3 (j + 1)) = shS u f (j + 1) := by
  funext k b
  unfold uset shS
  by_cases b0 : b = j
  · subst b0
    by_cases k1 : k = 1
    · subst k1; simp [h]
    · by_cases k2 : k = 2
      · subst k2; simp [h]
      · by_cases k3 : k = 3
        · subst k3; simp [h]
        · rw [if_neg (by omega), if_neg (by omega), if_neg (by omega), if_neg (by omega), if_neg (by omega)]
  · rw [if_neg (by omega), if_neg (by omega), if_neg (by omega)]
    by_cases c : 1 ≤ k ∧ k ≤ 3 ∧ f ≤ b ∧ b < j
    · rw [if_pos c, if_pos (by omega)]
    · rw [if_neg c, if_neg (by omega)]
theorem shS_at (u : US) {f j k b : Nat} (h : j ≤ b) : shS u f j k b = u k b := by
  unfold shS
  rw [if_neg (by omega)]
theorem shS_k (u : US) {f j k b : Nat} (h : k = 0 ∨ 3 < k) : shS u f j k b = u k b := by
  unfold shS
  rw [if_neg (by omega)]
theorem shS_set (u : US) (f j : Nat) (v : Int) : shS (uset u 0 3 v) f j = uset (shS u f j) 0 3 v := by
  funext k b
  simp only [shS, uset]
  by_cases c : k = 0 ∧ b = 3
  · rw [if_neg (by omega), if_pos c, if_pos c]
  · rw [if_neg c]
    by_cases d : 1 ≤ k ∧ k ≤ 3 ∧ f ≤ b ∧ b < j
    · rw [if_pos d, if_pos d, if_neg (by omega), if_neg c]
    · rw [if_neg d, if_neg d, if_neg c]
def dropFS (u : US) (f : Nat) : US := uset (shS u f ((u 0 3).toNat - 1)) 0 3 (u 0 3 - 1)
theorem e_dropFront_13 {n f F : Nat} {H : Int} {u : US} (wf : WF H u) (hF : u 0 3 = F) (hF6 : F ≤ 6) : ∀ k t (i : Nat) M, i + 1 + k = F → k < t → f ≤ i → vw M 22 = shS u f i →
    Ok (m_X4_dropFront_13 n t M 22 ((i : Int) + 1)) (fun _ M' => vw M' 22 = uset (shS u f (F - 1)) 0 3 (u 0 3 - 1) ∧ ∀ q j, q < 22 ∨ 25 < q → M' q j = M q j) := by
  intro k
  induction k with
  | zero =>
    intro t i M hi ht hf hv
    cases t with
    | zero => omega
    | succ t =>
      have w1 : WF H (vw M 22) := by rw [hv]; exact shS_wf wf f i
      have b := sW w1
      have e3 : rd M 22 3 = F := by rw [← b.1.1, hv, shS_k _ (by omega), hF]
      rw [m_X4_dropFront_13]
      repeat (first
          | with_reducible refine Ok_g (by first | assumption | omega) ?_
          | with_reducible refine Ok_lt ?_
          | with_reducible refine Ok_t (by first | assumption | omega) ?_
          | with_reducible refine Ok_f (by first | assumption | omega) ?_)
      refine Ok_wr (Ok_ret ⟨?_, fun q j hq => mup_n _ (by omega)⟩)
      rw [vw_sets (by omega) (by omega) (by omega), hv, e3, hF, show F - 1 = i by omega]
  | succ k ih =>
    intro t i M hi ht hf hv
    cases t with
    | zero => omega
    | succ t =>
      have w1 : WF H (vw M 22) := by rw [hv]; exact shS_wf wf f i
      have b := sW w1
      have e3 : rd M 22 3 = F := by rw [← b.1.1, hv, shS_k _ (by omega), hF]
      have p := fW w1 (i := i + 1) (by omega)
      simp only [Nat.reduceAdd] at p
      rw [hv, shS_at _ (by omega), shS_at _ (by omega), shS_at _ (by omega)] at p
      rw [m_X4_dropFront_13]
      simp only [show (i : Int) + 1 - 1 = (i : Int) by omega]
      simp only [show (i : Int) + 1 = ((i + 1 : Nat) : Int) by omega, Int.toNat_natCast, Nat.reduceAdd]
      repeat (first
          | with_reducible refine Ok_g (by first | assumption | omega) ?_
          | with_reducible refine Ok_lt ?_
          | with_reducible refine Ok_t (by first | assumption | omega) ?_
          | with_reducible refine Ok_f (by first | assumption | omega) ?_)
      refine Ok_wr (Ok_wr (Ok_wr ?_))
      rw [rd_upne _ _ _ 25 _ _ (by omega), rd_upne _ _ _ 25 _ _ (by omega), rd_upne _ _ _ 24 _ _ (by omega)]
      have e1 : vw (mup M 23 i (rd M 23 (i + 1))) 22 = uset (vw M 22) 1 i (rd M 23 (i + 1)) := vw_set (w := 22) (k := 1) (by omega) (by decide) (by decide) (by decide) (show i < 6 by omega)
      have e2 : ∀ M', vw (mup M' 24 i (rd M 24 (i + 1))) 22 = uset (vw M' 22) 2 i (rd M 24 (i + 1)) := fun M' => vw_set (w := 22) (k := 2) (by omega) (by decide) (by decide) (by decide) (show i < 6 by omega)
      have e4 : ∀ M', vw (mup M' 25 i (rd M 25 (i + 1))) 22 = uset (vw M' 22) 3 i (rd M 25 (i + 1)) := fun M' => vw_set (w := 22) (k := 3) (by omega) (by decide) (by decide) (by decide) (show i < 6 by omega)
      refine Ok_mono (ih t (i + 1) _ (by omega) (by omega) (by omega) ?_) ?_
      · rw [e4, e2, e1, hv, ← p.1.1, ← p.1.2.1, ← p.1.2.2]
        exact shS_step u hf
      · rintro _ M' ⟨h1, h2⟩
        refine ⟨h1, fun q j hq => ?_⟩
        rw [h2 q j hq, mup_n _ (by omega), mup_n _ (by omega), mup_n _ (by omega)]
theorem e_dropFront {n f : Nat} {H : Int} {M : Mem} (hn : 2000 ≤ n) (wf : WF H (vw M 22)) (hf : (f : Int) < rd M 22 3) : Ok (m_X4_dropFront n M 22 (f : Int)) (fun _ M' => vw M' 22 = dropFS (vw M 22) f ∧ ∀ q j, q < 22 ∨ 25 < q → M' q j = M q j) := by
  have b := sW wf
  unfold m_X4_dropFront
  refine Ok_g (by decide) ?_
  refine Ok_be (e_hasF (by decide) (by omega)) ?_
  repeat (first
      | with_reducible refine Ok_g (by first | assumption | omega) ?_
      | with_reducible refine Ok_lt ?_
      | with_reducible refine Ok_t (by first | assumption | omega) ?_
      | with_reducible refine Ok_f (by first | assumption | omega) ?_)
  unfold dropFS
  refine e_dropFront_13 (F := (vw M 22 0 3).toNat) wf (by omega) (by omega) ((vw M 22 0 3).toNat - 1 - f) n f M (by omega) (by omega) (Nat.le_refl _) (shS_0 _ _).symm
theorem r_blowsOff_12 {n f F : Nat} {H : Int} {u : US} (wf : WF H u) (hF : u 0 3 + 1 = F) (hF6 : F ≤ 6) : ∀ k t (i : Nat) M, i + 1 + k = F → k < t → f ≤ i → vw M 137 = shS u f i →
    Ok (m_X6_blowsOff_12 n t M (i : Int)) (fun _ M' => vw M' 137 = shS u f (F - 1) ∧ KX M M') := by
  intro k
  induction k with
  | zero =>
    intro t i M hi ht hf hv
    cases t with
    | zero => omega
    | succ t =>
      have w1 : WF H (vw M 137) := by rw [hv]; exact shS_wf wf f i
      have b := sW w1
      have e3 : rd M 137 3 + 1 = F := by rw [← b.1.1, hv, shS_k _ (by omega), hF]
      rw [m_X6_blowsOff_12]
      repeat (first
          | with_reducible refine Ok_g (by first | assumption | omega) ?_
          | with_reducible refine Ok_lt ?_
          | with_reducible refine Ok_t (by first | assumption | omega) ?_
          | with_reducible refine Ok_f (by first | assumption | omega) ?_)
      exact Ok_ret ⟨by rw [hv, show F - 1 = i by omega], KX_refl M⟩
  | succ k ih =>
    intro t i M hi ht hf hv
    cases t with
    | zero => omega
    | succ t =>
      have w1 : WF H (vw M 137) := by rw [hv]; exact shS_wf wf f i
      have b := sW w1
      have e3 : rd M 137 3 + 1 = F := by rw [← b.1.1, hv, shS_k _ (by omega), hF]
      have p := fW w1 (i := i + 1) (by omega)
      simp only [Nat.reduceAdd] at p
      rw [hv, shS_at _ (by omega), shS_at _ (by omega), shS_at _ (by omega)] at p
      rw [m_X6_blowsOff_12]
      simp only [show (i : Int) + 1 = ((i + 1 : Nat) : Int) by omega, Int.toNat_natCast]
      repeat (first
          | with_reducible refine Ok_g (by first | assumption | omega) ?_
          | with_reducible refine Ok_lt ?_
          | with_reducible refine Ok_t (by first | assumption | omega) ?_
          | with_reducible refine Ok_f (by first | assumption | omega) ?_)
      refine Ok_wr (Ok_wr (Ok_wr ?_))
      rw [rd_upne _ _ _ 140 _ _ (by omega), rd_upne _ _ _ 140 _ _ (by omega), rd_upne _ _ _ 139 _ _ (by omega)]
      have e1 : vw (mup M 138 i (rd M 138 (i + 1))) 137 = uset (vw M 137) 1 i (rd M 138 (i + 1)) := vw_set (w := 137) (k := 1) (by omega) (by decide) (by decide) (by decide) (show i < 6 by omega)
      have e2 : ∀ M', vw (mup M' 139 i (rd M 139 (i + 1))) 137 = uset (vw M' 137) 2 i (rd M 139 (i + 1)) := fun M' => vw_set (w := 137) (k := 2) (by omega) (by decide) (by decide) (by decide) (show i < 6 by omega)
      have e4 : ∀ M', vw (mup M' 140 i (rd M 140 (i + 1))) 137 = uset (vw M' 137) 3 i (rd M 140 (i + 1)) := fun M' => vw_set (w := 137) (k := 3) (by omega) (by decide) (by decide) (by decide) (show i < 6 by omega)
      refine Ok_mono (ih t (i + 1) _ (by omega) (by omega) (by omega) ?_) ?_
      · rw [e4, e2, e1, hv, ← p.1.1, ← p.1.2.1, ← p.1.2.2]
        exact shS_step u hf
      · rintro _ M' ⟨h1, h2⟩
        exact ⟨h1, KX_trans (KX_up (by omega)) (KX_trans (KX_up (by omega)) (KX_trans (KX_up (by omega)) h2))⟩
theorem r_blowsOff {n f : Nat} {H : Int} {M : Mem} (hn : 2000 ≤ n) (wf : WF H (vw M 137)) (hf : (f : Int) < rd M 137 3) : Ok (m_X6_blowsOff n M (f : Int)) (fun _ M' => vw M' 137 = dropFS (vw M 137) f ∧ KX M M') := by
  have b := sW wf
  unfold m_X6_blowsOff
  refine Ok_wr ?_
  have e : vw (mup M 137 3 (rd M 137 3 - 1)) 137 = uset (vw M 137) 0 3 (vw M 137 0 3 - 1) := by
    rw [b.1.1]; exact vw_sets (by omega) (by omega) (by omega)
  have w1 : WF H (uset (vw M 137) 0 3 (vw M 137 0 3 - 1)) := WF_set wf 0 3 (by show (0 : Int) ≤ _; omega) (by show _ ≤ (6 : Int); omega)
  refine Ok_mono (r_blowsOff_12 (F := (vw M 137 0 3).toNat) w1 (by rw [uset_same]; omega) (by omega) ((vw M 137 0 3).toNat - 1 - f) n f _ (by omega) (by omega) (Nat.le_refl _) (by rw [shS_0, e])) ?_
  rintro _ M' ⟨h1, h2⟩
  refine ⟨?_, KX_trans (KX_up (by omega)) h2⟩
  rw [h1, shS_set]
  rfl
theorem dropFS_wf {H : Int} {u : US} (wf : WF H u) {f : Nat} (hf : (f : Int) < u 0 3) : WF H (dropFS u f) := by
  have b := (wF wf).1
  exact WF_set (shS_wf wf _ _) 0 3 (by show (0 : Int) ≤ _; omega) (by show _ ≤ (6 : Int); omega)
def wiV (u : US) (N f : Nat) : Int := ((pcN 31 (cellsN (hoursS N (dropFS u f))) : Nat) : Int)
def wiF (u : US) (N : Nat) : Nat → Int × Int → Int × Int := fun f x => if f = 0 ∨ wiV u N f < x.2 then ((f : Int), wiV u N f) else x
theorem wiV_b (u : US) (N f : Nat) : 0 ≤ wiV u N f ∧ wiV u N f ≤ 31 := by
  have := pcN_le 31 (cellsN (hoursS N (dropFS u f)))
  unfold wiV
  omega
theorem e_without_45 {n N F : Nat} {c2 : Int} {M0 : Mem} (hn : 2000 ≤ n) (hN : N ≤ 60) (h2 : I32 c2) (wf0 : WF 999 (vw M0 0)) (hF : rd M0 0 3 = F) : ∀ k t (i : Nat) (x : Int × Int) M, i + k = F → k < t → SkyOk M → KM M0 M → -9 ≤ x.2 ∧ x.2 ≤ 31 → -9 ≤ x.1 ∧ x.1 ≤ 24 →
    Ok (m_X5_without_45 n t M (N : Int) c2 x.1 x.2 (i : Int)) (fun r M' => r = (if c2 = 0 then (frm (wiF (vw M0 0) N) k i x).1 else (frm (wiF (vw M0 0) N) k i x).2) ∧ I32 r ∧ SkyOk M' ∧ KM M0 M') := by
  have b0 := sW wf0
  intro k
  induction k with
  | zero =>
    intro t i x M hi ht sk km hx hx1
    cases t with
    | zero => omega
    | succ t =>
      have z3 : rd M 0 3 = F := by rw [rd_of (km _ _ (by omega))]; exact hF
      rw [m_X5_without_45]
      repeat (first
          | with_reducible refine Ok_g (by first | assumption | omega) ?_
          | with_reducible refine Ok_lt ?_
          | with_reducible refine Ok_t (by first | assumption | omega) ?_
          | with_reducible refine Ok_f (by first | assumption | omega) ?_)
      refine Ok_if (fun g => Ok_ret ⟨?_, by omega, sk, km⟩) (fun g => Ok_ret ⟨?_, by omega, sk, km⟩)
      · rw [if_pos g]; rfl
      · rw [if_neg g]; rfl
  | succ k ih =>
    intro t i x M hi ht sk km hx hx1
    cases t with
    | zero => omega
    | succ t =>
      have z3 : rd M 0 3 = F := by rw [rd_of (km _ _ (by omega))]; exact hF
      have e0 := vw0_KM km
      have wM : WF 999 (vw M 0) := by rw [e0]; exact wf0
      rw [m_X5_without_45]
      unfold m_X5_without_112
      repeat (first
          | with_reducible refine Ok_g (by first | assumption | omega) ?_
          | with_reducible refine Ok_lt ?_
          | with_reducible refine Ok_t (by first | assumption | omega) ?_
          | with_reducible refine Ok_f (by first | assumption | omega) ?_)
      refine Ok_bd (e_begin hn sk wM (by decide)) ?_
      rintro _ M1 ⟨v1, k1, l1, f1⟩
      have w1 : WF 999 (vw M1 22) := by rw [v1]; exact wM
      have b1 := sW w1
      have hi3 : (i : Int) < rd M1 22 3 := by rw [← b1.1.1, v1, e0, b0.1.1]; omega
      refine Ok_bd (e_dropFront hn w1 hi3) ?_
      rintro _ M2 ⟨v2, f2⟩
      have e2 : vw M2 22 = dropFS (vw M0 0) i := by rw [v2, v1, e0]
      have w2 : WF 999 (vw M2 22) := by rw [e2]; exact dropFS_wf wf0 (by omega)
      refine Ok_bd (e_goOn (N := (N : Int)) hn (by omega) (by omega) (SkyOk_keep k1 (fun q i _ _ => f2 q i (by omega))) w2) ?_
      rintro _ M3 ⟨v3, k3, l3, f3⟩
      rw [Int.toNat_natCast, e2] at v3
      have w3 : WF 1200 (vw M3 22) := by
        rw [v3]
        exact WF_le (hoursS_wf N 0 _ (by rw [← e2]; exact w2)) (by omega)
      obtain ⟨ec, hc⟩ := cells_N (vw M3 22)
      refine Ok_be (e_foggyCells hn w3 l3) ?_
      rw [ec]
      refine Ok_be (e_bitCount hc) ?_
      have wb := wiV_b (vw M0 0) N i
      have ev : ((pcN 31 (cellsN (vw M3 22)) : Nat) : Int) = wiV (vw M0 0) N i := by rw [v3]; rfl
      rw [ev]
      have kmm : KM M0 M3 := fun q j hq => by rw [f3 q j (by omega) (by omega), f2 q j (by omega), f1 q j (by omega), km q j hq]
      have take : (i = 0 ∨ wiV (vw M0 0) N i < x.2) → Ok (m_X5_without_45 n t M3 (N : Int) c2 (i : Int) (wiV (vw M0 0) N i) ((i : Int) + 1)) (fun r M' => r = (if c2 = 0 then (frm (wiF (vw M0 0) N) (k + 1) i x).1 else (frm (wiF (vw M0 0) N) (k + 1) i x).2) ∧ I32 r ∧ SkyOk M' ∧ KM M0 M') := by
        intro h
        have := ih t (i + 1) ((i : Int), wiV (vw M0 0) N i) M3 (by omega) (by omega) k3 kmm (by show -9 ≤ wiV (vw M0 0) N i ∧ wiV (vw M0 0) N i ≤ 31; omega) (by show -9 ≤ (i : Int) ∧ (i : Int) ≤ 24; omega)
        refine Ok_mono this ?_
        rintro r M' ⟨h1, h2⟩
        refine ⟨?_, h2⟩
        rw [h1]
        simp only [frm]
        rw [show wiF (vw M0 0) N i x = ((i : Int), wiV (vw M0 0) N i) from if_pos h]
      refine Ok_if (fun g => take (.inl (by omega))) (fun g => ?_)
      repeat (first
          | with_reducible refine Ok_g (by first | assumption | omega) ?_
          | with_reducible refine Ok_lt ?_
          | with_reducible refine Ok_t (by first | assumption | omega) ?_
          | with_reducible refine Ok_f (by first | assumption | omega) ?_)
      refine Ok_if (fun g2 => ?_) (fun g2 => take (.inr (by omega)))
      refine Ok_mono (ih t (i + 1) x M3 (by omega) (by omega) k3 kmm hx hx1) ?_
      rintro r M' ⟨h1, h2⟩
      refine ⟨?_, h2⟩
      rw [h1]
      simp only [frm]
      rw [show wiF (vw M0 0) N i x = x from if_neg (by omega)]
theorem r_without_45 {n N F : Nat} {c2 : Int} {u : US} (hn : 2000 ≤ n) (hN : N ≤ 60) (h2 : I32 c2) (wu : WF 999 u) (hF : u 0 3 = F) : ∀ k t (i : Nat) (x : Int × Int) M, i + k = F → k < t → Sim M → vw M 0 = u → -9 ≤ x.2 ∧ x.2 ≤ 31 → (i = 0 ∧ x.1 = -9 ∨ 0 < i ∧ 0 ≤ x.1 ∧ x.1 ≤ 24) →
    Ok (m_X6_without_45 n t M (N : Int) c2 x.1 x.2 (i : Int)) (fun r M' => r = (if c2 = 0 then (frm (wiF u N) k i x).1 else (frm (wiF u N) k i x).2) ∧ Sim M') := by
  have b0 := wF wu
  intro k
  induction k with
  | zero =>
    intro t i x M hi ht s hu hx hx1
    cases t with
    | zero => omega
    | succ t =>
      obtain ⟨wf2, vv2, rf2⟩ := sim_rf s (M1 := M) (fun _ _ _ => rfl)
      have z3 : rd M 137 3 = F := by rw [← vw_s (w := 137) (by omega), vv2, hu]; exact hF
      rw [m_X6_without_45]
      repeat (first
          | with_reducible refine Ok_g (by first | assumption | omega) ?_
          | with_reducible refine Ok_lt ?_
          | with_reducible refine Ok_t (by first | assumption | omega) ?_
          | with_reducible refine Ok_f (by first | assumption | omega) ?_)
      refine Ok_if (fun g => Ok_ret ⟨?_, s⟩) (fun g => Ok_ret ⟨?_, s⟩)
      · rw [if_pos g]; rfl
      · rw [if_neg g]; rfl
  | succ k ih =>
    intro t i x M hi ht s hu hx hx1
    cases t with
    | zero => omega
    | succ t =>
      obtain ⟨wf2, vv2, rf2⟩ := sim_rf s (M1 := M) (fun _ _ _ => rfl)
      have z3 : rd M 137 3 = F := by rw [← vw_s (w := 137) (by omega), vv2, hu]; exact hF
      rw [m_X6_without_45]
      unfold m_X6_without_97
      repeat (first
          | with_reducible refine Ok_g (by first | assumption | omega) ?_
          | with_reducible refine Ok_lt ?_
          | with_reducible refine Ok_t (by first | assumption | omega) ?_
          | with_reducible refine Ok_f (by first | assumption | omega) ?_)
      refine Ok_bd (r_minds hn s) ?_
      rintro _ M1 ⟨v1, md, f1⟩
      have w1 : WF 999 (vw M1 137) := by rw [v1]; exact wf2
      refine Ok_bd (r_blowsOff hn w1 (by rw [rd_of (f1 137 3 (by omega) (by omega))]; omega)) ?_
      rintro _ M2 ⟨v2, k2⟩
      have e2 : vw M2 137 = dropFS u i := by rw [v2, v1, vv2, hu]
      have w2 : WF 999 (vw M2 137) := by rw [e2]; exact dropFS_wf wu (by omega)
      refine Ok_bd (r_goes (N := (N : Int)) hn (by omega) (by omega) w2) ?_
      rintro _ M3 ⟨v3, k3⟩
      rw [Int.toNat_natCast, e2] at v3
      have w3 : WF 1200 (vw M3 137) := by
        rw [v3]
        exact WF_le (hoursS_wf N 0 _ (by rw [← e2]; exact w2)) (by omega)
      obtain ⟨ec, hc⟩ := cells_N (vw M3 137)
      refine Ok_bd (r_foggyCells hn w3 (by decide)) ?_
      rintro r M4 ⟨er, k4⟩
      rw [ec] at er
      subst er
      refine Ok_be (r_bits hn (by omega)) ?_
      have wb := wiV_b u N i
      have ev : ((pcN 31 (cellsN (vw M3 137)) : Nat) : Int) = wiV u N i := by rw [v3]; rfl
      rw [ev]
      refine Ok_bd (r_forgets hn s md (KX_trans k2 (KX_trans (KX_G k3) (KX_A k4)))) ?_
      rintro _ M5 ⟨s5, v5, _⟩
      have u5 : vw M5 0 = u := by rw [← s5.1, v5, s.1, hu]
      have take : (i = 0 ∨ wiV u N i < x.2) → Ok (m_X6_without_45 n t M5 (N : Int) c2 (i : Int) (wiV u N i) ((i : Int) + 1)) (fun r M' => r = (if c2 = 0 then (frm (wiF u N) (k + 1) i x).1 else (frm (wiF u N) (k + 1) i x).2) ∧ Sim M') := by
        intro h
        have := ih t (i + 1) ((i : Int), wiV u N i) M5 (by omega) (by omega) s5 u5 (by show -9 ≤ wiV u N i ∧ wiV u N i ≤ 31; omega) (.inr ⟨by omega, by show 0 ≤ (i : Int) ∧ (i : Int) ≤ 24; omega⟩)
        refine Ok_mono this ?_
        rintro r M' ⟨h1, h2⟩
        refine ⟨?_, h2⟩
        rw [h1]
        simp only [frm]
        rw [show wiF u N i x = ((i : Int), wiV u N i) from if_pos h]
      repeat (first
          | with_reducible refine Ok_g (by first | assumption | omega) ?_
          | with_reducible refine Ok_lt ?_
          | with_reducible refine Ok_t (by first | assumption | omega) ?_
          | with_reducible refine Ok_f (by first | assumption | omega) ?_)
      refine Ok_if (fun g => take (.inl (by omega))) (fun g => ?_)
      repeat (first
          | with_reducible refine Ok_g (by first | assumption | omega) ?_
          | with_reducible refine Ok_lt ?_
          | with_reducible refine Ok_t (by first | assumption | omega) ?_
          | with_reducible refine Ok_f (by first | assumption | omega) ?_)
      refine Ok_if (fun g2 => take (.inr (by omega))) (fun g2 => ?_)
      refine Ok_mono (ih t (i + 1) x M5 (by omega) (by omega) s5 u5 hx (by omega)) ?_
      rintro r M' ⟨h1, h2⟩
      refine ⟨?_, h2⟩
      rw [h1]
      simp only [frm]
      rw [show wiF u N i x = x from if_neg (by omega)]
theorem q_without {n : Nat} {M : Mem} {a b : Int} (hn : 2000 ≤ n) (s : Sim M) (ha : I32 a) (hb : I32 b) : Agr (m_X5_without n M a b) (fun M1 => m_X6_without n M1 a b) := by
  have bb := sW s.2.1
  unfold Agr m_X5_without
  by_cases ha0 : a < 0
  · repeat (first
        | with_reducible refine Ok_g (by first | assumption | omega) ?_
        | with_reducible refine Ok_lt ?_
        | with_reducible refine Ok_t (by first | assumption | omega) ?_
        | with_reducible refine Ok_f (by first | assumption | omega) ?_
        | with_reducible refine Ok_be (e_hasF (by decide) (by assumption)) ?_
        | with_reducible refine Ok_be (e_hasT (by decide) (by assumption)) ?_
        | with_reducible refine Ok_be (e_hasP (by decide) (by assumption)) ?_
        | with_reducible refine Ok_be (e_isCell (by first | assumption | omega)) ?_
        | with_reducible refine Ok_be (e_oor (by assumption) (by decide) (by decide)) ?_
        | with_reducible refine Ok_be (r_isIn (by first | assumption | omega) (by first | decide | omega) (by first | decide | omega)) ?_
        | with_reducible refine Ok_be (r_bound (by assumption) (by decide) (by decide)) ?_
        | with_reducible refine Ok_be (r_isF (by assumption) (by assumption)) ?_
        | with_reducible refine Ok_be (r_isT (by assumption) (by assumption)) ?_
        | with_reducible refine Ok_be (r_isP (by assumption) (by assumption)) ?_
        | with_reducible refine Ok_be (r_isCell (by first | assumption | omega)) ?_)
    refine Ok_be (e_refuse 4 (by omega) (by decide) (by decide)) (Ok_ret ⟨by decide, ?_⟩)
    obtain ⟨wf1, rf1, rf2⟩ := sim_rf s (M1 := bump 134 M 4) (fun q i h => bump_ne (by omega))
    unfold m_X6_without m_X6_without_24
    repeat (first
        | with_reducible refine Ok_g (by first | assumption | omega) ?_
        | with_reducible refine Ok_lt ?_
        | with_reducible refine Ok_t (by first | assumption | omega) ?_
        | with_reducible refine Ok_f (by first | assumption | omega) ?_
        | with_reducible refine Ok_be (e_hasF (by decide) (by assumption)) ?_
        | with_reducible refine Ok_be (e_hasT (by decide) (by assumption)) ?_
        | with_reducible refine Ok_be (e_hasP (by decide) (by assumption)) ?_
        | with_reducible refine Ok_be (e_isCell (by first | assumption | omega)) ?_
        | with_reducible refine Ok_be (e_oor (by assumption) (by decide) (by decide)) ?_
        | with_reducible refine Ok_be (r_isIn (by first | assumption | omega) (by first | decide | omega) (by first | decide | omega)) ?_
        | with_reducible refine Ok_be (r_bound (by assumption) (by decide) (by decide)) ?_
        | with_reducible refine Ok_be (r_isF (by assumption) (by assumption)) ?_
        | with_reducible refine Ok_be (r_isT (by assumption) (by assumption)) ?_
        | with_reducible refine Ok_be (r_isP (by assumption) (by assumption)) ?_
        | with_reducible refine Ok_be (r_isCell (by first | assumption | omega)) ?_)
    exact Ok_be (r_no 4 (by omega) (by decide) (by decide)) (Ok_ret ⟨rfl, sim_bump s 4⟩)
  by_cases ha4 : 60 < a
  · repeat (first
        | with_reducible refine Ok_g (by first | assumption | omega) ?_
        | with_reducible refine Ok_lt ?_
        | with_reducible refine Ok_t (by first | assumption | omega) ?_
        | with_reducible refine Ok_f (by first | assumption | omega) ?_
        | with_reducible refine Ok_be (e_hasF (by decide) (by assumption)) ?_
        | with_reducible refine Ok_be (e_hasT (by decide) (by assumption)) ?_
        | with_reducible refine Ok_be (e_hasP (by decide) (by assumption)) ?_
        | with_reducible refine Ok_be (e_isCell (by first | assumption | omega)) ?_
        | with_reducible refine Ok_be (e_oor (by assumption) (by decide) (by decide)) ?_
        | with_reducible refine Ok_be (r_isIn (by first | assumption | omega) (by first | decide | omega) (by first | decide | omega)) ?_
        | with_reducible refine Ok_be (r_bound (by assumption) (by decide) (by decide)) ?_
        | with_reducible refine Ok_be (r_isF (by assumption) (by assumption)) ?_
        | with_reducible refine Ok_be (r_isT (by assumption) (by assumption)) ?_
        | with_reducible refine Ok_be (r_isP (by assumption) (by assumption)) ?_
        | with_reducible refine Ok_be (r_isCell (by first | assumption | omega)) ?_)
    refine Ok_be (e_refuse 6 (by omega) (by decide) (by decide)) (Ok_ret ⟨by decide, ?_⟩)
    obtain ⟨wf1, rf1, rf2⟩ := sim_rf s (M1 := bump 134 M 6) (fun q i h => bump_ne (by omega))
    unfold m_X6_without m_X6_without_24
    repeat (first
        | with_reducible refine Ok_g (by first | assumption | omega) ?_
        | with_reducible refine Ok_lt ?_
        | with_reducible refine Ok_t (by first | assumption | omega) ?_
        | with_reducible refine Ok_f (by first | assumption | omega) ?_
        | with_reducible refine Ok_be (e_hasF (by decide) (by assumption)) ?_
        | with_reducible refine Ok_be (e_hasT (by decide) (by assumption)) ?_
        | with_reducible refine Ok_be (e_hasP (by decide) (by assumption)) ?_
        | with_reducible refine Ok_be (e_isCell (by first | assumption | omega)) ?_
        | with_reducible refine Ok_be (e_oor (by assumption) (by decide) (by decide)) ?_
        | with_reducible refine Ok_be (r_isIn (by first | assumption | omega) (by first | decide | omega) (by first | decide | omega)) ?_
        | with_reducible refine Ok_be (r_bound (by assumption) (by decide) (by decide)) ?_
        | with_reducible refine Ok_be (r_isF (by assumption) (by assumption)) ?_
        | with_reducible refine Ok_be (r_isT (by assumption) (by assumption)) ?_
        | with_reducible refine Ok_be (r_isP (by assumption) (by assumption)) ?_
        | with_reducible refine Ok_be (r_isCell (by first | assumption | omega)) ?_)
    exact Ok_be (r_no 6 (by omega) (by decide) (by decide)) (Ok_ret ⟨rfl, sim_bump s 6⟩)
  have main : b = 0 ∨ b = 1 → Ok (m_X5_without_34 n M a b) (fun r M1 => I32 r ∧ Ok (m_X6_without n M1 a b) (fun r' M2 => r' = r ∧ Sim M2)) := by
    intro hc01
    obtain ⟨N, rfl⟩ := Int.eq_ofNat_of_zero_le (show 0 ≤ a by omega)
    unfold m_X5_without_34
    refine Ok_mono (e_without_45 (F := (rd M 0 3).toNat) (M0 := M) hn (by omega) hb s.2.1 (by omega) (rd M 0 3).toNat n 0 (-9, -9) M (by omega) (by omega) s.2.2.1 (KM_refl M) (by decide) (by decide)) ?_
    rintro r M1 ⟨er, ir, k1, km⟩
    refine ⟨ir, ?_⟩
    have s1 := sim_KM s k1 km
    have e0 := vw0_KM km
    unfold m_X6_without m_X6_without_24
    repeat (first
        | with_reducible refine Ok_g (by first | assumption | omega) ?_
        | with_reducible refine Ok_lt ?_
        | with_reducible refine Ok_t (by first | assumption | omega) ?_
        | with_reducible refine Ok_f (by first | assumption | omega) ?_
        | with_reducible refine Ok_be (e_hasF (by decide) (by assumption)) ?_
        | with_reducible refine Ok_be (e_hasT (by decide) (by assumption)) ?_
        | with_reducible refine Ok_be (e_hasP (by decide) (by assumption)) ?_
        | with_reducible refine Ok_be (e_isCell (by first | assumption | omega)) ?_
        | with_reducible refine Ok_be (e_oor (by assumption) (by decide) (by decide)) ?_
        | with_reducible refine Ok_be (r_isIn (by first | assumption | omega) (by first | decide | omega) (by first | decide | omega)) ?_
        | with_reducible refine Ok_be (r_bound (by assumption) (by decide) (by decide)) ?_
        | with_reducible refine Ok_be (r_isF (by assumption) (by assumption)) ?_
        | with_reducible refine Ok_be (r_isT (by assumption) (by assumption)) ?_
        | with_reducible refine Ok_be (r_isP (by assumption) (by assumption)) ?_
        | with_reducible refine Ok_be (r_isCell (by first | assumption | omega)) ?_)
    refine Ok_mono (r_without_45 (F := (rd M 0 3).toNat) hn (by omega) hb s.2.1 (by omega) (rd M 0 3).toNat n 0 (-9, -9) M1 (by omega) (by omega) s1 e0 (by decide) (.inl ⟨rfl, rfl⟩)) ?_
    rintro r' M2 ⟨er', s2⟩
    exact ⟨by rw [er', er], s2⟩
  repeat (first
      | with_reducible refine Ok_g (by first | assumption | omega) ?_
      | with_reducible refine Ok_lt ?_
      | with_reducible refine Ok_t (by first | assumption | omega) ?_
      | with_reducible refine Ok_f (by first | assumption | omega) ?_
      | with_reducible refine Ok_be (e_hasF (by decide) (by assumption)) ?_
      | with_reducible refine Ok_be (e_hasT (by decide) (by assumption)) ?_
      | with_reducible refine Ok_be (e_hasP (by decide) (by assumption)) ?_
      | with_reducible refine Ok_be (e_isCell (by first | assumption | omega)) ?_
      | with_reducible refine Ok_be (e_oor (by assumption) (by decide) (by decide)) ?_
      | with_reducible refine Ok_be (r_isIn (by first | assumption | omega) (by first | decide | omega) (by first | decide | omega)) ?_
      | with_reducible refine Ok_be (r_bound (by assumption) (by decide) (by decide)) ?_
      | with_reducible refine Ok_be (r_isF (by assumption) (by assumption)) ?_
      | with_reducible refine Ok_be (r_isT (by assumption) (by assumption)) ?_
      | with_reducible refine Ok_be (r_isP (by assumption) (by assumption)) ?_
      | with_reducible refine Ok_be (r_isCell (by first | assumption | omega)) ?_)
  refine Ok_if (fun g => main (.inl g)) (fun g => ?_)
  refine Ok_if (fun g1 => main (.inr g1)) (fun g1 => ?_)
  refine Ok_be (e_refuse 2 (by omega) (by decide) (by decide)) (Ok_ret ⟨by decide, ?_⟩)
  obtain ⟨wf1, rf1, rf2⟩ := sim_rf s (M1 := bump 134 M 2) (fun q i h => bump_ne (by omega))
  unfold m_X6_without m_X6_without_24
  repeat (first
      | with_reducible refine Ok_g (by first | assumption | omega) ?_
      | with_reducible refine Ok_lt ?_
      | with_reducible refine Ok_t (by first | assumption | omega) ?_
      | with_reducible refine Ok_f (by first | assumption | omega) ?_
      | with_reducible refine Ok_be (e_hasF (by decide) (by assumption)) ?_
      | with_reducible refine Ok_be (e_hasT (by decide) (by assumption)) ?_
      | with_reducible refine Ok_be (e_hasP (by decide) (by assumption)) ?_
      | with_reducible refine Ok_be (e_isCell (by first | assumption | omega)) ?_
      | with_reducible refine Ok_be (e_oor (by assumption) (by decide) (by decide)) ?_
      | with_reducible refine Ok_be (r_isIn (by first | assumption | omega) (by first | decide | omega) (by first | decide | omega)) ?_
      | with_reducible refine Ok_be (r_bound (by assumption) (by decide) (by decide)) ?_
      | with_reducible refine Ok_be (r_isF (by assumption) (by assumption)) ?_
      | with_reducible refine Ok_be (r_isT (by assumption) (by assumption)) ?_
      | with_reducible refine Ok_be (r_isP (by assumption) (by assumption)) ?_
      | with_reducible refine Ok_be (r_isCell (by first | assumption | omega)) ?_)
  exact Ok_be (r_no 2 (by omega) (by decide) (by decide)) (Ok_ret ⟨rfl, sim_bump s 2⟩)
