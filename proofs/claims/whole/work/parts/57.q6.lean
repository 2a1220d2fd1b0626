/-! two with each other's kinds -/
def chS (u : US) (a b : Nat) : US := uset (uset (uset (uset u 7 a (u 7 b)) 8 a (u 8 b)) 7 b (u 7 a)) 8 b (u 8 a)
theorem uset_comm (u : US) {k i k' i' : Nat} (v v' : Int) (h : ¬ (k = k' ∧ i = i')) : uset (uset u k i v) k' i' v' = uset (uset u k' i' v') k i v := by
  funext a b
  simp only [uset]
  by_cases c : a = k ∧ b = i
  · have d : ¬ (a = k' ∧ b = i') := by omega
    rw [if_neg d, if_pos c, if_pos c]
  · rw [if_neg c, if_neg c]
theorem chS_wf {H : Int} {u : US} (wf : WF H u) (a b : Nat) : WF H (chS u a b) := by
  have p := wFp wf a
  have q := wFp wf b
  exact WF_set (WF_set (WF_set (WF_set wf 7 a q.1.1 q.1.2) 8 a q.2.1.1 q.2.1.2) 7 b p.1.1 p.1.2) 8 b p.2.1.1 p.2.1.2
theorem e_change {n a b : Nat} {H : Int} {M : Mem} (wf : WF H (vw M 22)) (ha : (a : Int) < rd M 22 12) (hb : (b : Int) < rd M 22 12) (hab : a ≠ b) : Ok (m_X4_change n M 22 (a : Int) (b : Int)) (fun _ M' => vw M' 22 = chS (vw M 22) a b ∧ ∀ q j, q < 29 ∨ 30 < q → M' q j = M q j) := by
  have bb := sW wf
  have p := pW wf (i := a) (by omega)
  have q := pW wf (i := b) (by omega)
  simp only [Nat.reduceAdd] at p q
  unfold m_X4_change
  refine Ok_g (by decide) ?_
  simp only [Int.toNat_natCast, Nat.reduceAdd]
  refine Ok_be (e_hasP (by decide) (by omega)) ?_
  repeat (first
      | with_reducible refine Ok_g (by first | assumption | omega) ?_
      | with_reducible refine Ok_lt ?_
      | with_reducible refine Ok_t (by first | assumption | omega) ?_
      | with_reducible refine Ok_f (by first | assumption | omega) ?_)
  refine Ok_be (e_hasP (by decide) (by omega)) ?_
  repeat (first
      | with_reducible refine Ok_g (by first | assumption | omega) ?_
      | with_reducible refine Ok_lt ?_
      | with_reducible refine Ok_t (by first | assumption | omega) ?_
      | with_reducible refine Ok_f (by first | assumption | omega) ?_)
  refine Ok_wr (Ok_wr (Ok_wr (Ok_wr (Ok_ret ⟨?_, fun q j hq => ?_⟩))))
  · rw [rd_upne _ _ _ 30 _ _ (by omega)]
    have e7 : ∀ M' i, i < 5 → ∀ v, I32 v → vw (mup M' 29 i v) 22 = uset (vw M' 22) 7 i v := fun M' i hi v hv => vw_set (w := 22) (k := 7) hv (by decide) (by decide) (by decide) (show i < 5 by omega)
    have e8 : ∀ M' i, i < 5 → ∀ v, I32 v → vw (mup M' 30 i v) 22 = uset (vw M' 22) 8 i v := fun M' i hi v hv => vw_set (w := 22) (k := 8) hv (by decide) (by decide) (by decide) (show i < 5 by omega)
    rw [e8 _ _ (by omega) _ (rd_rng _ _ _), e7 _ _ (by omega) _ (rd_rng _ _ _), e8 _ _ (by omega) _ (rd_rng _ _ _), e7 _ _ (by omega) _ (rd_rng _ _ _)]
    rw [← p.1.1, ← p.1.2.1, ← q.1.1, ← q.1.2.1]
    rfl
  · rw [mup_n _ (by omega), mup_n _ (by omega), mup_n _ (by omega), mup_n _ (by omega)]
theorem r_changes {n a b k0 q0 : Nat} {M : Mem} (hk : k0 = 7 ∨ k0 = 8) (hq : q0 = 137 + k0) (ha : a < 5) (hb : b < 5) : Ok (m_X6_changes n M q0 (a : Int) (b : Int)) (fun _ M' => vw M' 137 = uset (uset (vw M 137) k0 a (vw M 137 k0 b)) k0 b (vw M 137 k0 a) ∧ KX M M' ∧ ∀ q i, q ≠ q0 → M' q i = M q i) := by
  subst hq
  have l : ln (137 + k0) = 5 := by rcases hk with rfl | rfl <;> decide
  have lk : lnk k0 = 5 := by rcases hk with rfl | rfl <;> decide
  unfold m_X6_changes
  refine Ok_g ⟨by omega, by omega⟩ ?_
  rw [l]
  simp only [Int.toNat_natCast]
  repeat (first
      | with_reducible refine Ok_g (by first | assumption | omega) ?_
      | with_reducible refine Ok_lt ?_
      | with_reducible refine Ok_t (by first | assumption | omega) ?_
      | with_reducible refine Ok_f (by first | assumption | omega) ?_)
  refine Ok_wr (Ok_wr (Ok_ret ⟨?_, KX_trans (KX_up (by omega)) (KX_up (by omega)), fun q i h => by rw [mup_ne _ h, mup_ne _ h]⟩))
  have e : ∀ M' i, i < 5 → ∀ v, I32 v → vw (mup M' (137 + k0) i v) 137 = uset (vw M' 137) k0 i v := by
    intro M' i hi v hv
    have := vw_set (M := M') (w := 137) (k := k0) (i := i) hv (by omega) (by omega) (by decide) (by omega)
    rw [if_neg (by omega)] at this
    exact this
  rw [e _ _ hb _ (rd_rng _ _ _), e _ _ ha _ (rd_rng _ _ _), vw_a (by omega) (by omega) (by omega), vw_a (by omega) (by omega) (by omega)]
theorem ch_eq (u : US) {a b : Nat} : uset (uset (uset (uset u 7 a (u 7 b)) 7 b (u 7 a)) 8 a (u 8 b)) 8 b (u 8 a) = chS u a b := by
  unfold chS
  rw [uset_comm (uset u 7 a (u 7 b)) (k := 7) (i := b) (k' := 8) (i' := a) _ _ (by omega)]
def swV (u : US) (N a b : Nat) : Int := manyS (hoursS N (chS u a b))
def swF (u : US) (N a : Nat) : Nat → Int × Int → Int × Int := fun b x => if x.2 < swV u N a b then (10 * (a : Int) + b, swV u N a b) else x
theorem swF_b {u : US} (wu : WF 999 u) {N a : Nat} (hN : N ≤ 60) (ha : a ≤ 4) : ∀ k i x, i + k ≤ 5 → -9 ≤ x.2 ∧ x.2 ≤ 8 ∧ -9 ≤ x.1 ∧ x.1 ≤ 99 → (-9 ≤ (frm (swF u N a) k i x).2 ∧ (frm (swF u N a) k i x).2 ≤ 8 ∧ -9 ≤ (frm (swF u N a) k i x).1 ∧ (frm (swF u N a) k i x).1 ≤ 99)
  | 0, _, _, _, h => h
  | k + 1, i, x, hi, h => by
    have b := manyS_b (hoursS_wf N 0 _ (chS_wf wu a i))
    simp only [frm]
    refine swF_b wu hN ha k (i + 1) _ (by omega) ?_
    unfold swF
    have : 0 ≤ swV u N a i ∧ swV u N a i ≤ 8 := b
    split
    · show -9 ≤ swV u N a i ∧ swV u N a i ≤ 8 ∧ -9 ≤ 10 * (a : Int) + i ∧ 10 * (a : Int) + i ≤ 99
      omega
    · exact h
theorem e_swap_59 {n N P a : Nat} {M0 : Mem} {k41 : Mem → Int → Int → Int → Int → Rs} {Post : Int → Mem → Prop} (hn : 2000 ≤ n) (hN : N ≤ 30) (wf0 : WF 999 (vw M0 0)) (hP : rd M0 0 12 = P) (haP : a < P) : ∀ k t (i : Nat) (x : Int × Int) M, i + k = P → k < t → a < i → SkyOk M → KM M0 M → -9 ≤ x.2 ∧ x.2 ≤ 8 →
    (∀ M', SkyOk M' → KM M0 M' → Ok (k41 M' (N : Int) (frm (swF (vw M0 0) N a) k i x).1 (frm (swF (vw M0 0) N a) k i x).2 ((a : Int) + 1)) Post) →
    Ok (m_X5_swap_59 n k41 t M (N : Int) x.1 x.2 (a : Int) (i : Int)) Post := by
  have b0 := sW wf0
  intro k
  induction k with
  | zero =>
    intro t i x M hi ht hai sk km hx hk
    cases t with
    | zero => omega
    | succ t =>
      have z : rd M 0 12 = P := by rw [rd_of (km _ _ (by omega))]; exact hP
      rw [m_X5_swap_59]
      repeat (first
          | with_reducible refine Ok_g (by first | assumption | omega) ?_
          | with_reducible refine Ok_lt ?_
          | with_reducible refine Ok_t (by first | assumption | omega) ?_
          | with_reducible refine Ok_f (by first | assumption | omega) ?_)
      exact hk M sk km
  | succ k ih =>
    intro t i x M hi ht hai sk km hx hk
    cases t with
    | zero => omega
    | succ t =>
      have z : rd M 0 12 = P := by rw [rd_of (km _ _ (by omega))]; exact hP
      have e0 := vw0_KM km
      have wM : WF 999 (vw M 0) := by rw [e0]; exact wf0
      rw [m_X5_swap_59]
      repeat (first
          | with_reducible refine Ok_g (by first | assumption | omega) ?_
          | with_reducible refine Ok_lt ?_
          | with_reducible refine Ok_t (by first | assumption | omega) ?_
          | with_reducible refine Ok_f (by first | assumption | omega) ?_)
      refine Ok_bd (e_begin hn sk wM (by decide)) ?_
      rintro _ M1 ⟨v1, k1, l1, f1⟩
      have w1 : WF 999 (vw M1 22) := by rw [v1]; exact wM
      have b1 := sW w1
      have h12 : rd M1 22 12 = P := by rw [← b1.1.2.2.1, v1, e0, b0.1.2.2.1]; exact hP
      refine Ok_bd (e_change w1 (by omega) (by omega) (by omega)) ?_
      rintro _ M2 ⟨v2, f2⟩
      have e2 : vw M2 22 = chS (vw M0 0) a i := by rw [v2, v1, e0]
      have w2 : WF 999 (vw M2 22) := by rw [e2]; exact chS_wf wf0 a i
      refine Ok_bd (e_goOn (N := (N : Int)) hn (by omega) (by omega) (SkyOk_keep k1 (fun q i _ _ => f2 q i (by omega))) w2) ?_
      rintro _ M3 ⟨v3, k3, l3, f3⟩
      rw [Int.toNat_natCast, e2] at v3
      have w3 : WF 1200 (vw M3 22) := by
        rw [v3]
        exact WF_le (hoursS_wf N 0 _ (by rw [← e2]; exact w2)) (by omega)
      have wb := manyS_b w3
      refine Ok_be (e_owned hn (by decide) w3) ?_
      have ev : manyS (vw M3 22) = swV (vw M0 0) N a i := by rw [v3]; rfl
      rw [ev] at wb ⊢
      have kmm : KM M0 M3 := fun q j hq => by rw [f3 q j (by omega) (by omega), f2 q j (by omega), f1 q j (by omega), km q j hq]
      repeat (first
          | with_reducible refine Ok_g (by first | assumption | omega) ?_
          | with_reducible refine Ok_lt ?_
          | with_reducible refine Ok_t (by first | assumption | omega) ?_
          | with_reducible refine Ok_f (by first | assumption | omega) ?_)
      refine Ok_if (fun g => ?_) (fun g => ?_)
      · refine ih t (i + 1) x M3 (by omega) (by omega) (by omega) k3 kmm hx ?_
        intro M' h1 h2
        have := hk M' h1 h2
        simp only [frm] at this
        rw [show swF (vw M0 0) N a i x = x from if_neg (by omega)] at this
        exact this
      · refine ih t (i + 1) (10 * (a : Int) + i, swV (vw M0 0) N a i) M3 (by omega) (by omega) (by omega) k3 kmm (by show -9 ≤ swV (vw M0 0) N a i ∧ swV (vw M0 0) N a i ≤ 8; omega) ?_
        intro M' h1 h2
        have := hk M' h1 h2
        simp only [frm] at this
        rw [show swF (vw M0 0) N a i x = (10 * (a : Int) + i, swV (vw M0 0) N a i) from if_pos (by omega)] at this
        exact this
def swO (u : US) (N P : Nat) : Nat → Int × Int → Int × Int := fun a x => frm (swF u N a) (P - (a + 1)) (a + 1) x
theorem e_swap_41 {n N P : Nat} {M0 : Mem} (hn : 2000 ≤ n) (hN : N ≤ 30) (wf0 : WF 999 (vw M0 0)) (hP : rd M0 0 12 = P) : ∀ k t (i : Nat) (x : Int × Int) M, i + k = P → k < t → SkyOk M → KM M0 M → -9 ≤ x.2 ∧ x.2 ≤ 8 ∧ -9 ≤ x.1 ∧ x.1 ≤ 99 →
    Ok (m_X5_swap_41 n t M (N : Int) x.1 x.2 (i : Int)) (fun r M' => r = (frm (swO (vw M0 0) N P) k i x).1 ∧ I32 r ∧ SkyOk M' ∧ KM M0 M') := by
  have b0 := sW wf0
  intro k
  induction k with
  | zero =>
    intro t i x M hi ht sk km hx
    cases t with
    | zero => omega
    | succ t =>
      have z : rd M 0 12 = P := by rw [rd_of (km _ _ (by omega))]; exact hP
      rw [m_X5_swap_41]
      repeat (first
          | with_reducible refine Ok_g (by first | assumption | omega) ?_
          | with_reducible refine Ok_lt ?_
          | with_reducible refine Ok_t (by first | assumption | omega) ?_
          | with_reducible refine Ok_f (by first | assumption | omega) ?_)
      exact Ok_ret ⟨rfl, by omega, sk, km⟩
  | succ k ih =>
    intro t i x M hi ht sk km hx
    cases t with
    | zero => omega
    | succ t =>
      have z : rd M 0 12 = P := by rw [rd_of (km _ _ (by omega))]; exact hP
      rw [m_X5_swap_41]
      repeat (first
          | with_reducible refine Ok_g (by first | assumption | omega) ?_
          | with_reducible refine Ok_lt ?_
          | with_reducible refine Ok_t (by first | assumption | omega) ?_
          | with_reducible refine Ok_f (by first | assumption | omega) ?_)
      refine e_swap_59 (P := P) hn hN wf0 hP (by omega) (P - (i + 1)) n (i + 1) x M (by omega) (by omega) (by omega) sk km (by omega) ?_
      intro M' k1 km1
      exact ih t (i + 1) _ M' (by omega) (by omega) k1 km1 (swF_b wf0 (by omega) (by omega) _ _ _ (by omega) (by omega))
theorem r_swap_58 {n N P a : Nat} {u : US} {k43 : Mem → Int → Int → Int → Int → Rs} {Post : Int → Mem → Prop} (hn : 2000 ≤ n) (hN : N ≤ 30) (wu : WF 999 u) (hP : u 0 12 = P) (haP : a < P) : ∀ k t (i : Nat) (x : Int × Int) M, i + k = P → k < t → a < i → Sim M → vw M 0 = u → -9 ≤ x.2 ∧ x.2 ≤ 8 →
    (∀ M', Sim M' → vw M' 0 = u → Ok (k43 M' (N : Int) (frm (swF u N a) k i x).1 (frm (swF u N a) k i x).2 ((a : Int) + 1)) Post) →
    Ok (m_X6_swap_58 n k43 t M (N : Int) x.1 x.2 (a : Int) (i : Int)) Post := by
  have b0 := wF wu
  intro k
  induction k with
  | zero =>
    intro t i x M hi ht hai s hu hx hk
    cases t with
    | zero => omega
    | succ t =>
      obtain ⟨wf2, vv2, rf2⟩ := sim_rf s (M1 := M) (fun _ _ _ => rfl)
      have z : rd M 137 12 = P := by rw [← vw_s (w := 137) (by omega), vv2, hu]; exact hP
      rw [m_X6_swap_58]
      repeat (first
          | with_reducible refine Ok_g (by first | assumption | omega) ?_
          | with_reducible refine Ok_lt ?_
          | with_reducible refine Ok_t (by first | assumption | omega) ?_
          | with_reducible refine Ok_f (by first | assumption | omega) ?_)
      exact hk M s hu
  | succ k ih =>
    intro t i x M hi ht hai s hu hx hk
    cases t with
    | zero => omega
    | succ t =>
      obtain ⟨wf2, vv2, rf2⟩ := sim_rf s (M1 := M) (fun _ _ _ => rfl)
      have z : rd M 137 12 = P := by rw [← vw_s (w := 137) (by omega), vv2, hu]; exact hP
      rw [m_X6_swap_58]
      repeat (first
          | with_reducible refine Ok_g (by first | assumption | omega) ?_
          | with_reducible refine Ok_lt ?_
          | with_reducible refine Ok_t (by first | assumption | omega) ?_
          | with_reducible refine Ok_f (by first | assumption | omega) ?_)
      refine Ok_bd (r_minds hn s) ?_
      rintro _ M1 ⟨v1, md, f1⟩
      refine Ok_bd (r_changes (k0 := 7) (by omega) rfl (by omega) (by omega)) ?_
      rintro _ M2 ⟨v2, k2, f2⟩
      refine Ok_bd (r_changes (k0 := 8) (by omega) rfl (by omega) (by omega)) ?_
      rintro _ M3 ⟨v3, k3, f3⟩
      have e3 : vw M3 137 = chS u a i := by
        rw [v3, v2, v1, vv2, hu, ← ch_eq u]
        simp only [uset_nk _ _ (show (8 : Nat) ≠ 7 by decide)]
      have w3 : WF 999 (vw M3 137) := by rw [e3]; exact chS_wf wu a i
      refine Ok_bd (r_goes (N := (N : Int)) hn (by omega) (by omega) w3) ?_
      rintro _ M4 ⟨v4, k4⟩
      rw [Int.toNat_natCast, e3] at v4
      have w4 : WF 1200 (vw M4 137) := by
        rw [v4]
        exact WF_le (hoursS_wf N 0 _ (by rw [← e3]; exact w3)) (by omega)
      have wb := manyS_b w4
      refine Ok_be (r_many hn w4) ?_
      have ev : manyS (vw M4 137) = swV u N a i := by rw [v4]; rfl
      rw [ev] at wb ⊢
      refine Ok_bd (r_forgets hn s md (KX_trans k2 (KX_trans k3 (KX_G k4)))) ?_
      rintro _ M5 ⟨s5, v5, _⟩
      have u5 : vw M5 0 = u := by rw [← s5.1, v5, s.1, hu]
      repeat (first
          | with_reducible refine Ok_g (by first | assumption | omega) ?_
          | with_reducible refine Ok_lt ?_
          | with_reducible refine Ok_t (by first | assumption | omega) ?_
          | with_reducible refine Ok_f (by first | assumption | omega) ?_)
      refine Ok_if (fun g => ?_) (fun g => ?_)
      · refine ih t (i + 1) (10 * (a : Int) + i, swV u N a i) M5 (by omega) (by omega) (by omega) s5 u5 (by show -9 ≤ swV u N a i ∧ swV u N a i ≤ 8; omega) ?_
        intro M' h1 h2
        have := hk M' h1 h2
        simp only [frm] at this
        rw [show swF u N a i x = (10 * (a : Int) + i, swV u N a i) from if_pos (by omega)] at this
        exact this
      · refine ih t (i + 1) x M5 (by omega) (by omega) (by omega) s5 u5 hx ?_
        intro M' h1 h2
        have := hk M' h1 h2
        simp only [frm] at this
        rw [show swF u N a i x = x from if_neg (by omega)] at this
        exact this
theorem r_swap_43 {n N P : Nat} {u : US} (hn : 2000 ≤ n) (hN : N ≤ 30) (wu : WF 999 u) (hP : u 0 12 = P) : ∀ k t (i : Nat) (x : Int × Int) M, i + k = P → k < t → Sim M → vw M 0 = u → -9 ≤ x.2 ∧ x.2 ≤ 8 ∧ -9 ≤ x.1 ∧ x.1 ≤ 99 →
    Ok (m_X6_swap_43 n t M (N : Int) x.1 x.2 (i : Int)) (fun r M' => r = (frm (swO u N P) k i x).1 ∧ Sim M') := by
  have b0 := wF wu
  intro k
  induction k with
  | zero =>
    intro t i x M hi ht s hu hx
    cases t with
    | zero => omega
    | succ t =>
      obtain ⟨wf2, vv2, rf2⟩ := sim_rf s (M1 := M) (fun _ _ _ => rfl)
      have z : rd M 137 12 = P := by rw [← vw_s (w := 137) (by omega), vv2, hu]; exact hP
      rw [m_X6_swap_43]
      repeat (first
          | with_reducible refine Ok_g (by first | assumption | omega) ?_
          | with_reducible refine Ok_lt ?_
          | with_reducible refine Ok_t (by first | assumption | omega) ?_
          | with_reducible refine Ok_f (by first | assumption | omega) ?_)
      exact Ok_ret ⟨rfl, s⟩
  | succ k ih =>
    intro t i x M hi ht s hu hx
    cases t with
    | zero => omega
    | succ t =>
      obtain ⟨wf2, vv2, rf2⟩ := sim_rf s (M1 := M) (fun _ _ _ => rfl)
      have z : rd M 137 12 = P := by rw [← vw_s (w := 137) (by omega), vv2, hu]; exact hP
      rw [m_X6_swap_43]
      repeat (first
          | with_reducible refine Ok_g (by first | assumption | omega) ?_
          | with_reducible refine Ok_lt ?_
          | with_reducible refine Ok_t (by first | assumption | omega) ?_
          | with_reducible refine Ok_f (by first | assumption | omega) ?_)
      refine r_swap_58 (P := P) hn hN wu hP (by omega) (P - (i + 1)) n (i + 1) x M (by omega) (by omega) (by omega) s hu (by omega) ?_
      intro M' s1 u1
      exact ih t (i + 1) _ M' (by omega) (by omega) s1 u1 (swF_b wu (by omega) (by omega) _ _ _ (by omega) (by omega))
theorem q_swap {n : Nat} {M : Mem} {a : Int} (hn : 2000 ≤ n) (s : Sim M) (ha : I32 a) : Agr (m_X5_swap n M a) (fun M1 => m_X6_swap n M1 a) := by
  have bb := sW s.2.1
  unfold Agr m_X5_swap
  by_cases ha0 : a < 0
  · repeat (first
        | with_reducible refine Ok_g (by first | assumption | omega) ?_
        | with_reducible refine Ok_lt ?_
        | with_reducible refine Ok_t (by first | assumption | omega) ?_
        | with_reducible refine Ok_f (by first | assumption | omega) ?_
        | with_reducible refine Ok_be (e_hasF (by decide) (by assumption)) ?_
        | with_reducible refine Ok_be (e_hasT (by decide) (by assumption)) ?_
        | with_reducible refine Ok_be (e_hasP (by decide) (by assumption)) ?_
        | with_reducible refine Ok_be (e_isCell (by first | assumption | omega)) ?_
        | with_reducible refine Ok_be (e_oor (by assumption) (by decide) (by decide)) ?_
        | with_reducible refine Ok_be (r_isIn (by first | assumption | omega) (by first | decide | omega) (by first | decide | omega)) ?_
        | with_reducible refine Ok_be (r_bound (by assumption) (by decide) (by decide)) ?_
        | with_reducible refine Ok_be (r_isF (by assumption) (by assumption)) ?_
        | with_reducible refine Ok_be (r_isT (by assumption) (by assumption)) ?_
        | with_reducible refine Ok_be (r_isP (by assumption) (by assumption)) ?_
        | with_reducible refine Ok_be (r_isCell (by first | assumption | omega)) ?_)
    refine Ok_be (e_refuse 4 (by omega) (by decide) (by decide)) (Ok_ret ⟨by decide, ?_⟩)
    obtain ⟨wf1, rf1, rf2⟩ := sim_rf s (M1 := bump 134 M 4) (fun q i h => bump_ne (by omega))
    unfold m_X6_swap
    repeat (first
        | with_reducible refine Ok_g (by first | assumption | omega) ?_
        | with_reducible refine Ok_lt ?_
        | with_reducible refine Ok_t (by first | assumption | omega) ?_
        | with_reducible refine Ok_f (by first | assumption | omega) ?_
        | with_reducible refine Ok_be (e_hasF (by decide) (by assumption)) ?_
        | with_reducible refine Ok_be (e_hasT (by decide) (by assumption)) ?_
        | with_reducible refine Ok_be (e_hasP (by decide) (by assumption)) ?_
        | with_reducible refine Ok_be (e_isCell (by first | assumption | omega)) ?_
        | with_reducible refine Ok_be (e_oor (by assumption) (by decide) (by decide)) ?_
        | with_reducible refine Ok_be (r_isIn (by first | assumption | omega) (by first | decide | omega) (by first | decide | omega)) ?_
        | with_reducible refine Ok_be (r_bound (by assumption) (by decide) (by decide)) ?_
        | with_reducible refine Ok_be (r_isF (by assumption) (by assumption)) ?_
        | with_reducible refine Ok_be (r_isT (by assumption) (by assumption)) ?_
        | with_reducible refine Ok_be (r_isP (by assumption) (by assumption)) ?_
        | with_reducible refine Ok_be (r_isCell (by first | assumption | omega)) ?_)
    exact Ok_be (r_no 4 (by omega) (by decide) (by decide)) (Ok_ret ⟨rfl, sim_bump s 4⟩)
  by_cases ha4 : 30 < a
  · repeat (first
        | with_reducible refine Ok_g (by first | assumption | omega) ?_
        | with_reducible refine Ok_lt ?_
        | with_reducible refine Ok_t (by first | assumption | omega) ?_
        | with_reducible refine Ok_f (by first | assumption | omega) ?_
        | with_reducible refine Ok_be (e_hasF (by decide) (by assumption)) ?_
        | with_reducible refine Ok_be (e_hasT (by decide) (by assumption)) ?_
        | with_reducible refine Ok_be (e_hasP (by decide) (by assumption)) ?_
        | with_reducible refine Ok_be (e_isCell (by first | assumption | omega)) ?_
        | with_reducible refine Ok_be (e_oor (by assumption) (by decide) (by decide)) ?_
        | with_reducible refine Ok_be (r_isIn (by first | assumption | omega) (by first | decide | omega) (by first | decide | omega)) ?_
        | with_reducible refine Ok_be (r_bound (by assumption) (by decide) (by decide)) ?_
        | with_reducible refine Ok_be (r_isF (by assumption) (by assumption)) ?_
        | with_reducible refine Ok_be (r_isT (by assumption) (by assumption)) ?_
        | with_reducible refine Ok_be (r_isP (by assumption) (by assumption)) ?_
        | with_reducible refine Ok_be (r_isCell (by first | assumption | omega)) ?_)
    refine Ok_be (e_refuse 6 (by omega) (by decide) (by decide)) (Ok_ret ⟨by decide, ?_⟩)
    obtain ⟨wf1, rf1, rf2⟩ := sim_rf s (M1 := bump 134 M 6) (fun q i h => bump_ne (by omega))
    unfold m_X6_swap
    repeat (first
        | with_reducible refine Ok_g (by first | assumption | omega) ?_
        | with_reducible refine Ok_lt ?_
        | with_reducible refine Ok_t (by first | assumption | omega) ?_
        | with_reducible refine Ok_f (by first | assumption | omega) ?_
        | with_reducible refine Ok_be (e_hasF (by decide) (by assumption)) ?_
        | with_reducible refine Ok_be (e_hasT (by decide) (by assumption)) ?_
        | with_reducible refine Ok_be (e_hasP (by decide) (by assumption)) ?_
        | with_reducible refine Ok_be (e_isCell (by first | assumption | omega)) ?_
        | with_reducible refine Ok_be (e_oor (by assumption) (by decide) (by decide)) ?_
        | with_reducible refine Ok_be (r_isIn (by first | assumption | omega) (by first | decide | omega) (by first | decide | omega)) ?_
        | with_reducible refine Ok_be (r_bound (by assumption) (by decide) (by decide)) ?_
        | with_reducible refine Ok_be (r_isF (by assumption) (by assumption)) ?_
        | with_reducible refine Ok_be (r_isT (by assumption) (by assumption)) ?_
        | with_reducible refine Ok_be (r_isP (by assumption) (by assumption)) ?_
        | with_reducible refine Ok_be (r_isCell (by first | assumption | omega)) ?_)
    exact Ok_be (r_no 6 (by omega) (by decide) (by decide)) (Ok_ret ⟨rfl, sim_bump s 6⟩)
  repeat (first
      | with_reducible refine Ok_g (by first | assumption | omega) ?_
      | with_reducible refine Ok_lt ?_
      | with_reducible refine Ok_t (by first | assumption | omega) ?_
      | with_reducible refine Ok_f (by first | assumption | omega) ?_
      | with_reducible refine Ok_be (e_hasF (by decide) (by assumption)) ?_
      | with_reducible refine Ok_be (e_hasT (by decide) (by assumption)) ?_
      | with_reducible refine Ok_be (e_hasP (by decide) (by assumption)) ?_
      | with_reducible refine Ok_be (e_isCell (by first | assumption | omega)) ?_
      | with_reducible refine Ok_be (e_oor (by assumption) (by decide) (by decide)) ?_
      | with_reducible refine Ok_be (r_isIn (by first | assumption | omega) (by first | decide | omega) (by first | decide | omega)) ?_
      | with_reducible refine Ok_be (r_bound (by assumption) (by decide) (by decide)) ?_
      | with_reducible refine Ok_be (r_isF (by assumption) (by assumption)) ?_
      | with_reducible refine Ok_be (r_isT (by assumption) (by assumption)) ?_
      | with_reducible refine Ok_be (r_isP (by assumption) (by assumption)) ?_
      | with_reducible refine Ok_be (r_isCell (by first | assumption | omega)) ?_)
  obtain ⟨N, rfl⟩ := Int.eq_ofNat_of_zero_le (show 0 ≤ a by omega)
  refine Ok_bd (e_thinkOn hn s (N := (N : Int)) (by omega)) ?_
  rintro _ M1 ⟨v1, w1, k1, l1, km⟩
  have wb := manyS_b w1
  refine Ok_be (e_owned hn (by decide) w1) ?_
  refine Ok_mono (e_swap_41 (M0 := M) (P := (rd M 0 12).toNat) hn (by omega) s.2.1 (by omega) (rd M 0 12).toNat n 0 (-9, manyS (vw M1 22)) M1 (by omega) (by omega) k1 km (by show -9 ≤ manyS (vw M1 22) ∧ manyS (vw M1 22) ≤ 8 ∧ (-9 : Int) ≤ -9 ∧ (-9 : Int) ≤ 99; omega)) ?_
  rintro r M2 ⟨er, ir, k2, km2⟩
  refine ⟨ir, ?_⟩
  have s2 := sim_KM s k2 km2
  have e0 := vw0_KM km2
  unfold m_X6_swap
  repeat (first
      | with_reducible refine Ok_g (by first | assumption | omega) ?_
      | with_reducible refine Ok_lt ?_
      | with_reducible refine Ok_t (by first | assumption | omega) ?_
      | with_reducible refine Ok_f (by first | assumption | omega) ?_
      | with_reducible refine Ok_be (e_hasF (by decide) (by assumption)) ?_
      | with_reducible refine Ok_be (e_hasT (by decide) (by assumption)) ?_
      | with_reducible refine Ok_be (e_hasP (by decide) (by assumption)) ?_
      | with_reducible refine Ok_be (e_isCell (by first | assumption | omega)) ?_
      | with_reducible refine Ok_be (e_oor (by assumption) (by decide) (by decide)) ?_
      | with_reducible refine Ok_be (r_isIn (by first | assumption | omega) (by first | decide | omega) (by first | decide | omega)) ?_
      | with_reducible refine Ok_be (r_bound (by assumption) (by decide) (by decide)) ?_
      | with_reducible refine Ok_be (r_isF (by assumption) (by assumption)) ?_
      | with_reducible refine Ok_be (r_isT (by assumption) (by assumption)) ?_
      | with_reducible refine Ok_be (r_isP (by assumption) (by assumption)) ?_
      | with_reducible refine Ok_be (r_isCell (by first | assumption | omega)) ?_)
  refine r_mg hn s2 (by omega) ?_
  intro M3 M4 v4 w4 md kx
  refine Ok_be (r_many hn w4) ?_
  refine Ok_bd (r_forgets hn s2 md kx) ?_
  rintro _ M5 ⟨s5, v5, _⟩
  have u5 : vw M5 0 = vw M 0 := by rw [← s5.1, v5, s2.1, e0]
  have e4 : manyS (vw M4 137) = manyS (vw M1 22) := by rw [v4, v1, e0]
  rw [e4]
  refine Ok_mono (r_swap_43 (P := (rd M 0 12).toNat) hn (by omega) s.2.1 (by omega) (rd M 0 12).toNat n 0 (-9, manyS (vw M1 22)) M5 (by omega) (by omega) s5 u5 (by show -9 ≤ manyS (vw M1 22) ∧ manyS (vw M1 22) ≤ 8 ∧ (-9 : Int) ≤ -9 ∧ (-9 : Int) ≤ 99; omega)) ?_
  rintro r' M6 ⟨er', s6⟩
  exact ⟨by rw [er', er], s6⟩
/-! counts of kinds -/
theorem cn_frm (C : Nat → Bool) : ∀ k i (v : Int), frm (fun i v => if C i = true then v + 1 else v) k i v = v + ((cn C k i : Nat) : Int)
  | 0, _, v => by
    show v = v + 0
    omega
  | k + 1, i, v => by
    simp only [frm, cn]
    by_cases h : C i = true
    · rw [if_pos h, if_pos h, cn_frm C k (i + 1)]; omega
    · rw [if_neg h, if_neg h, cn_frm C k (i + 1)]; omega
theorem cn_le (C : Nat → Bool) : ∀ k i, cn C k i ≤ k
  | 0, _ => Nat.le_refl _
  | k + 1, i => by
    have := cn_le C k (i + 1)
    simp only [cn]
    split <;> omega
def atN (u : US) (k N : Nat) (c : Int) : Nat := bs (fun i => decide (u k i = c)) N 0
theorem at_N (u : US) (k : Nat) {N : Nat} (h : N ≤ 8) (c : Int) : atS u k N c = ((atN u k N c : Nat) : Int) ∧ atN u k N c < 256 ∧ pcN 31 (atN u k N c) = cn (fun i => decide (u k i = c)) N 0 := by
  have l := bs_lt (fun i => decide (u k i = c)) N 0
  have : 2 ^ N ≤ 2 ^ 8 := Nat.pow_le_pow_right (by decide) h
  refine ⟨frm_set (by omega), Nat.lt_of_lt_of_le l this, ?_⟩
  unfold atN
  rw [pcN_31 (j := N) (by omega) l, pc_bs]
theorem e_kinds_21 {n : Nat} {M : Mem} {H c : Int} {P : Nat} (wf : WF H (vw M 0)) (hc : I32 c) (hP : rd M 0 12 = P) : ∀ k t (i : Nat) (v : Int), i + k = P → k < t →
    m_X5_kinds_21 n t M c v (i : Int) = some (frm (fun i v => if (fun i => decide (vw M 0 7 i = c)) i = true then v + 1 else v) k i v, M) := by
  have b := sW wf
  intro k
  induction k with
  | zero =>
    intro t i v hi ht
    cases t with
    | zero => omega
    | succ t =>
      refine Ok_eq ?_
      rw [m_X5_kinds_21]
      repeat (first
          | with_reducible refine Ok_g (by first | assumption | omega) ?_
          | with_reducible refine Ok_lt ?_
          | with_reducible refine Ok_t (by first | assumption | omega) ?_
          | with_reducible refine Ok_f (by first | assumption | omega) ?_)
      exact Ok_ret ⟨rfl, rfl⟩
  | succ k ih =>
    intro t i v hi ht
    cases t with
    | zero => omega
    | succ t =>
      have p1 := pW wf (i := i) (by omega)
      simp only [Nat.reduceAdd] at p1
      refine Ok_eq ?_
      rw [m_X5_kinds_21, frm]
      simp only [Int.toNat_natCast, decide_eq_true_eq]
      rw [p1.1.1]
      repeat (first
          | with_reducible refine Ok_g (by first | assumption | omega) ?_
          | with_reducible refine Ok_lt ?_
          | with_reducible refine Ok_t (by first | assumption | omega) ?_
          | with_reducible refine Ok_f (by first | assumption | omega) ?_)
      have ih' := ih t (i + 1)
      simp only [decide_eq_true_eq] at ih'
      refine Ok_if (fun g => ?_) (fun g => ?_)
      · rw [if_pos g]
        exact Ok_of (ih' _ (by omega) (by omega)) ⟨rfl, rfl⟩
      · rw [if_neg g]
        exact Ok_of (ih' _ (by omega) (by omega)) ⟨rfl, rfl⟩
theorem q_kinds {n : Nat} {M : Mem} {a : Int} (hn : 2000 ≤ n) (s : Sim M) (ha : I32 a) : Agr (m_X5_kinds n M a) (fun M1 => m_X6_kinds n M1 a) := by
  obtain ⟨wf0, vv0, rf0⟩ := sim_rf s (M1 := M) (fun _ _ _ => rfl)
  unfold Agr m_X5_kinds m_X5_kinds_10
  by_cases h0 : a < 0
  · repeat (first
        | with_reducible refine Ok_g (by first | assumption | omega) ?_
        | with_reducible refine Ok_lt ?_
        | with_reducible refine Ok_t (by first | assumption | omega) ?_
        | with_reducible refine Ok_f (by first | assumption | omega) ?_
        | with_reducible refine Ok_be (e_hasF (by decide) (by assumption)) ?_
        | with_reducible refine Ok_be (e_hasT (by decide) (by assumption)) ?_
        | with_reducible refine Ok_be (e_hasP (by decide) (by assumption)) ?_
        | with_reducible refine Ok_be (e_isCell (by first | assumption | omega)) ?_
        | with_reducible refine Ok_be (e_oor (by assumption) (by decide) (by decide)) ?_
        | with_reducible refine Ok_be (r_isIn (by first | assumption | omega) (by first | decide | omega) (by first | decide | omega)) ?_
        | with_reducible refine Ok_be (r_bound (by assumption) (by decide) (by decide)) ?_
        | with_reducible refine Ok_be (r_isF (by assumption) (by assumption)) ?_
        | with_reducible refine Ok_be (r_isT (by assumption) (by assumption)) ?_
        | with_reducible refine Ok_be (r_isP (by assumption) (by assumption)) ?_
        | with_reducible refine Ok_be (r_isCell (by first | assumption | omega)) ?_)
    refine Ok_be (e_refuse 2 (by omega) (by decide) (by decide)) (Ok_ret ⟨by decide, ?_⟩)
    obtain ⟨wf1, rf1, rf2⟩ := sim_rf s (M1 := bump 134 M 2) (fun q i h => bump_ne (by omega))
    unfold m_X6_kinds
    repeat (first
        | with_reducible refine Ok_g (by first | assumption | omega) ?_
        | with_reducible refine Ok_lt ?_
        | with_reducible refine Ok_t (by first | assumption | omega) ?_
        | with_reducible refine Ok_f (by first | assumption | omega) ?_
        | with_reducible refine Ok_be (e_hasF (by decide) (by assumption)) ?_
        | with_reducible refine Ok_be (e_hasT (by decide) (by assumption)) ?_
        | with_reducible refine Ok_be (e_hasP (by decide) (by assumption)) ?_
        | with_reducible refine Ok_be (e_isCell (by first | assumption | omega)) ?_
        | with_reducible refine Ok_be (e_oor (by assumption) (by decide) (by decide)) ?_
        | with_reducible refine Ok_be (r_isIn (by first | assumption | omega) (by first | decide | omega) (by first | decide | omega)) ?_
        | with_reducible refine Ok_be (r_bound (by assumption) (by decide) (by decide)) ?_
        | with_reducible refine Ok_be (r_isF (by assumption) (by assumption)) ?_
        | with_reducible refine Ok_be (r_isT (by assumption) (by assumption)) ?_
        | with_reducible refine Ok_be (r_isP (by assumption) (by assumption)) ?_
        | with_reducible refine Ok_be (r_isCell (by first | assumption | omega)) ?_)
    exact Ok_be (r_no 2 (by omega) (by decide) (by decide)) (Ok_ret ⟨rfl, sim_bump s 2⟩)
  by_cases h8 : 8 ≤ a
  · repeat (first
        | with_reducible refine Ok_g (by first | assumption | omega) ?_
        | with_reducible refine Ok_lt ?_
        | with_reducible refine Ok_t (by first | assumption | omega) ?_
        | with_reducible refine Ok_f (by first | assumption | omega) ?_
        | with_reducible refine Ok_be (e_hasF (by decide) (by assumption)) ?_
        | with_reducible refine Ok_be (e_hasT (by decide) (by assumption)) ?_
        | with_reducible refine Ok_be (e_hasP (by decide) (by assumption)) ?_
        | with_reducible refine Ok_be (e_isCell (by first | assumption | omega)) ?_
        | with_reducible refine Ok_be (e_oor (by assumption) (by decide) (by decide)) ?_
        | with_reducible refine Ok_be (r_isIn (by first | assumption | omega) (by first | decide | omega) (by first | decide | omega)) ?_
        | with_reducible refine Ok_be (r_bound (by assumption) (by decide) (by decide)) ?_
        | with_reducible refine Ok_be (r_isF (by assumption) (by assumption)) ?_
        | with_reducible refine Ok_be (r_isT (by assumption) (by assumption)) ?_
        | with_reducible refine Ok_be (r_isP (by assumption) (by assumption)) ?_
        | with_reducible refine Ok_be (r_isCell (by first | assumption | omega)) ?_)
    refine Ok_be (e_refuse 2 (by omega) (by decide) (by decide)) (Ok_ret ⟨by decide, ?_⟩)
    obtain ⟨wf1, rf1, rf2⟩ := sim_rf s (M1 := bump 134 M 2) (fun q i h => bump_ne (by omega))
    unfold m_X6_kinds
    repeat (first
        | with_reducible refine Ok_g (by first | assumption | omega) ?_
        | with_reducible refine Ok_lt ?_
        | with_reducible refine Ok_t (by first | assumption | omega) ?_
        | with_reducible refine Ok_f (by first | assumption | omega) ?_
        | with_reducible refine Ok_be (e_hasF (by decide) (by assumption)) ?_
        | with_reducible refine Ok_be (e_hasT (by decide) (by assumption)) ?_
        | with_reducible refine Ok_be (e_hasP (by decide) (by assumption)) ?_
        | with_reducible refine Ok_be (e_isCell (by first | assumption | omega)) ?_
        | with_reducible refine Ok_be (e_oor (by assumption) (by decide) (by decide)) ?_
        | with_reducible refine Ok_be (r_isIn (by first | assumption | omega) (by first | decide | omega) (by first | decide | omega)) ?_
        | with_reducible refine Ok_be (r_bound (by assumption) (by decide) (by decide)) ?_
        | with_reducible refine Ok_be (r_isF (by assumption) (by assumption)) ?_
        | with_reducible refine Ok_be (r_isT (by assumption) (by assumption)) ?_
        | with_reducible refine Ok_be (r_isP (by assumption) (by assumption)) ?_
        | with_reducible refine Ok_be (r_isCell (by first | assumption | omega)) ?_)
    exact Ok_be (r_no 2 (by omega) (by decide) (by decide)) (Ok_ret ⟨rfl, sim_bump s 2⟩)
  repeat (first
      | with_reducible refine Ok_g (by first | assumption | omega) ?_
      | with_reducible refine Ok_lt ?_
      | with_reducible refine Ok_t (by first | assumption | omega) ?_
      | with_reducible refine Ok_f (by first | assumption | omega) ?_)
  have l := cn_le (fun i => decide (vw M 0 7 i = a)) (rd M 0 12).toNat 0
  refine Ok_of (e_kinds_21 (P := (rd M 0 12).toNat) s.2.1 ha (by omega) (rd M 0 12).toNat n 0 0 (by omega) (by omega)) ⟨by rw [cn_frm]; omega, ?_⟩
  unfold m_X6_kinds
  repeat (first
      | with_reducible refine Ok_g (by first | assumption | omega) ?_
      | with_reducible refine Ok_lt ?_
      | with_reducible refine Ok_t (by first | assumption | omega) ?_
      | with_reducible refine Ok_f (by first | assumption | omega) ?_
      | with_reducible refine Ok_be (e_hasF (by decide) (by assumption)) ?_
      | with_reducible refine Ok_be (e_hasT (by decide) (by assumption)) ?_
      | with_reducible refine Ok_be (e_hasP (by decide) (by assumption)) ?_
      | with_reducible refine Ok_be (e_isCell (by first | assumption | omega)) ?_
      | with_reducible refine Ok_be (e_oor (by assumption) (by decide) (by decide)) ?_
      | with_reducible refine Ok_be (r_isIn (by first | assumption | omega) (by first | decide | omega) (by first | decide | omega)) ?_
      | with_reducible refine Ok_be (r_bound (by assumption) (by decide) (by decide)) ?_
      | with_reducible refine Ok_be (r_isF (by assumption) (by assumption)) ?_
      | with_reducible refine Ok_be (r_isT (by assumption) (by assumption)) ?_
      | with_reducible refine Ok_be (r_isP (by assumption) (by assumption)) ?_
      | with_reducible refine Ok_be (r_isCell (by first | assumption | omega)) ?_)
  obtain ⟨e1, e2, e3⟩ := at_N (vw M 0) 7 (N := (rd M 0 12).toNat) (by omega) a
  refine Ok_be (r_setAt (k0 := 7) hn rfl (by decide) (by decide) (by decide) ha (by omega) (by show _ ≤ ((5 : Nat) : Int); omega) (by omega)) ?_
  rw [vv0, show (rd M 137 12).toNat = (rd M 0 12).toNat by omega, e1]
  refine Ok_be (r_bits hn (by omega)) (Ok_ret ⟨?_, s⟩)
  rw [e3, cn_frm]
  omega
