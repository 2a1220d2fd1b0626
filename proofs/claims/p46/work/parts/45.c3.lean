/-! the first side's coast gone on in mind -/
theorem rd_ups (M : Mem) (q i : Nat) {v : Int} (hv : I32 v) : rd (mup M q i v) q i = v := by
  rw [rd_up _ _ _ _ _ hv, if_pos ⟨rfl, rfl⟩]
theorem rd_upr (M M' : Mem) (q i a b : Nat) : rd (mup M q i (rd M' a b)) q i = rd M' a b := rd_ups M q i (rd_rng M' a b)
theorem v22k (M : Mem) : vw M 22 0 20 = rd M 129 3 := rfl
theorem v22s (M : Mem) : vw M 22 0 21 = rd M 129 4 := rfl
def Lk (M : Mem) : Prop := 0 ≤ rd M 129 2 ∧ rd M 129 2 ≤ 1512 ∧ ∀ c : Nat, c < 24 → rd M 125 ((rd M 129 2).toNat + c) = airS (vw M 22) c (rd M 22 13)
theorem SameF_refl (u : US) : SameF u u := ⟨rfl, fun _ _ => ⟨rfl, rfl, rfl⟩⟩
theorem SameF_of {u u' : US} (h : ∀ k i, k ≠ 6 → k ≠ 10 → ¬ (k = 0 ∧ i = 13) → u k i = u' k i) : SameF u u' := ⟨h 0 3 (by decide) (by decide) (by omega), fun i _ => ⟨h 1 i (by decide) (by decide) (by omega), h 2 i (by decide) (by decide) (by omega), h 3 i (by decide) (by decide) (by omega)⟩⟩
theorem Lk_keep {M M' : Mem} (h : Lk M) (h1 : ∀ i, M' 125 i = M 125 i) (h2 : M' 129 2 = M 129 2) (h3 : M' 22 13 = M 22 13) (h4 : SameF (vw M' 22) (vw M 22)) : Lk M' := by
  unfold Lk
  rw [rd_of h2, rd_of h3]
  refine ⟨h.1, h.2.1, fun c hc => ?_⟩
  rw [rd_of (h1 _), h.2.2 c hc, airS_sf h4]
theorem SkyOk_keep {M M' : Mem} (h : SkyOk M) (h1 : ∀ q i, 121 ≤ q → q ≤ 126 → M' q i = M q i) : SkyOk M' := by
  have e : sv M' = sv M := sv_congr (h1 _ _ (by decide) (by decide)) (fun q i a b => h1 q i (by omega) (by omega))
  unfold SkyOk
  rw [e]
  refine ⟨h.1, fun s hs => ?_⟩
  rw [rd_of (h1 126 s (by decide) (by decide))]
  refine (h.2 s hs).imp id ?_
  rintro ⟨a, b, c⟩
  exact ⟨a, b, fun j hj => by rw [rd_of (h1 125 _ (by decide) (by decide))]; exact c j hj⟩
theorem e_look {n : Nat} {M : Mem} {H : Int} (hn : 2000 ≤ n) (sk : SkyOk M) (wf : WF H (vw M 22)) (hH : H ≤ 1000000) :
    Ok (m_X0_look n M) (fun _ M' => SkyOk M' ∧ Lk M' ∧ vw M' 22 = vw M 22 ∧ ∀ q i, (q < 121 ∨ 128 < q) → (q = 129 → i ≠ 2) → M' q i = M q i) := by
  have b := sW wf
  unfold m_X0_look
  refine Ok_bd (e_rowOf hn (by decide) sk wf b.2.2.2.2.1.1 (by omega)) ?_
  rintro r M1 ⟨r0, r1, s1, a1, f1⟩
  refine Ok_wr (Ok_ret ?_)
  have fr : ∀ q i, (q < 121 ∨ 128 < q) → (q = 129 → i ≠ 2) → mup M1 129 2 r q i = M q i := by
    intro q i h1 h2
    show (if q = 129 ∧ i = 2 then _ else _) = _
    rw [if_neg (by omega), f1 q i h1]
  have e : vw (mup M1 129 2 r) 22 = vw M 22 := vw_congr (fun i _ => fr _ _ (by omega) (by omega)) (fun k i _ _ => fr _ _ (by omega) (by omega)) (fun _ => ⟨fr _ _ (by omega) (by omega), fr _ _ (by omega) (by omega)⟩) (fun z => absurd z (by decide))
  refine ⟨SkyOk_keep s1 (fun q i _ _ => by rw [mup_ne _ (by omega)]), ?_, e, fr⟩
  unfold Lk
  rw [rd_ups _ _ _ (by omega), e, rd_of (fr 22 13 (by decide) (by omega))]
  exact ⟨r0, r1, fun c hc => by rw [rd_upne _ _ _ _ _ _ (by omega)]; exact a1 c hc⟩
theorem e_become {n : Nat} {M : Mem} {w w' : Nat} (hw : isW w) (hw' : isW w') (hne : w ≠ w') :
    Ok (m_X4_become n M w w') (fun _ M' => (∀ k i, vw M' w k i = if k = 0 ∧ (i = 20 ∨ i = 21) then vw M w k i else vw M w' k i) ∧ ∀ q i, (q < w ∨ w + 10 < q) → M' q i = M q i) := by
  unfold m_X4_become
  refine Ok_g hw (Ok_g hw' ?_)
  refine Ok_cpw (Ok_cpw (Ok_cpw (Ok_wr (Ok_cpw (Ok_cpw (Ok_cpw (Ok_wr (Ok_cpw (Ok_cpw (Ok_cpw (Ok_cpw (Ok_wr (Ok_wr (Ok_wr (Ok_ret ?_)))))))))))))))
  refine ⟨?_, ?_⟩
  · intro k i
    by_cases k0 : k = 0
    · subst k0
      by_cases c : i = 3 ∨ i = 7 ∨ i = 12 ∨ i = 13 ∨ i = 14
      · rw [if_neg (by omega), vw_s c, vw_s c]
        rcases c with rfl | rfl | rfl | rfl | rfl
        · simp (disch := omega) only [rd_upne, rd_cpn, rd_upr]
        · simp (disch := omega) only [rd_upne, rd_cpn, rd_upr]
        · simp (disch := omega) only [rd_upne, rd_cpn, rd_upr]
        · simp (disch := omega) only [rd_upne, rd_cpn, rd_upr]
        · simp (disch := omega) only [rd_upne, rd_cpn, rd_upr]
      · by_cases d : i = 20 ∨ i = 21
        · rw [if_pos ⟨rfl, d⟩]
          show vs _ _ _ = vs _ _ _
          unfold vs
          rw [if_neg c, if_neg c]
          have w3 : w ≠ 137 := by omega
          simp (disch := omega) only [rd_upne, rd_cpn, if_neg w3]
        · rw [if_neg (by omega)]
          show vs _ _ _ = vs _ _ _
          unfold vs
          rw [if_neg c, if_neg c, if_neg (by omega), if_neg (by omega), if_neg (by omega), if_neg (by omega)]
    · rw [if_neg (by omega)]
      by_cases k6 : k = 6
      · subst k6
        show (if i < 8 then _ else _) = (if i < 8 then _ else _)
        by_cases i8 : i < 8
        · rw [if_pos i8, if_pos i8, ow_n (by omega), ow_n (by omega)]
          simp (disch := omega) only [rd_upne, rd_cpn, rd_cp0]
        · rw [if_neg i8, if_neg i8]
      · unfold vw
        rw [if_neg k0, if_neg k0, if_neg k6, if_neg k6]
        by_cases c : i < lnk k
        · rw [if_pos c, if_pos c]
          have : k = 1 ∨ k = 2 ∨ k = 3 ∨ k = 4 ∨ k = 5 ∨ k = 7 ∨ k = 8 ∨ k = 9 ∨ k = 10 ∨ 10 < k := by omega
          rcases this with rfl | rfl | rfl | rfl | rfl | rfl | rfl | rfl | rfl | h
          iterate 3 (have c' : i < 6 := c; simp (disch := omega) only [rd_upne, rd_cpn, rd_cp0])
          iterate 2 (have c' : i < 8 := c; simp (disch := omega) only [rd_upne, rd_cpn, rd_cp0])
          iterate 4 (have c' : i < 5 := c; simp (disch := omega) only [rd_upne, rd_cpn, rd_cp0])
          unfold lnk at c
          rw [if_neg (by omega), if_neg (by omega), if_neg (by omega)] at c
          omega
        · rw [if_neg c, if_neg c]
  · intro q i hq
    simp (disch := omega) only [mup_ne, mcp_ne]
theorem e_begin {n : Nat} {M : Mem} {H : Int} (hn : 2000 ≤ n) (sk : SkyOk M) (wf : WF H (vw M 0)) (hH : H ≤ 1000000) :
    Ok (m_X0_begin n M 0) (fun _ M' => vw M' 22 = vw M 0 ∧ SkyOk M' ∧ Lk M' ∧ ∀ q i, (q < 22 ∨ (32 < q ∧ q < 121) ∨ 129 < q) → M' q i = M q i) := by
  unfold m_X0_begin
  refine Ok_g (by decide) ?_
  refine Ok_bd (e_become (w := 22) (w' := 0) (by decide) (by decide) (by decide)) ?_
  rintro _ M1 ⟨b1, f1⟩
  refine Ok_wr (Ok_wr ?_)
  have e : vw (mup (mup M1 129 3 (-1)) 129 4 0) 22 = vw M 0 := by
    funext k i
    by_cases k0 : k = 0
    · subst k0
      by_cases c : i = 3 ∨ i = 7 ∨ i = 12 ∨ i = 13 ∨ i = 14
      · have := b1 0 i
        rw [if_neg (by omega)] at this
        rw [← this, vw_s c, vw_s c, rd_upne _ _ _ _ _ _ (by omega), rd_upne _ _ _ _ _ _ (by omega)]
      · show vs _ _ _ = vs _ _ _
        unfold vs
        have e3 : rd (mup (mup M1 129 3 (-1)) 129 4 0) 129 3 = -1 := by rw [rd_upne _ _ _ _ _ _ (by omega), rd_ups _ _ _ (by decide)]
        have e4 : rd (mup (mup M1 129 3 (-1)) 129 4 0) 129 4 = 0 := by rw [rd_ups _ _ _ (by decide)]
        rw [if_neg c, if_neg c]
        simp [e3, e4]
    · have := b1 k i
      rw [if_neg (by omega)] at this
      rw [← this]
      unfold vw
      rw [if_neg k0, if_neg k0]
      by_cases k6 : k = 6
      · rw [if_pos k6, if_pos k6, rd_upne _ _ _ _ _ _ (by omega), rd_upne _ _ _ _ _ _ (by omega)]
      · rw [if_neg k6, if_neg k6]
        by_cases c : i < lnk k
        · have k10 : k ≤ 10 := by
            unfold lnk at c
            by_cases q : k ≤ 10
            · exact q
            · rw [if_neg (by omega), if_neg (by omega), if_neg (by omega)] at c; omega
          rw [if_pos c, if_pos c, rd_upne _ _ _ _ _ _ (by omega), rd_upne _ _ _ _ _ _ (by omega)]
        · rw [if_neg c, if_neg c]
  have fr : ∀ q i, (q < 22 ∨ (32 < q ∧ q < 129) ∨ 129 < q) → mup (mup M1 129 3 (-1)) 129 4 0 q i = M q i := by
    intro q i hq
    rw [mup_ne _ (by omega), mup_ne _ (by omega), f1 q i (by omega)]
  refine Ok_bd (e_look (H := H) hn (SkyOk_keep sk (fun q i _ _ => fr q i (by omega))) (by rw [e]; exact wf) hH) ?_
  rintro _ M2 ⟨s2, l2, v2, f2⟩
  exact Ok_ret ⟨by rw [v2, e], s2, l2, fun q i hq => by rw [f2 q i (by omega) (by omega), fr q i (by omega)]⟩
theorem e_airOn {n : Nat} {M : Mem} {c : Int} (lk : Lk M) (hc : 0 ≤ c ∧ c ≤ 23) : m_X0_airOn n M c = some (airOS (vw M 22) c (vw M 22 0 13), M) := by
  refine Ok_eq ?_
  unfold m_X0_airOn airOS
  have l1 := lk.1
  have l2 := lk.2.1
  rw [v22s, vw_s (by omega)]
  refine Ok_if (fun g => ?_) (fun g => ?_)
  · rw [if_pos g]
    repeat (first
        | with_reducible refine Ok_g (by first | assumption | omega) ?_
        | with_reducible refine Ok_lt ?_
        | with_reducible refine Ok_t (by first | assumption | omega) ?_
        | with_reducible refine Ok_f (by first | assumption | omega) ?_)
    refine Ok_ret ⟨?_, rfl⟩
    have := lk.2.2 c.toNat (by omega)
    rw [show (rd M 129 2 + c).toNat = (rd M 129 2).toNat + c.toNat by omega, this, show ((c.toNat : Nat) : Int) = c by omega]
  · rw [if_neg g]
    exact Ok_ret ⟨rfl, rfl⟩
theorem e_fogOn_21 {n : Nat} {M : Mem} {H c : Int} {P : Nat} (wf : WF H (vw M 22)) (hP : rd M 22 12 = P) (hc : 0 ≤ c ∧ c ≤ 23) : ∀ k t i v, i + k = P → k < t → 0 ≤ v ∧ v ≤ 9 →
    m_X0_fogOn_21 n t M c v (i : Int) = some (frm (fun p v => if vw M 22 10 p = c then mx v (steamS (vw M 22 7 p) (vw M 22 8 p)) else v) k i v, M) := by
  have b := sW wf
  intro k
  induction k with
  | zero =>
    intro t i v hi ht hv
    cases t with
    | zero => omega
    | succ t =>
      refine Ok_eq ?_
      rw [m_X0_fogOn_21]
      repeat (first
          | with_reducible refine Ok_g (by first | assumption | omega) ?_
          | with_reducible refine Ok_lt ?_
          | with_reducible refine Ok_t (by first | assumption | omega) ?_
          | with_reducible refine Ok_f (by first | assumption | omega) ?_)
      exact Ok_ret ⟨rfl, rfl⟩
  | succ k ih =>
    intro t i v hi ht hv
    cases t with
    | zero => omega
    | succ t =>
      have p := pW wf (i := i) (by omega)
      simp only [Nat.reduceAdd] at p
      refine Ok_eq ?_
      rw [m_X0_fogOn_21]
      simp only [Int.toNat_natCast]
      rw [frm, p.1.1, p.1.2.1, p.1.2.2.2]
      repeat (first
          | with_reducible refine Ok_g (by first | assumption | omega) ?_
          | with_reducible refine Ok_lt ?_
          | with_reducible refine Ok_t (by first | assumption | omega) ?_
          | with_reducible refine Ok_f (by first | assumption | omega) ?_)
      refine Ok_if (fun g => ?_) (fun g => ?_)
      · rw [if_pos g]
        have s := steamS_b (k := rd M 29 i) p.2.2.1
        refine Ok_be (e_X1_steam (rd_rng _ _ _) p.2.2.1) ?_
        repeat (first
            | with_reducible refine Ok_g (by first | assumption | omega) ?_
            | with_reducible refine Ok_lt ?_
            | with_reducible refine Ok_t (by first | assumption | omega) ?_
            | with_reducible refine Ok_f (by first | assumption | omega) ?_)
        rw [show mxZ v (steamS (rd M 29 i) (rd M 30 i)) = mx v (steamS (rd M 29 i) (rd M 30 i)) by unfold mxZ mx; omega]
        exact Ok_of (ih t (i + 1) _ (by omega) (by omega) (mx_b hv s)) ⟨rfl, rfl⟩
      · rw [if_neg g]
        exact Ok_of (ih t (i + 1) _ (by omega) (by omega) hv) ⟨rfl, rfl⟩
theorem e_fogOn {n : Nat} {M : Mem} {H c : Int} (hn : 2000 ≤ n) (wf : WF H (vw M 22)) (lk : Lk M) (hc : 0 ≤ c ∧ c ≤ 23) : m_X0_fogOn n M c = some (fogS (vw M 22) c, M) := by
  have b := sW wf
  have a := airOS_b wf c (vw M 22 0 13)
  have go : ∀ v, 0 ≤ v ∧ v ≤ 9 → m_X0_fogOn_18 n M c v = some (frm (fun p v => if vw M 22 10 p = c then mx v (steamS (vw M 22 7 p) (vw M 22 8 p)) else v) (vw M 22 0 12).toNat 0 v, M) := by
    intro v hv
    unfold m_X0_fogOn_18
    rw [b.1.2.2.1]
    exact e_fogOn_21 (P := (rd M 22 12).toNat) wf (by omega) hc _ n 0 v (by omega) (by omega) hv
  refine Ok_eq ?_
  unfold m_X0_fogOn fogS
  rw [v22k]
  repeat (first
      | with_reducible refine Ok_g (by first | assumption | omega) ?_
      | with_reducible refine Ok_lt ?_
      | with_reducible refine Ok_t (by first | assumption | omega) ?_
      | with_reducible refine Ok_f (by first | assumption | omega) ?_)
  refine Ok_if (fun g => ?_) (fun g => ?_)
  · rw [if_pos g.symm]
    exact Ok_of (go 9 (by omega)) ⟨rfl, rfl⟩
  · rw [if_neg (fun z => g z.symm)]
    refine Ok_be (e_airOn lk hc) ?_
    exact Ok_of (go _ a) ⟨rfl, rfl⟩
theorem e_isInFog {n : Nat} {M : Mem} {H c : Int} (hn : 2000 ≤ n) (wf : WF H (vw M 22)) (lk : Lk M) (hc : 0 ≤ c ∧ c ≤ 23) : m_X0_isInFog n M c = some (if vw M 22 0 14 ≤ fogS (vw M 22) c then 1 else 0, M) := by
  have f := fogS_b wf c
  refine Ok_eq ?_
  unfold m_X0_isInFog
  rw [vw_s (by omega)]
  refine Ok_be (e_fogOn hn wf lk hc) ?_
  repeat (first
      | with_reducible refine Ok_g (by first | assumption | omega) ?_
      | with_reducible refine Ok_lt ?_
      | with_reducible refine Ok_t (by first | assumption | omega) ?_
      | with_reducible refine Ok_f (by first | assumption | omega) ?_)
  refine Ok_if (fun g => ?_) (fun g => ?_)
  · exact Ok_ret ⟨by rw [if_neg (by omega)], rfl⟩
  · exact Ok_ret ⟨by rw [if_pos (by omega)], rfl⟩
theorem e_foggyCells_4 {n : Nat} {M : Mem} {H : Int} (hn : 2000 ≤ n) (wf : WF H (vw M 22)) (lk : Lk M) : ∀ k t (i : Nat) v, i + k = 24 → k < t →
    m_X0_foggyCells_4 n t M v (i : Int) = some (frm (fun c s => if vw M 22 0 14 ≤ fogS (vw M 22) c then bOr s (bShl 1 c) else s) k i v, M) := by
  intro k
  induction k with
  | zero =>
    intro t i v hi ht
    cases t with
    | zero => omega
    | succ t =>
      refine Ok_eq ?_
      rw [m_X0_foggyCells_4]
      repeat (first
          | with_reducible refine Ok_g (by first | assumption | omega) ?_
          | with_reducible refine Ok_lt ?_
          | with_reducible refine Ok_t (by first | assumption | omega) ?_
          | with_reducible refine Ok_f (by first | assumption | omega) ?_)
      exact Ok_ret ⟨rfl, rfl⟩
  | succ k ih =>
    intro t i v hi ht
    cases t with
    | zero => omega
    | succ t =>
      refine Ok_eq ?_
      rw [m_X0_foggyCells_4, frm]
      repeat (first
          | with_reducible refine Ok_g (by first | assumption | omega) ?_
          | with_reducible refine Ok_lt ?_
          | with_reducible refine Ok_t (by first | assumption | omega) ?_
          | with_reducible refine Ok_f (by first | assumption | omega) ?_)
      refine Ok_be (e_isInFog hn wf lk (by omega)) ?_
      by_cases g : vw M 22 0 14 ≤ fogS (vw M 22) i
      · rw [if_pos g, if_pos g]
        repeat (first
            | with_reducible refine Ok_g (by first | assumption | omega) ?_
            | with_reducible refine Ok_lt ?_
            | with_reducible refine Ok_t (by first | assumption | omega) ?_
            | with_reducible refine Ok_f (by first | assumption | omega) ?_)
        exact Ok_of (ih t (i + 1) _ (by omega) (by omega)) ⟨rfl, rfl⟩
      · rw [if_neg g, if_neg g]
        repeat (first
            | with_reducible refine Ok_g (by first | assumption | omega) ?_
            | with_reducible refine Ok_lt ?_
            | with_reducible refine Ok_t (by first | assumption | omega) ?_
            | with_reducible refine Ok_f (by first | assumption | omega) ?_)
        exact Ok_of (ih t (i + 1) _ (by omega) (by omega)) ⟨rfl, rfl⟩
theorem e_foggyCells {n : Nat} {M : Mem} {H : Int} (hn : 2000 ≤ n) (wf : WF H (vw M 22)) (lk : Lk M) : m_X0_foggyCells n M = some (cellsS (vw M 22), M) := e_foggyCells_4 hn wf lk 24 n 0 0 (by omega) (by omega)
/-- a write to an owner keeps the air -/
theorem Lk_28 {M : Mem} {t : Nat} {v : Int} (lk : Lk M) (e : vw (mup M 28 t v) 22 = uset (vw M 22) 6 t v) : Lk (mup M 28 t v) := by
  refine Lk_keep lk (fun i => by rw [mup_ne _ (by decide)]) (by rw [mup_ne _ (by decide)]) (by rw [mup_ne _ (by decide)]) ?_
  rw [e]
  exact SameF_of (fun k i h _ _ => uset_nk _ _ h)
theorem e_drop_2 {n : Nat} {H : Int} (hn : 2000 ≤ n) : ∀ k t (i : Nat) M, rd M 22 7 = ((i + k : Nat) : Int) → k < t → WF H (vw M 22) → Lk M →
    Ok (m_X0_dropInTheClear_2 n t M (i : Int)) (fun _ M' => vw M' 22 = frm (fun t u => if u 0 14 ≤ fogS u (u 5 t) then u else uset u 6 t (-1)) k i (vw M 22) ∧ ∀ q j, q ≠ 28 → M' q j = M q j) := by
  intro k
  induction k with
  | zero =>
    intro t i M hi ht wf lk
    cases t with
    | zero => omega
    | succ t =>
      have b := sW wf
      rw [m_X0_dropInTheClear_2]
      repeat (first
          | with_reducible refine Ok_g (by first | assumption | omega) ?_
          | with_reducible refine Ok_lt ?_
          | with_reducible refine Ok_t (by first | assumption | omega) ?_
          | with_reducible refine Ok_f (by first | assumption | omega) ?_)
      exact Ok_ret ⟨rfl, fun _ _ _ => rfl⟩
  | succ k ih =>
    intro t i M hi ht wf lk
    cases t with
    | zero => omega
    | succ t =>
      have b := sW wf
      have p := tW (by decide) wf (i := i) (by omega)
      simp only [Nat.reduceAdd] at p
      rw [m_X0_dropInTheClear_2, frm]
      simp only [Int.toNat_natCast]
      repeat (first
          | with_reducible refine Ok_g (by first | assumption | omega) ?_
          | with_reducible refine Ok_lt ?_
          | with_reducible refine Ok_t (by first | assumption | omega) ?_
          | with_reducible refine Ok_f (by first | assumption | omega) ?_)
      refine Ok_be (e_isInFog hn wf lk p.2.2.1) ?_
      rw [p.1.2.1]
      by_cases g : vw M 22 0 14 ≤ fogS (vw M 22) (rd M 27 i)
      · rw [if_pos g, if_pos g]
        repeat (first
            | with_reducible refine Ok_g (by first | assumption | omega) ?_
            | with_reducible refine Ok_lt ?_
            | with_reducible refine Ok_t (by first | assumption | omega) ?_
            | with_reducible refine Ok_f (by first | assumption | omega) ?_)
        exact ih t (i + 1) M (by omega) (by omega) wf lk
      · rw [if_neg g, if_neg g]
        repeat (first
            | with_reducible refine Ok_g (by first | assumption | omega) ?_
            | with_reducible refine Ok_lt ?_
            | with_reducible refine Ok_wr ?_
            | with_reducible refine Ok_t (by first | assumption | omega) ?_
            | with_reducible refine Ok_f (by first | assumption | omega) ?_)
        have e : vw (mup M 28 i (-1)) 22 = uset (vw M 22) 6 i (-1) := vw_set (w := 22) (k := 6) (by decide) (by decide) (by decide) (by decide) (show i < 8 by omega)
        refine Ok_mono (ih t (i + 1) _ (by rw [rd_upne _ _ _ _ _ _ (by omega)]; omega) (by omega) (by rw [e]; exact WF_set wf 6 i (Int.le_refl (-1)) (show (-1 : Int) ≤ 4 by decide)) (Lk_28 lk e)) ?_
        rintro _ M' ⟨v1, f1⟩
        exact ⟨by rw [v1, e], fun q j h => by rw [f1 q j h, mup_ne _ h]⟩
theorem e_drop {n : Nat} {H : Int} {M : Mem} (hn : 2000 ≤ n) (wf : WF H (vw M 22)) (lk : Lk M) : Ok (m_X0_dropInTheClear n M) (fun _ M' => vw M' 22 = dropS (vw M 22) ∧ ∀ q j, q ≠ 28 → M' q j = M q j) := by
  have b := sW wf
  unfold m_X0_dropInTheClear dropS
  rw [b.1.2.1]
  exact e_drop_2 hn (rd M 22 7).toNat n 0 M (by omega) (by omega) wf lk
