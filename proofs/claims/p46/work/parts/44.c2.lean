/-! the first side's sky keeps what it told -/
theorem rd_cp (M : Mem) (q0 sp q1 dp n a b : Nat) : rd (mcp M q0 sp q1 dp n) a b = if a = q1 ∧ dp ≤ b ∧ b < dp + n then rd M q0 (sp + (b - dp)) else rd M a b := by
  show (if a = q1 ∧ dp ≤ b ∧ b < dp + n then M q0 (sp + (b - dp)) else M a b).toInt = _
  by_cases h : a = q1 ∧ dp ≤ b ∧ b < dp + n
  · rw [if_pos h, if_pos h]; rfl
  · rw [if_neg h, if_neg h]; rfl
theorem rd_cpn (M : Mem) (q0 sp q1 dp n a b : Nat) (h : a ≠ q1) : rd (mcp M q0 sp q1 dp n) a b = rd M a b := by
  rw [rd_cp, if_neg (fun z => h z.1)]
theorem rd_cp0 (M : Mem) (q0 q1 : Nat) (n : Int) (b : Nat) (h : (b : Int) < n) : rd (mcp M q0 (Int.toNat 0) q1 (Int.toNat 0) (Int.toNat n)) q1 b = rd M q0 b := by
  rw [rd_cp, if_pos ⟨rfl, Nat.zero_le _, by rw [show Int.toNat 0 = 0 from rfl]; omega⟩, show Int.toNat 0 + (b - Int.toNat 0) = b by rw [show Int.toNat 0 = 0 from rfl]; omega]
theorem vw_1 (M : Mem) (w : Nat) {i : Nat} (h : i < 6) : vw M w 1 i = rd M (w + 1) i := vw_a (by decide) (by decide) h
theorem vw_2 (M : Mem) (w : Nat) {i : Nat} (h : i < 6) : vw M w 2 i = rd M (w + 2) i := vw_a (by decide) (by decide) h
theorem vw_3 (M : Mem) (w : Nat) {i : Nat} (h : i < 6) : vw M w 3 i = rd M (w + 3) i := vw_a (by decide) (by decide) h
theorem vw_4 (M : Mem) (w : Nat) {i : Nat} (h : i < 8) : vw M w 4 i = rd M (w + 4) i := vw_a (by decide) (by decide) h
theorem vw_5 (M : Mem) (w : Nat) {i : Nat} (h : i < 8) : vw M w 5 i = rd M (w + 5) i := vw_a (by decide) (by decide) h
theorem vw_7 (M : Mem) (w : Nat) {i : Nat} (h : i < 5) : vw M w 7 i = rd M (w + 7) i := vw_a (by decide) (by decide) h
theorem vw_8 (M : Mem) (w : Nat) {i : Nat} (h : i < 5) : vw M w 8 i = rd M (w + 8) i := vw_a (by decide) (by decide) h
theorem vw_9 (M : Mem) (w : Nat) {i : Nat} (h : i < 5) : vw M w 9 i = rd M (w + 9) i := vw_a (by decide) (by decide) h
theorem vw_10 (M : Mem) (w : Nat) {i : Nat} (h : i < 5) : vw M w 10 i = rd M (w + 10) i := vw_a (by decide) (by decide) h
theorem sW {H : Int} {M : Mem} {w : Nat} (wf : WF H (vw M w)) : (vw M w 0 3 = rd M w 3 ∧ vw M w 0 7 = rd M w 7 ∧ vw M w 0 12 = rd M w 12 ∧ vw M w 0 13 = rd M w 13 ∧ vw M w 0 14 = rd M w 14) ∧ (0 ≤ rd M w 3 ∧ rd M w 3 ≤ 6) ∧ (0 ≤ rd M w 7 ∧ rd M w 7 ≤ 8) ∧ (0 ≤ rd M w 12 ∧ rd M w 12 ≤ 5) ∧ (0 ≤ rd M w 13 ∧ rd M w 13 ≤ H) ∧ (0 ≤ rd M w 14 ∧ rd M w 14 ≤ 9) := by
  have b := wF wf
  rw [vw_s (i := 3) (by omega), vw_s (i := 7) (by omega), vw_s (i := 12) (by omega), vw_s (i := 13) (by omega), vw_s (i := 14) (by omega)] at b
  exact ⟨⟨vw_s (by omega), vw_s (by omega), vw_s (by omega), vw_s (by omega), vw_s (by omega)⟩, b.1, b.2.1, b.2.2.1, b.2.2.2.1, b.2.2.2.2.1⟩
theorem fW {H : Int} {M : Mem} {w : Nat} (wf : WF H (vw M w)) {i : Nat} (h : i < 6) : (vw M w 1 i = rd M (w + 1) i ∧ vw M w 2 i = rd M (w + 2) i ∧ vw M w 3 i = rd M (w + 3) i) ∧ (0 ≤ rd M (w + 1) i ∧ rd M (w + 1) i ≤ 6) ∧ (0 ≤ rd M (w + 2) i ∧ rd M (w + 2) i ≤ 9) ∧ (0 ≤ rd M (w + 3) i ∧ rd M (w + 3) i ≤ 9) := by
  have b := wFf wf i
  rw [vw_1 M w h, vw_2 M w h, vw_3 M w h] at b
  exact ⟨⟨vw_1 M w h, vw_2 M w h, vw_3 M w h⟩, b⟩
theorem tW {H : Int} {M : Mem} {w : Nat} (hw : w ≠ 137) (wf : WF H (vw M w)) {i : Nat} (h : i < 8) : (vw M w 4 i = rd M (w + 4) i ∧ vw M w 5 i = rd M (w + 5) i ∧ vw M w 6 i = rd M (w + 6) i) ∧ (0 ≤ rd M (w + 4) i ∧ rd M (w + 4) i ≤ 9) ∧ (0 ≤ rd M (w + 5) i ∧ rd M (w + 5) i ≤ 23) ∧ (-1 ≤ rd M (w + 6) i ∧ rd M (w + 6) i ≤ 4) := by
  have b := wFt wf i
  have e : vw M w 6 i = rd M (w + 6) i := by rw [vw_o h, ow_n hw]
  rw [vw_4 M w h, vw_5 M w h, e] at b
  exact ⟨⟨vw_4 M w h, vw_5 M w h, e⟩, b⟩
theorem pW {H : Int} {M : Mem} {w : Nat} (wf : WF H (vw M w)) {i : Nat} (h : i < 5) : (vw M w 7 i = rd M (w + 7) i ∧ vw M w 8 i = rd M (w + 8) i ∧ vw M w 9 i = rd M (w + 9) i ∧ vw M w 10 i = rd M (w + 10) i) ∧ (0 ≤ rd M (w + 7) i ∧ rd M (w + 7) i ≤ 7) ∧ (0 ≤ rd M (w + 8) i ∧ rd M (w + 8) i ≤ 9) ∧ (0 ≤ rd M (w + 9) i ∧ rd M (w + 9) i ≤ 23) ∧ (0 ≤ rd M (w + 10) i ∧ rd M (w + 10) i ≤ 23) := by
  have b := wFp wf i
  rw [vw_7 M w h, vw_8 M w h, vw_9 M w h, vw_10 M w h] at b
  exact ⟨⟨vw_7 M w h, vw_8 M w h, vw_9 M w h, vw_10 M w h⟩, b⟩
def SkyOk (M : Mem) : Prop := WF 0 (sv M) ∧ ∀ s : Nat, s < 64 → rd M 126 s = -1 ∨ (0 ≤ rd M 126 s ∧ rd M 126 s % 64 = s ∧ ∀ c : Nat, c < 24 → rd M 125 (24 * s + c) = airS (sv M) c (rd M 126 s))
/-- the fronts that are told are the sky's -/
def SameF (u u' : US) : Prop := u 0 3 = u' 0 3 ∧ ∀ i : Nat, (i : Int) < u 0 3 → u 1 i = u' 1 i ∧ u 2 i = u' 2 i ∧ u 3 i = u' 3 i
theorem airS_sf {u u' : US} (h : SameF u u') (c g : Int) : airS u c g = airS u' c g := airS_c c g h.1 (fun i q => (h.2 i q).1) (fun i q => (h.2 i q).2.1) (fun i q => (h.2 i q).2.2)
theorem e_isOf_15 {n : Nat} {M : Mem} {w : Nat} {F : Nat} (hF : rd M 121 3 = F) (hF6 : F ≤ 6) : ∀ k t i, i + k = F → k < t →
    Ok (m_X3_isOf_15 n t M w (i : Int)) (fun r M' => M' = M ∧ (r = 0 ∨ (r = 1 ∧ ∀ f : Nat, i ≤ f → f < F → sv M 1 f = vw M w 1 f ∧ sv M 2 f = vw M w 2 f ∧ sv M 3 f = vw M w 3 f))) := by
  intro k
  induction k with
  | zero =>
    intro t i hi ht
    cases t with
    | zero => omega
    | succ t =>
      rw [m_X3_isOf_15]
      repeat (first
          | with_reducible refine Ok_g (by first | assumption | omega) ?_
          | with_reducible refine Ok_lt ?_
          | with_reducible refine Ok_t (by first | assumption | omega) ?_
          | with_reducible refine Ok_f (by first | assumption | omega) ?_)
      exact Ok_ret ⟨rfl, .inr ⟨rfl, fun f h1 h2 => absurd h1 (by omega)⟩⟩
  | succ k ih =>
    intro t i hi ht
    cases t with
    | zero => omega
    | succ t =>
      rw [m_X3_isOf_15]
      simp only [Int.toNat_natCast]
      repeat (first
          | with_reducible refine Ok_g (by first | assumption | omega) ?_
          | with_reducible refine Ok_lt ?_
          | with_reducible refine Ok_t (by first | assumption | omega) ?_
          | with_reducible refine Ok_f (by first | assumption | omega) ?_)
      refine Ok_if (fun g1 => ?_) (fun _ => Ok_ret ⟨rfl, .inl rfl⟩)
      refine Ok_if (fun g2 => ?_) (fun _ => Ok_ret ⟨rfl, .inl rfl⟩)
      refine Ok_if (fun g3 => ?_) (fun _ => Ok_ret ⟨rfl, .inl rfl⟩)
      refine Ok_mono (ih t (i + 1) (by omega) (by omega)) ?_
      rintro r M' ⟨e, h⟩
      refine ⟨e, h.imp id ?_⟩
      rintro ⟨h1, h2⟩
      refine ⟨h1, fun f q1 q2 => ?_⟩
      by_cases q : f = i
      · subst q
        rw [sv_1 M (by omega), sv_2 M (by omega), sv_3 M (by omega), vw_1 M w (by omega), vw_2 M w (by omega), vw_3 M w (by omega)]
        exact ⟨g1, g2, g3⟩
      · exact h2 f (by omega) q2
theorem e_isOf {n : Nat} {M : Mem} {w : Nat} (hn : 2000 ≤ n) (hw : isW w) (wf : WF 0 (sv M)) : Ok (m_X3_isOf n M w) (fun r M' => M' = M ∧ (r = 0 ∨ (r = 1 ∧ SameF (sv M) (vw M w)))) := by
  have b := (wF wf).1
  rw [sv_f] at b
  unfold m_X3_isOf
  repeat (first
      | with_reducible refine Ok_g (by first | assumption | omega) ?_
      | with_reducible refine Ok_lt ?_
      | with_reducible refine Ok_t (by first | assumption | omega) ?_
      | with_reducible refine Ok_f (by first | assumption | omega) ?_)
  refine Ok_if (fun g => ?_) (fun _ => Ok_ret ⟨rfl, .inl rfl⟩)
  refine Ok_mono (e_isOf_15 (n := n) (w := w) (F := (rd M 121 3).toNat) (by omega) (by omega) (rd M 121 3).toNat n 0 (by omega) (by omega)) ?_
  rintro r M' ⟨e, h⟩
  refine ⟨e, h.imp id ?_⟩
  rintro ⟨h1, h2⟩
  refine ⟨h1, ?_, fun i q => ?_⟩
  · rw [sv_f, vw_s (by omega)]; exact g
  · rw [sv_f] at q; exact h2 i (by omega) (by omega)
theorem e_turnTo_55 {n : Nat} {M0 : Mem} : ∀ k t i M, i + k = 64 → k < t → (∀ q j, q ≠ 126 → M q j = M0 q j) → (∀ s : Nat, s < i → rd M 126 s = -1) →
    Ok (m_X3_turnTo_55 n t M (i : Int)) (fun _ M' => (∀ q j, q ≠ 126 → M' q j = M0 q j) ∧ ∀ s : Nat, s < 64 → rd M' 126 s = -1) := by
  intro k
  induction k with
  | zero =>
    intro t i M hi ht h1 h2
    cases t with
    | zero => omega
    | succ t =>
      rw [m_X3_turnTo_55]
      repeat (first
          | with_reducible refine Ok_g (by first | assumption | omega) ?_
          | with_reducible refine Ok_lt ?_
          | with_reducible refine Ok_t (by first | assumption | omega) ?_
          | with_reducible refine Ok_f (by first | assumption | omega) ?_)
      exact Ok_ret ⟨h1, fun s q => h2 s (by omega)⟩
  | succ k ih =>
    intro t i M hi ht h1 h2
    cases t with
    | zero => omega
    | succ t =>
      rw [m_X3_turnTo_55]
      simp only [Int.toNat_natCast]
      repeat (first
          | with_reducible refine Ok_g (by first | assumption | omega) ?_
          | with_reducible refine Ok_lt ?_
          | with_reducible refine Ok_wr ?_
          | with_reducible refine Ok_t (by first | assumption | omega) ?_
          | with_reducible refine Ok_f (by first | assumption | omega) ?_)
      refine ih t (i + 1) _ (by omega) (by omega) ?_ ?_
      · intro q j hq
        rw [mup_ne _ hq]; exact h1 q j hq
      · intro s hs
        rw [rd_up _ _ _ _ _ (by decide)]
        by_cases q : s = i
        · rw [if_pos ⟨rfl, q⟩]
        · rw [if_neg (fun z => q z.2)]; exact h2 s (by omega)
theorem e_turnTo {n : Nat} {M : Mem} {w : Nat} {H : Int} (hn : 2000 ≤ n) (hw : isW w) (wf : WF H (vw M w)) :
    Ok (m_X3_turnTo n M w) (fun _ M' => SkyOk M' ∧ SameF (sv M') (vw M w) ∧ ∀ q i, (q < 121 ∨ 126 < q) → M' q i = M q i) := by
  have bs := sW wf
  unfold m_X3_turnTo
  repeat (first
      | with_reducible refine Ok_g (by first | assumption | omega) ?_
      | with_reducible refine Ok_lt ?_
      | with_reducible refine Ok_t (by first | assumption | omega) ?_
      | with_reducible refine Ok_f (by first | assumption | omega) ?_)
  refine Ok_cpw (Ok_cpw (Ok_cpw (Ok_wr ?_)))
  refine Ok_mono (e_turnTo_55 (n := n) 64 n 0 _ (by decide) (by omega) (fun q j _ => rfl) (fun s h => absurd h (by omega))) ?_
  rintro r M' ⟨h1, h2⟩
  have c3 : rd M' 121 3 = rd M w 3 := by
    rw [rd_of (h1 121 3 (by decide)), rd_up _ _ _ _ _ (rd_rng _ _ _), if_pos ⟨rfl, rfl⟩, rd_cpn _ _ _ _ _ _ _ _ (by omega), rd_cpn _ _ _ _ _ _ _ _ (by omega), rd_cpn _ _ _ _ _ _ _ _ (by omega)]
  have c1 : ∀ i, i < 6 → rd M' 122 i = rd M (w + 1) i := by
    intro i hi
    rw [rd_of (h1 122 i (by decide)), rd_upne _ _ _ _ _ _ (by omega), rd_cpn _ _ _ _ _ _ _ _ (by omega), rd_cpn _ _ _ _ _ _ _ _ (by omega), rd_cp0 _ _ _ 6 _ (by omega)]
  have c2 : ∀ i, i < 6 → rd M' 123 i = rd M (w + 2) i := by
    intro i hi
    rw [rd_of (h1 123 i (by decide)), rd_upne _ _ _ _ _ _ (by omega), rd_cpn _ _ _ _ _ _ _ _ (by omega), rd_cp0 _ _ _ 6 _ (by omega), rd_cpn _ _ _ _ _ _ _ _ (by omega)]
  have c4 : ∀ i, i < 6 → rd M' 124 i = rd M (w + 3) i := by
    intro i hi
    rw [rd_of (h1 124 i (by decide)), rd_upne _ _ _ _ _ _ (by omega), rd_cp0 _ _ _ 6 _ (by omega), rd_cpn _ _ _ _ _ _ _ _ (by omega), rd_cpn _ _ _ _ _ _ _ _ (by omega)]
  refine ⟨⟨?_, fun s hs => .inl (h2 s hs)⟩, ⟨?_, ?_⟩, ?_⟩
  · intro k i
    unfold sv
    by_cases k0 : k = 0
    · subst k0
      rw [if_pos rfl]
      by_cases i3 : i = 3
      · subst i3
        rw [if_pos rfl, c3]; exact bs.2.1
      · rw [if_neg i3]; unfold lo hi; simp; omega
    · rw [if_neg k0]
      by_cases k3 : k ≤ 3
      · rw [if_pos k3]
        by_cases i6 : i < 6
        · rw [if_pos i6]
          have f := fW wf i6
          have a1 := c1 i i6
          have a2 := c2 i i6
          have a4 := c4 i i6
          have : k = 1 ∨ k = 2 ∨ k = 3 := by omega
          rcases this with rfl | rfl | rfl
          · show 0 ≤ rd M' 122 i ∧ rd M' 122 i ≤ 6; omega
          · show 0 ≤ rd M' 123 i ∧ rd M' 123 i ≤ 9; omega
          · show 0 ≤ rd M' 124 i ∧ rd M' 124 i ≤ 9; omega
        · rw [if_neg i6]; unfold lo hi; omega
      · rw [if_neg k3]; unfold lo hi; omega
  · rw [sv_f, c3, vw_s (by omega)]
  · intro i hi
    rw [sv_f, c3] at hi
    rw [sv_1 _ (by omega), sv_2 _ (by omega), sv_3 _ (by omega), c1 i (by omega), c2 i (by omega), c4 i (by omega), vw_1 M w (by omega), vw_2 M w (by omega), vw_3 M w (by omega)]
    exact ⟨rfl, rfl, rfl⟩
  · intro q i hq
    rw [h1 q i (by omega), mup_ne _ (by omega), mcp_ne _ (by omega), mcp_ne _ (by omega), mcp_ne _ (by omega)]
theorem e_rowOf_37 {n : Nat} {M0 : Mem} {s : Nat} {h : Int} (hn : 2000 ≤ n) (sk : SkyOk M0) (hs : s < 64) (h0 : 0 ≤ h) (h1 : h ≤ 1000000) (hm : h % 64 = s) :
    ∀ k t i M, i + k = 24 → k < t → (∀ q j, q ≠ 127 → q ≠ 128 → (q = 125 → j < 24 * s ∨ 24 * s + 24 ≤ j) → M q j = M0 q j) → (∀ c : Nat, c < i → rd M 125 (24 * s + c) = airS (sv M0) c h) →
    Ok (m_X3_rowOf_37 n t M h (s : Int) ((s : Int) * 24) (i : Int)) (fun r M' => r = (s : Int) * 24 ∧ SkyOk M' ∧ sv M' = sv M0 ∧ (∀ c : Nat, c < 24 → rd M' 125 (24 * s + c) = airS (sv M0) c h) ∧ ∀ q j, (q < 121 ∨ 128 < q) → M' q j = M0 q j) := by
  intro k
  induction k with
  | zero =>
    intro t i M hi ht hk ha
    cases t with
    | zero => omega
    | succ t =>
      rw [m_X3_rowOf_37]
      simp only [Int.toNat_natCast]
      repeat (first
          | with_reducible refine Ok_g (by first | assumption | omega) ?_
          | with_reducible refine Ok_lt ?_
          | with_reducible refine Ok_wr ?_
          | with_reducible refine Ok_t (by first | assumption | omega) ?_
          | with_reducible refine Ok_f (by first | assumption | omega) ?_)
      have e : sv (mup M 126 s h) = sv M0 := sv_congr (by rw [mup_ne _ (by decide)]; exact hk _ _ (by decide) (by decide) (by omega)) (fun q j _ _ => by rw [mup_ne _ (by omega)]; exact hk _ _ (by omega) (by omega) (by omega))
      have hh : I32 h := ⟨by omega, by omega⟩
      refine Ok_ret ⟨rfl, ⟨by rw [e]; exact sk.1, ?_⟩, e, ?_, ?_⟩
      · intro s' hs'
        rw [e]
        by_cases q : s' = s
        · subst q
          rw [rd_up _ _ _ _ _ hh, if_pos ⟨rfl, rfl⟩]
          refine .inr ⟨h0, hm, fun c hc => ?_⟩
          rw [rd_upne _ _ _ _ _ _ (by omega)]
          exact ha c (by omega)
        · rw [rd_up _ _ _ _ _ hh, if_neg (by omega), rd_of (hk 126 s' (by decide) (by decide) (by omega))]
          refine (sk.2 s' hs').imp id ?_
          rintro ⟨g1, g2, g3⟩
          refine ⟨g1, g2, fun c hc => ?_⟩
          rw [rd_upne _ _ _ _ _ _ (by omega), rd_of (hk 125 _ (by decide) (by decide) (fun _ => by omega))]
          exact g3 c hc
      · intro c hc
        rw [rd_upne _ _ _ _ _ _ (by omega)]
        exact ha c (by omega)
      · intro q j hq
        rw [mup_ne _ (by omega)]
        exact hk q j (by omega) (by omega) (by omega)
  | succ k ih =>
    intro t i M hi ht hk ha
    cases t with
    | zero => omega
    | succ t =>
      have e : sv M = sv M0 := sv_congr (hk _ _ (by decide) (by decide) (by omega)) (fun q j _ _ => hk _ _ (by omega) (by omega) (by omega))
      rw [m_X3_rowOf_37]
      repeat (first
          | with_reducible refine Ok_g (by first | assumption | omega) ?_
          | with_reducible refine Ok_lt ?_
          | with_reducible refine Ok_t (by first | assumption | omega) ?_
          | with_reducible refine Ok_f (by first | assumption | omega) ?_)
      refine Ok_bd (s_airAt (H := 0) hn (by rw [e]; exact sk.1) (by omega) (by omega)) ?_
      rintro r M1 ⟨er, hf⟩
      rw [e] at er
      have b := airS_b sk.1 i h
      rw [show (s : Int) * 24 + (i : Int) = ((24 * s + i : Nat) : Int) by omega, Int.toNat_natCast]
      repeat (first
          | with_reducible refine Ok_g (by first | assumption | omega) ?_
          | with_reducible refine Ok_lt ?_
          | with_reducible refine Ok_wr ?_
          | with_reducible refine Ok_t (by first | assumption | omega) ?_
          | with_reducible refine Ok_f (by first | assumption | omega) ?_)
      refine ih t (i + 1) _ (by omega) (by omega) ?_ ?_
      · intro q j h1 h2 h3
        show (if q = 125 ∧ j = 24 * s + i then _ else _) = _
        rw [if_neg (by omega), hf q j h1 h2]
        exact hk q j h1 h2 h3
      · intro c hc
        rw [rd_up _ _ _ _ _ (by omega)]
        by_cases q : c = i
        · rw [if_pos ⟨rfl, by omega⟩, er, q]
        · rw [if_neg (by omega), rd_of (hf _ _ (by decide) (by decide))]
          exact ha c (by omega)
theorem e_rowOf {n : Nat} {M : Mem} {w : Nat} {H h : Int} (hn : 2000 ≤ n) (hw : isW w) (sk : SkyOk M) (wf : WF H (vw M w)) (h0 : 0 ≤ h) (h1 : h ≤ 1000000) :
    Ok (m_X3_rowOf n M w h) (fun r M' => 0 ≤ r ∧ r ≤ 1512 ∧ SkyOk M' ∧ (∀ c : Nat, c < 24 → rd M' 125 (r.toNat + c) = airS (vw M w) c h) ∧ ∀ q j, (q < 121 ∨ 128 < q) → M' q j = M q j) := by
  have tail : ∀ M2, SkyOk M2 → SameF (sv M2) (vw M w) → (∀ q j, (q < 121 ∨ 128 < q) → M2 q j = M q j) → Ok (m_X3_rowOf_13 n M2 h) (fun r M' => 0 ≤ r ∧ r ≤ 1512 ∧ SkyOk M' ∧ (∀ c : Nat, c < 24 → rd M' 125 (r.toNat + c) = airS (vw M w) c h) ∧ ∀ q j, (q < 121 ∨ 128 < q) → M' q j = M q j) := by
    intro M2 sk2 sf fr
    unfold m_X3_rowOf_13
    rw [and63 h0 (by omega)]
    obtain ⟨s, hs⟩ : ∃ s : Nat, h % 64 = s := ⟨(h % 64).toNat, by omega⟩
    rw [hs, Int.toNat_natCast]
    have hs64 : s < 64 := by omega
    repeat (first
        | with_reducible refine Ok_g (by first | assumption | omega) ?_
        | with_reducible refine Ok_lt ?_
        | with_reducible refine Ok_t (by first | assumption | omega) ?_
        | with_reducible refine Ok_f (by first | assumption | omega) ?_)
    refine Ok_if (fun g => ?_) (fun g => ?_)
    · refine Ok_ret ⟨by omega, by omega, sk2, ?_, fr⟩
      intro c hc
      rcases sk2.2 s hs64 with q | ⟨_, _, q⟩
      · omega
      · rw [show ((s : Int) * 24).toNat + c = 24 * s + c by omega, q c hc, g, airS_sf sf]
    · refine Ok_mono (e_rowOf_37 (n := n) hn sk2 hs64 h0 h1 hs 24 n 0 M2 (by decide) (by omega) (fun _ _ _ _ _ => rfl) (fun c hc => absurd hc (by omega))) ?_
      rintro r M' ⟨r1, r2, r3, r4, r5⟩
      subst r1
      refine ⟨by omega, by omega, r2, ?_, fun q j hq => by rw [r5 q j hq, fr q j hq]⟩
      intro c hc
      rw [show ((s : Int) * 24).toNat + c = 24 * s + c by omega, r4 c hc, airS_sf sf]
  unfold m_X3_rowOf
  repeat (first
      | with_reducible refine Ok_g (by first | assumption | omega) ?_
      | with_reducible refine Ok_lt ?_
      | with_reducible refine Ok_t (by first | assumption | omega) ?_
      | with_reducible refine Ok_f (by first | assumption | omega) ?_)
  refine Ok_bd (e_isOf hn hw sk.1) ?_
  rintro r M1 ⟨rfl, h⟩
  rcases h with rfl | ⟨rfl, sf⟩
  · repeat (first
        | with_reducible refine Ok_g (by first | assumption | omega) ?_
        | with_reducible refine Ok_lt ?_
        | with_reducible refine Ok_t (by first | assumption | omega) ?_
        | with_reducible refine Ok_f (by first | assumption | omega) ?_)
    refine Ok_bd (e_turnTo hn hw wf) ?_
    rintro _ M2 ⟨s1, s2, s3⟩
    exact tail M2 s1 s2 (fun q j hq => s3 q j (by omega))
  · repeat (first
        | with_reducible refine Ok_g (by first | assumption | omega) ?_
        | with_reducible refine Ok_lt ?_
        | with_reducible refine Ok_t (by first | assumption | omega) ?_
        | with_reducible refine Ok_f (by first | assumption | omega) ?_)
    exact tail M1 sk sf (fun _ _ _ => rfl)
