/-! coast -/
theorem vw0_of {M M' : Mem} (h : ∀ i, M' 137 i = M 137 i ∨ ¬ (i = 3 ∨ i = 7 ∨ i = 12 ∨ i = 13 ∨ i = 14 ∨ i = 20 ∨ i = 21)) (h2 : ∀ q i, 138 ≤ q → q ≤ 147 → M' q i = M q i) : vw M' 137 = vw M 137 :=
  vw_congr (fun i g => (h i).resolve_right (by omega)) (fun a i g1 g2 => h2 _ _ (by omega) (by omega)) (fun z => absurd z (by decide)) (fun _ => ⟨(h 20).resolve_right (by omega), (h 21).resolve_right (by omega)⟩)
theorem r_cb {n : Nat} {M Mc M' : Mem} {x : Nat} (s : Sim M) (hc : ∀ q i, Mc q i = mup M 130 6 0 q i) (hx : x ≤ 96) (kq : KQ (mup (mup Mc 137 23 0) 137 24 0) M') (h : rd M' 137 23 = x) :
    Ok (m_X6_coast_60 n M' 0) (fun r' M2 => r' = -1000 - (x : Int) ∧ Sim M2) := by
  unfold m_X6_coast_60
  refine Ok_wr ?_
  repeat (first
      | with_reducible refine Ok_g (by first | assumption | omega) ?_
      | with_reducible refine Ok_lt ?_
      | with_reducible refine Ok_t (by first | assumption | omega) ?_
      | with_reducible refine Ok_f (by first | assumption | omega) ?_)
  have fm : ∀ q i, ¬ (q = 130 ∧ i = 6) → ¬ (q = 137 ∧ (i = 22 ∨ i = 23 ∨ i = 24 ∨ i = 25)) → ¬ (152 ≤ q ∧ q ≤ 154) → mup M' 137 22 0 q i = M q i := fun q i a b c => by
    rw [mup_n _ (by omega), kq q i (by omega) c, mup_n _ (by omega), mup_n _ (by omega), hc, mup_n _ a]
  refine Ok_ret ⟨?_, sim_cf s (SkyOk_keep s.2.2.1 (fun q i _ _ => fm q i (by omega) (by omega) (by omega))) ?_ ?_ (rd_ups _ _ _ (by decide)) (fun q i _ _ a _ _ _ b _ c _ _ => fm q i a (by omega) b)⟩
  · rw [rd_upne _ _ _ _ _ _ (by omega), h]
  · exact vw0_of (fun i => by
      by_cases g : i = 22 ∨ i = 23 ∨ i = 24 ∨ i = 25
      · right; omega
      · left; exact fm _ _ (by omega) (by omega) (by omega)) (fun q i _ _ => fm q i (by omega) (by omega) (by omega))
  · rw [rd_upne _ _ _ _ _ _ (by omega), rd_of (kq 130 6 (by omega) (by omega)), rd_upne _ _ _ _ _ _ (by omega), rd_upne _ _ _ _ _ _ (by omega), rd_of (hc 130 6), rd_ups _ _ _ (by decide)]
theorem q_coast {n : Nat} {M : Mem} (hn : 2000 ≤ n) (s : Sim M) : Agr (m_X5_coast n M) (fun M1 => m_X6_coast n M1) := by
  obtain ⟨l1, l2, l3, l4⟩ := s.2.2.2.2.2.2.1
  obtain ⟨len, hlen⟩ : ∃ len : Nat, rd M 130 6 = len := ⟨(rd M 130 6).toNat, by omega⟩
  rw [hlen] at l1 l2 l3 l4
  have hl : len ≤ 96 := by omega
  obtain ⟨L, hLd⟩ : ∃ L : Nat → Int, ∀ i, L i = if i < len then rd M 132 i else 0 := ⟨_, fun _ => rfl⟩
  have hLi : ∀ i, i < len → rd M 132 i = L i := fun i hi => by rw [hLd, if_pos hi]
  have hT : ∀ i, i < len → rd M 151 i = L i := fun i hi => by rw [(l4 i (by omega)).1, hLi i hi]
  have hL0 : ∀ i, len ≤ i → L i = 0 := fun i hi => by rw [hLd, if_neg (by omega)]
  have hB : ∀ i, 0 ≤ L i ∧ L i ≤ 255 := fun i => by
    by_cases c : i < len
    · rw [← hLi i c]; exact (l4 i (by omega)).2
    · rw [hL0 i (by omega)]; decide
  unfold Agr m_X5_coast
  rw [hlen]
  refine Ok_wr ?_
  generalize hMc : mup M 130 6 0 = Mc
  have fc : ∀ q i, Mc q i = mup M 130 6 0 q i := fun q i => by rw [hMc]
  have fz : ∀ q i, ¬ (q = 130 ∧ i = 6) → Mc q i = M q i := fun q i h => by rw [fc, mup_n _ h]
  -- what the second side does
  have ref : ∀ (Mq : Mem) (r : Int), (∀ q i, 137 ≤ q → Mq q i = Mc q i) →
      (match (if len = 0 then some 0 else wrS L len (len + 1) 0) with
        | some x => (∀ q i, Mq q i = Mc q i) ∧ r = -1000 - (x : Int)
        | none => ∀ M' S, (∀ q i, ¬ (q = 137 ∧ (i = 23 ∨ i = 24 ∨ i = 25)) → ¬ (152 ≤ q ∧ q ≤ 154) → M' q i = Mq q i) → AllT L len S → pos L S = len → Kpt L M' S → rd M' 137 24 = (S : Int) → Ok (m_X6_coast_60 n M' 1) (fun r' M2 => r' = r ∧ Sim M2)) →
      Ok (m_X6_coast n Mq) (fun r' M2 => r' = r ∧ Sim M2) := by
    intro Mq r f h
    unfold m_X6_coast
    refine Ok_wr (Ok_wr ?_)
    have e22 : rd (mup (mup Mq 137 23 0) 137 24 0) 137 22 = len := by rw [rd_upne _ _ _ _ _ _ (by omega), rd_upne _ _ _ _ _ _ (by omega), rd_of (f _ _ (by decide)), rd_of (fz _ _ (by omega))]; exact l1
    have e23 : rd (mup (mup Mq 137 23 0) 137 24 0) 137 23 = ((0 : Nat) : Int) := by rw [rd_upne _ _ _ _ _ _ (by omega), rd_ups _ _ _ (by decide)]; rfl
    have e24 : rd (mup (mup Mq 137 23 0) 137 24 0) 137 24 = ((0 : Nat) : Int) := by rw [rd_ups _ _ _ (by decide)]; rfl
    have eT : ∀ i, i < len → rd (mup (mup Mq 137 23 0) 137 24 0) 151 i = L i := fun i hi => by
      rw [rd_upne _ _ _ _ _ _ (by omega), rd_upne _ _ _ _ _ _ (by omega), rd_of (f _ _ (by decide)), rd_of (fz _ _ (by omega))]
      exact hT i hi
    by_cases c0 : len = 0
    · rw [if_pos c0] at h
      obtain ⟨h1, h2⟩ := h
      have en : ∃ t, n = t + 2 := ⟨n - 2, by omega⟩
      obtain ⟨t, et⟩ := en
      have ex : m_X6_coast_12 n n (mup (mup Mq 137 23 0) 137 24 0) 1 = m_X6_coast_12 n (t + 2) (mup (mup Mq 137 23 0) 137 24 0) 1 := by rw [← et]
      rw [ex, m_X6_coast_12, e22, e23, e24]
      repeat (first
          | with_reducible refine Ok_g (by first | assumption | omega) ?_
          | with_reducible refine Ok_lt ?_
          | with_reducible refine Ok_t (by first | assumption | omega) ?_
          | with_reducible refine Ok_f (by first | assumption | omega) ?_)
      unfold m_X6_coast_34
      refine Ok_bd (r_statement (L := L) (p := 0) (s := 0) hn hl (by decide) hB hL0 eT e22 e23 (by omega) e24) ?_
      rintro r1 M1 ⟨k1, a1⟩
      have es : stm L len 0 = some 0 := by
        unfold stm
        rw [hL0 0 (by omega)]
        rfl
      rw [es] at a1
      obtain ⟨b1, b2⟩ := a1
      repeat (first
          | with_reducible refine Ok_g (by first | assumption | omega) ?_
          | with_reducible refine Ok_lt ?_
          | with_reducible refine Ok_t (by first | assumption | omega) ?_
          | with_reducible refine Ok_f (by first | assumption | omega) ?_)
      unfold m_X6_coast_53
      refine Ok_wr ?_
      rw [b1, m_X6_coast_12]
      repeat (first
          | with_reducible refine Ok_g (by first | assumption | omega) ?_
          | with_reducible refine Ok_lt ?_
          | with_reducible refine Ok_t (by first | assumption | omega) ?_
          | with_reducible refine Ok_f (by first | assumption | omega) ?_)
      rw [h2]
      refine r_cb (Mc := Mq) (x := 0) s (fun q i => by rw [h1, fc]) (by omega) ?_ (by rw [rd_upne _ _ _ _ _ _ (by omega)]; exact b2)
      intro q i a b
      rw [mup_n _ (by omega)]
      exact k1 q i (by omega) (by omega) (by omega)
    · rw [if_neg c0] at h
      refine r_coast_12 (L := L) (len := len) hn hl (by omega) hB hL0 eT e22 (len + 1) n 0 _ (by show len < len + 1 + 0; omega) (by omega) (Nat.zero_le _) (fun j hj => absurd hj (by omega)) (fun q i _ _ => rfl) (fun j hj => absurd hj (by omega)) e23 e24 ?_
      show (match wrS L len (len + 1) 0 with | some x => _ | none => _)
      cases e : wrS L len (len + 1) 0 with
      | some x =>
        rw [e] at h
        obtain ⟨h1, h2⟩ := h
        intro M' kq h23
        rw [h2]
        have := wrS_le _ _ _ e
        exact r_cb (Mc := Mq) s (fun q i => by rw [h1, fc]) (by omega) kq h23
      | none =>
        rw [e] at h
        intro M' S kq at' hS kp h24
        exact h M' S (fun q i a b => by rw [kq q i a b, mup_n _ (by omega), mup_n _ (by omega)]) at' hS kp h24
  unfold m_X5_wrongLetter
  by_cases c0 : len = 0
  · refine Ok_bd (Q := fun r M' => r = 0 ∧ M' = Mc) (by
      repeat (first
          | with_reducible refine Ok_g (by first | assumption | omega) ?_
          | with_reducible refine Ok_lt ?_
          | with_reducible refine Ok_t (by first | assumption | omega) ?_
          | with_reducible refine Ok_f (by first | assumption | omega) ?_)
      exact Ok_ret ⟨rfl, rfl⟩) ?_
    rintro r M1 ⟨rfl, rfl⟩
    repeat (first
        | with_reducible refine Ok_g (by first | assumption | omega) ?_
        | with_reducible refine Ok_lt ?_
        | with_reducible refine Ok_t (by first | assumption | omega) ?_
        | with_reducible refine Ok_f (by first | assumption | omega) ?_)
    refine Ok_ret ⟨by decide, ref _ _ (fun _ _ _ => rfl) ?_⟩
    rw [if_pos c0]
    exact ⟨fun _ _ => rfl, rfl⟩
  · refine Ok_bd (Q := fun r M' => r = oI (wrS L len (len + 1) 0) ∧ M' = Mc) (by
      repeat (first
          | with_reducible refine Ok_g (by first | assumption | omega) ?_
          | with_reducible refine Ok_lt ?_
          | with_reducible refine Ok_t (by first | assumption | omega) ?_
          | with_reducible refine Ok_f (by first | assumption | omega) ?_)
      exact (e_wrong_8 (L := L) (len := len) hn (fun i hi => by rw [rd_of (fz _ _ (by omega))]; exact hLi i hi) hl (len + 1) n 0 (by omega) (by omega) (Nat.zero_le _))) ?_
    rintro r M1 ⟨hr, rfl⟩
    cases e : wrS L len (len + 1) 0 with
    | some x =>
      have hx := wrS_le _ _ _ e
      rw [e] at hr
      have hr' : r = (x : Int) := hr
      repeat (first
          | with_reducible refine Ok_g (by first | assumption | omega) ?_
          | with_reducible refine Ok_lt ?_
          | with_reducible refine Ok_t (by first | assumption | omega) ?_
          | with_reducible refine Ok_f (by first | assumption | omega) ?_)
      refine Ok_ret ⟨by omega, ref _ _ (fun _ _ _ => rfl) ?_⟩
      rw [if_neg c0, e]
      exact ⟨fun _ _ => rfl, by rw [hr']⟩
    | none =>
      rw [e] at hr
      have hr' : r = -1 := hr
      repeat (first
          | with_reducible refine Ok_g (by first | assumption | omega) ?_
          | with_reducible refine Ok_lt ?_
          | with_reducible refine Ok_t (by first | assumption | omega) ?_
          | with_reducible refine Ok_f (by first | assumption | omega) ?_)
      obtain ⟨S, _, hA, hS⟩ := wrS_S (L := L) (len := len) (len + 1) 0 (by show len < len + 1 + 0; omega) (Nat.zero_le _) (fun j hj => absurd hj (by omega)) e
      have hS3 := pos_ge hA S (Nat.le_refl _)
      have v0 : vw M1 0 = vw M 0 := vwW_congr (by decide) (fun q i _ _ => fz q i (by omega))
      have sk1 : SkyOk M1 := SkyOk_keep s.2.2.1 (fun q i _ _ => fz q i (by omega))
      refine Ok_bd (e_begin (H := 999) hn sk1 (by rw [v0]; exact s.2.1) (by decide)) ?_
      rintro _ M2 ⟨v2, sk2, _, f2⟩
      have e6 : rd M2 130 6 = 0 := by rw [rd_of (f2 _ _ (by omega)), rd_of (fc _ _), rd_ups _ _ _ (by decide)]
      refine Ok_mono (e_coast_43 (M0 := M1) (L := L) hn hl (fun i hi => by rw [rd_of (fz _ _ (by omega))]; exact hLi i hi) hA hS S n 0 M2 (vw M 0) (by omega) (by omega) (fun q i h => f2 q i (by omega)) sk2 (fun q i h => f2 q i (by omega)) (by rw [v2, v0]) s.2.1 (w_ket M (by decide) (by decide))) ?_
      rintro r3 M3 ⟨hr3, h3⟩
      have cb := cx_b (L := L) hl hA hS S 0 (vw M 0) (by omega)
      rw [← hr3] at cb
      have f3 : ∀ q i, 137 ≤ q → M3 q i = M1 q i := by
        intro q i hq
        cases hx : (cx L S 0 (vw M 0)).2 with
        | none =>
          rw [hx] at h3
          exact h3.2.1 q i (by omega)
        | some u' =>
          rw [hx] at h3
          obtain ⟨M4, e4, _, _, h4⟩ := h3
          rw [e4, mup_n _ (by omega)]
          exact h4 q i (by omega)
      refine ⟨by omega, ref M3 r3 f3 ?_⟩
      rw [if_neg c0, e]
      show ∀ M' S, _ → _ → _ → _ → _ → _
      intro M5 S' k5 at' hS' kp h24
      have es := S_uniq at' hA hS' hS
      subst es
      unfold m_X6_coast_60
      refine Ok_wr ?_
      repeat (first
          | with_reducible refine Ok_g (by first | assumption | omega) ?_
          | with_reducible refine Ok_lt ?_
          | with_reducible refine Ok_t (by first | assumption | omega) ?_
          | with_reducible refine Ok_f (by first | assumption | omega) ?_)
      have f5 : ∀ q i, 137 ≤ q → ¬ (q = 137 ∧ (i = 22 ∨ i = 23 ∨ i = 24 ∨ i = 25)) → ¬ (152 ≤ q ∧ q ≤ 154) → mup M5 137 22 0 q i = M q i := fun q i a b c => by
        rw [mup_n _ (by omega), k5 q i (by omega) c, f3 q i a, fz q i (by omega)]
      have v5 : vw (mup M5 137 22 0) 137 = vw M 137 := vw0_of (fun i => by
        by_cases g : i = 22 ∨ i = 23 ∨ i = 24 ∨ i = 25
        · right; omega
        · left; exact f5 _ _ (by omega) (by omega) (by omega)) (fun q i _ _ => f5 q i (by omega) (by omega) (by omega))
      have hk : vw M 137 0 20 = -1 := by rw [s.1]; rfl
      have hy : vw M 137 0 21 = 0 := by rw [s.1]; rfl
      refine Ok_bd (r_keepv (s := 1) hn (by decide) (by rw [v5]; exact hk) (by rw [v5]; exact hy)) ?_
      rintro _ M6 ⟨k6, f6⟩
      have v6 : vw M6 137 = vw M 137 := by
        rw [← v5]
        exact vw0_of (fun i => by
          by_cases g : i = 27 ∨ i = 28
          · right; omega
          · left; exact f6 _ _ (by omega) (by omega)) (fun q i _ _ => f6 q i (by omega) (by omega))
      have g6 : ∀ q i, 137 ≤ q → ¬ (q = 137 ∧ (i = 22 ∨ i = 23 ∨ i = 24 ∨ i = 25 ∨ i = 27 ∨ i = 28)) → ¬ (152 ≤ q ∧ q ≤ 154) → ¬ (q = 155 ∧ 68 ≤ i ∧ i < 136) → M6 q i = M q i := fun q i a b c d => by
        rw [f6 q i (by omega) (by omega)]; exact f5 q i a (by omega) c
      have kp6 : Kpt L M6 S' := by
        intro j hj
        obtain ⟨d1, d2, d3⟩ := kp j hj
        refine ⟨?_, ?_, Tld_keep d3 (fun i _ => by rw [f6 _ _ (by omega) (by omega), mup_n _ (by omega)])⟩
        · rw [rd_of (f6 _ _ (by omega) (by omega)), rd_upne _ _ _ _ _ _ (by omega)]; exact d1
        · rw [rd_of (f6 _ _ (by omega) (by omega)), rd_upne _ _ _ _ _ _ (by omega)]; exact d2
      refine Ok_mono (r_coast_86 (M0 := M6) (u0 := vw M 137) hn hl hA hS kp6 (by rw [rd_of (f6 _ _ (by omega) (by omega)), rd_upne _ _ _ _ _ _ (by omega)]; exact h24) (by rw [k6, v5]) (by rw [v6]; exact hk) (by rw [v6]; exact hy) S' n 0 M6 (vw M 0) (by omega) (by omega) (KT_refl M6) (by rw [v6, s.1]) s.2.1) ?_
      rintro r7 M7 ⟨hr7, h7⟩
      refine ⟨by rw [hr7, hr3], ?_⟩
      cases hx : (cx L S' 0 (vw M 0)).2 with
      | none =>
        rw [hx] at h3 h7
        obtain ⟨a1, a2, a3⟩ := h3
        obtain ⟨b1, b2⟩ := h7
        have all : ∀ q i, ¬ (137 ≤ q ∧ q ≤ 155) → M7 q i = M3 q i := fun q i h => by
          rw [b2 q i (by omega) (by omega) (by omega) (by omega), f6 q i (by omega) (by omega), mup_n _ (by omega), k5 q i (by omega) (by omega)]
        refine sim_cf s (SkyOk_keep a1 (fun q i _ _ => all q i (by omega))) b1 ?_ ?_ ?_
        · rw [rd_of (all 130 6 (by omega)), rd_of (a2 130 6 (by omega)), rd_of (fc _ _), rd_ups _ _ _ (by decide)]
        · rw [rd_of (b2 137 22 (by omega) (by omega) (by omega) (by omega)), rd_of (f6 137 22 (by omega) (by omega)), rd_ups _ _ _ (by decide)]
        · intro q i x1 x2 x3 x4 x5 x6 x7 x8 x9 x10 x11
          by_cases g : 137 ≤ q
          · rw [b2 q i x4 x5 x6 (by omega)]
            exact g6 q i g (by omega) x7 x8
          · rw [all q i (by omega), a2 q i (by omega), fz q i x3]
      | some u' =>
        rw [hx] at h3 h7
        obtain ⟨M4, e4, a1, a2, a3⟩ := h3
        obtain ⟨M8, e8, b1, b2⟩ := h7
        subst e4 e8
        have wu := cx_wf hA S' 0 (vw M 0) u' (by omega) s.2.1 hx
        refine sim_cs (Mc := mup M4 130 4 0) s wu (rd_ups _ _ _ (by decide)) (SkyOk_keep a1 (fun q i _ _ => mup_n _ (by omega))) (by rw [← a2]; exact vwW_congr (by decide) (fun q i _ _ => mup_n _ (by omega))) ?_ ?_ (rd_ups _ _ _ (by decide)) ?_ (by rw [vw_30]; exact b1) ?_
        · rw [rd_upne _ _ _ _ _ _ (by omega), rd_of (a3 130 6 (by omega)), rd_of (fc _ _), rd_ups _ _ _ (by decide)]
        · intro q i h
          rw [mup_n _ (by omega), a3 q i (by omega), fz q i (by omega)]
        · rw [rd_upne _ _ _ _ _ _ (by omega), rd_of (b2 137 22 (by omega) (by omega) (by omega) (by omega)), rd_of (f6 137 22 (by omega) (by omega)), rd_ups _ _ _ (by decide)]
        · intro q i h
          rw [mup_n _ (by omega), b2 q i (by omega) (by omega) (by omega) (by omega), f6 q i (by omega) (by omega), mup_n _ (by omega), k5 q i (by omega) (by omega)]
