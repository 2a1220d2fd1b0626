/-! days by lot -/
def loY (y : Int32) : Int32 := y * Int32.ofInt 1103515245 + Int32.ofInt 12345
def loV (y : Int32) : Int := (y &&& Int32.ofInt 2147483647).toInt
theorem loV_b (y : Int32) : 0 ≤ loV y ∧ loV y ≤ 2147483647 := by
  have e : (y &&& Int32.ofInt 2147483647).toBitVec.toNat ≤ 2147483647 := by
    rw [Int32.toBitVec_and, BitVec.toNat_and]
    exact Nat.le_trans Nat.and_le_right (by decide)
  have := bv_toInt (x := y &&& Int32.ofInt 2147483647) rfl (by omega)
  unfold loV
  rw [this]
  omega
def loD (y : Int32) : Int := loV y / 65536 % 24
theorem loD_b (y : Int32) : 0 ≤ loD y ∧ loD y ≤ 23 := by
  unfold loD
  omega
theorem lo_seed (a : Int) : Int32.ofInt (a * 1103515245 + 12345) = loY (Int32.ofInt a) := by
  unfold loY
  rw [Int32.ofInt_add, Int32.ofInt_mul]
theorem lo_sh {v : Int} (h : 0 ≤ v ∧ v ≤ 2147483647) : bShr v 16 = v / 65536 := by
  obtain ⟨m, rfl⟩ := Int.eq_ofNat_of_zero_le h.1
  have hm : m < 2147483648 := by omega
  have e := nShr (m := m) (c := 16) (by decide) hm
  rw [Nat.shiftRight_eq_div_pow] at e
  have e2 : bShr (m : Int) 16 = ((m / 2 ^ 16 : Nat) : Int) := e
  rw [e2, show (2 : Nat) ^ 16 = 65536 by decide]
  exact Int.natCast_ediv m 65536
def loF (nx : Int32 → Int32) (dr : Int32 → Int) (t : Nat) (x : Int32 × US) : Int32 × US := (nx x.1, uset (uset x.2 5 t (dr (nx x.1))) 6 t (-1))
theorem loF_wf {H : Int} {nx : Int32 → Int32} {dr : Int32 → Int} (hd : ∀ y, 0 ≤ dr y ∧ dr y ≤ 23) (k i : Nat) (x : Int32 × US) (h : WF H x.2) : WF H (frm (loF nx dr) k i x).2 := by
  refine frm_i (loF nx dr) (fun _ x => WF H x.2) (fun i x q => ?_) k i x h
  have d := hd (nx x.1)
  exact WF_set (WF_set q 5 i d.1 d.2) 6 i (Int.le_refl (-1)) (show (-1 : Int) ≤ 4 by decide)
def loW (nx : Int32 → Int32) (dr : Int32 → Int) (u : US) (y : Int32) : US := (frm (loF nx dr) (u 0 7).toNat 0 (y, u)).2
def loG (u : US) (w : Int) : Int := if w = 0 then manyS (hoursS 10 u) else richesS (hoursS 10 u)
def loE (nx : Int32 → Int32) (dr : Int32 → Int) (u : US) (w : Int) (_ : Nat) (x : Int32 × Int) : Int32 × Int := ((frm (loF nx dr) (u 0 7).toNat 0 (x.1, u)).1, x.2 + loG (loW nx dr u x.1) w)
theorem loG_b {u : US} (wu : WF 999 u) (w : Int) : 0 ≤ loG u w ∧ loG u w ≤ 72 := by
  have h : WF (999 + 10) (hoursS 10 u) := hoursS_wf 10 0 _ wu
  have a := manyS_b h
  have b := richesS_b h
  unfold loG
  split <;> omega
theorem e_lots_75 {n T : Nat} {a1 a3 a6 a7 : Int} {nx : Int32 → Int32} {dr : Int32 → Int} {k46 : Mem → Int → Int → Int → Int → Int → Rs} {Post : Int → Mem → Prop} (hn : 2000 ≤ n) (h3 : I32 a3) (hd : ∀ y, 0 ≤ dr y ∧ dr y ≤ 23)
    (hs : ∀ a : Int, ∃ A, A = a * 1103515245 + 12345 ∧ Int32.ofInt A = nx (Int32.ofInt a) ∧ I32 (bShr (bAnd A 2147483647) 16) ∧ Int.tmod (bShr (bAnd A 2147483647) 16) 24 = dr (nx (Int32.ofInt a))) : ∀ (k t i : Nat) (a : Int) (M : Mem), i + k = T → k < t → rd M 22 7 = T → SkyOk M → WF 999 (vw M 22) →
    (∀ M' a', SkyOk M' → KM M M' → Int32.ofInt a' = (frm (loF nx dr) k i (Int32.ofInt a, vw M 22)).1 → Ok (k46 M' a1 a3 a' (a6 + loG (frm (loF nx dr) k i (Int32.ofInt a, vw M 22)).2 a3) (a7 + 1)) Post) →
    Ok (m_X5_lots_75 n k46 t M a1 a3 a a6 a7 (i : Int)) Post := by
  intro k
  induction k with
  | zero =>
    intro t i a M hi ht h7 sk wf hk
    cases t with
    | zero => omega
    | succ t =>
      have b := sW wf
      rw [m_X5_lots_75]
      unfold m_X5_lots_160
      repeat (first
          | with_reducible refine Ok_g (by first | assumption | omega) ?_
          | with_reducible refine Ok_lt ?_
          | with_reducible refine Ok_t (by first | assumption | omega) ?_
          | with_reducible refine Ok_f (by first | assumption | omega) ?_)
      refine Ok_bd (e_goOn (N := 10) (H := 999) hn (by decide) (by decide) sk wf) ?_
      rintro _ M1 ⟨v1, k1, l1, f1⟩
      have km : KM M M1 := fun q i hq => f1 q i (by omega) (by omega)
      have v2 : vw M1 22 = hoursS 10 (vw M 22) := v1
      have w1 : WF 1200 (vw M1 22) := by
        rw [v2]; exact WF_le (hoursS_wf 10 0 _ wf) (by decide)
      have := hk M1 a k1 km rfl
      unfold loG at this
      rw [frm, ← v2] at this
      repeat (first
          | with_reducible refine Ok_g (by first | assumption | omega) ?_
          | with_reducible refine Ok_lt ?_
          | with_reducible refine Ok_t (by first | assumption | omega) ?_
          | with_reducible refine Ok_f (by first | assumption | omega) ?_)
      refine Ok_if (fun g => ?_) (fun g => ?_)
      · refine Ok_be (e_owned hn (by decide) w1) ?_
        rw [if_pos g] at this
        exact this
      · refine Ok_be (e_ownedWorths hn (by decide) w1) ?_
        rw [if_neg g] at this
        exact this
  | succ k ih =>
    intro t i a M hi ht h7 sk wf hk
    cases t with
    | zero => omega
    | succ t =>
      have b := sW wf
      have ld := hd (nx (Int32.ofInt a))
      obtain ⟨A, eA, hA1, hA2, hA3⟩ := hs a
      rw [m_X5_lots_75]
      rw [← eA]
      simp only [Int.toNat_natCast, lt, hA3]
      rw [frm] at hk
      repeat (first
          | with_reducible refine Ok_g (by first | assumption | omega) ?_
          | with_reducible refine Ok_lt ?_
          | with_reducible refine Ok_wr ?_
          | with_reducible refine Ok_t (by first | assumption | omega) ?_
          | with_reducible refine Ok_f (by first | assumption | omega) ?_)
      have e5 : vw (mup M 27 i (dr (nx (Int32.ofInt a)))) 22 = uset (vw M 22) 5 i (dr (nx (Int32.ofInt a))) := vw_set (w := 22) (k := 5) (by omega) (by decide) (by decide) (by decide) (show i < 8 by omega)
      have e6 : vw (mup (mup M 27 i (dr (nx (Int32.ofInt a)))) 28 i (-1)) 22 = uset (uset (vw M 22) 5 i (dr (nx (Int32.ofInt a)))) 6 i (-1) := by
        rw [← e5]
        exact vw_set (w := 22) (k := 6) (by decide) (by decide) (by decide) (by decide) (show i < 8 by omega)
      refine ih t (i + 1) A _ (by omega) (by omega) (by rw [rd_upne _ _ _ _ _ _ (by omega), rd_upne _ _ _ _ _ _ (by omega)]; exact h7) (SkyOk_keep sk (fun q j _ _ => by rw [mup_n _ (by omega), mup_n _ (by omega)])) (by rw [e6]; exact WF_set (WF_set wf 5 i ld.1 ld.2) 6 i (Int.le_refl (-1)) (show (-1 : Int) ≤ 4 by decide)) ?_
      intro M' a' k1 km ha
      rw [hA1, e6] at ha
      have := hk M' a' k1 (KM_trans (KM_trans (KM_up (by omega)) (KM_up (by omega))) km) ha
      rw [hA1, e6]
      exact this
theorem e_lots_46 {n N : Nat} {a3 : Int} {nx : Int32 → Int32} {dr : Int32 → Int} {M0 : Mem} (hn : 2000 ≤ n) (h3 : I32 a3) (hd : ∀ y, 0 ≤ dr y ∧ dr y ≤ 23)
    (hs : ∀ a : Int, ∃ A, A = a * 1103515245 + 12345 ∧ Int32.ofInt A = nx (Int32.ofInt a) ∧ I32 (bShr (bAnd A 2147483647) 16) ∧ Int.tmod (bShr (bAnd A 2147483647) 16) 24 = dr (nx (Int32.ofInt a))) (hN : N ≤ 20) (wf0 : WF 999 (vw M0 0)) : ∀ (k t i : Nat) (a v : Int) (M : Mem), i + k = N → k < t → SkyOk M → KM M0 M → 0 ≤ v ∧ v ≤ 72 * i →
    Ok (m_X5_lots_46 n t M (N : Int) a3 a v (i : Int)) (fun r M' => r = (frm (loE nx dr (vw M0 0) a3) k i (Int32.ofInt a, v)).2 ∧ I32 r ∧ SkyOk M' ∧ KM M0 M') := by
  have b0 := sW wf0
  intro k
  induction k with
  | zero =>
    intro t i a v M hi ht sk km hv
    cases t with
    | zero => omega
    | succ t =>
      rw [m_X5_lots_46]
      repeat (first
          | with_reducible refine Ok_g (by first | assumption | omega) ?_
          | with_reducible refine Ok_lt ?_
          | with_reducible refine Ok_t (by first | assumption | omega) ?_
          | with_reducible refine Ok_f (by first | assumption | omega) ?_)
      exact Ok_ret ⟨rfl, by omega, sk, km⟩
  | succ k ih =>
    intro t i a v M hi ht sk km hv
    cases t with
    | zero => omega
    | succ t =>
      have e0 := vw0_KM km
      have wM : WF 999 (vw M 0) := by rw [e0]; exact wf0
      rw [m_X5_lots_46]
      repeat (first
          | with_reducible refine Ok_g (by first | assumption | omega) ?_
          | with_reducible refine Ok_lt ?_
          | with_reducible refine Ok_t (by first | assumption | omega) ?_
          | with_reducible refine Ok_f (by first | assumption | omega) ?_)
      refine Ok_bd (e_begin hn sk wM (by decide)) ?_
      rintro _ M1 ⟨v1, k1, l1, f1⟩
      have w1 : WF 999 (vw M1 22) := by rw [v1]; exact wM
      have b1 := sW w1
      have e7 : rd M1 22 7 = rd M0 0 7 := by rw [← b1.1.2.1, v1, e0, b0.1.2.1]
      refine e_lots_75 (nx := nx) (dr := dr) (T := (rd M0 0 7).toNat) hn h3 hd hs (rd M0 0 7).toNat n 0 a M1 (by omega) (by omega) (by omega) k1 w1 ?_
      intro M2 a' k2 km2 ha
      rw [v1, e0, ← b0.1.2.1] at ha
      rw [v1, e0, ← b0.1.2.1]
      have gb := loG_b (loF_wf (nx := nx) hd (vw M0 0 0 7).toNat 0 (Int32.ofInt a, vw M0 0) wf0) a3
      have ih' := ih t (i + 1) a' (v + loG (frm (loF nx dr) (vw M0 0 0 7).toNat 0 (Int32.ofInt a, vw M0 0)).2 a3) M2 (by omega) (by omega) k2 (KM_trans (fun q j hq => by rw [f1 q j (by omega), km q j hq]) km2) (by omega)
      rw [ha] at ih'
      rw [frm]
      exact ih'
theorem r_draw {n : Nat} {M : Mem} {nx : Int32 → Int32} {dr : Int32 → Int}
    (hs : ∀ a : Int, ∃ A, A = a * 1103515245 + 12345 ∧ Int32.ofInt A = nx (Int32.ofInt a) ∧ I32 (bAnd (nx (Int32.ofInt a)).toInt 2147483647) ∧ I32 (Int.tdiv (bAnd (nx (Int32.ofInt a)).toInt 2147483647) 65536) ∧ Int.tmod (Int.tdiv (bAnd (nx (Int32.ofInt a)).toInt 2147483647) 65536) 24 = dr (nx (Int32.ofInt a))) :
    ∃ A, m_X6_draw n M 24 = some (dr (nx (M 137 32)), mup M 137 32 A) ∧ mup M 137 32 A 137 32 = nx (M 137 32) := by
  obtain ⟨A, eA, hA1, hA2, hA3, hA4⟩ := hs (rd M 137 32)
  rw [rd_c] at hA1 hA2 hA3 hA4
  have e : mup M 137 32 A 137 32 = nx (M 137 32) := by
    show (if 137 = 137 ∧ 32 = 32 then Int32.ofInt A else _) = _
    rw [if_pos ⟨rfl, rfl⟩, hA1]
  refine ⟨A, ?_, e⟩
  refine Ok_eq ?_
  unfold m_X6_draw
  rw [← eA]
  refine Ok_wr ?_
  have er : rd (mup M 137 32 A) 137 32 = (nx (M 137 32)).toInt := congrArg Int32.toInt e
  rw [er, hA4]
  repeat (first
      | with_reducible refine Ok_g (by first | assumption | omega) ?_
      | with_reducible refine Ok_lt ?_
      | with_reducible refine Ok_t (by first | assumption | omega) ?_
      | with_reducible refine Ok_f (by first | assumption | omega) ?_)
  exact Ok_ret ⟨rfl, rfl⟩
theorem vw_32 (M : Mem) (v : Int) : vw (mup M 137 32 v) 137 = vw M 137 := vw_congr (fun i _ => mup_n _ (by omega)) (fun a i _ _ => mup_n _ (by omega)) (fun z => absurd z (by decide)) (fun _ => ⟨mup_n _ (by omega), mup_n _ (by omega)⟩)
theorem r_liesByLot_2 {n T : Nat} {nx : Int32 → Int32} {dr : Int32 → Int} (hd : ∀ y, 0 ≤ dr y ∧ dr y ≤ 23) (hw : ∀ M : Mem, ∃ A, m_X6_draw n M 24 = some (dr (nx (M 137 32)), mup M 137 32 A) ∧ mup M 137 32 A 137 32 = nx (M 137 32)) (hT : T ≤ 8) : ∀ (k t i : Nat) (M : Mem), i + k = T → k < t → rd M 137 7 = T →
    Ok (m_X6_liesByLot_2 n t M (i : Int)) (fun _ M' => (M' 137 32, vw M' 137) = frm (loF nx dr) k i (M 137 32, vw M 137) ∧ KX M M') := by
  intro k
  induction k with
  | zero =>
    intro t i M hi ht h7
    cases t with
    | zero => omega
    | succ t =>
      rw [m_X6_liesByLot_2]
      repeat (first
          | with_reducible refine Ok_g (by first | assumption | omega) ?_
          | with_reducible refine Ok_lt ?_
          | with_reducible refine Ok_t (by first | assumption | omega) ?_
          | with_reducible refine Ok_f (by first | assumption | omega) ?_)
      exact Ok_ret ⟨rfl, KX_refl M⟩
  | succ k ih =>
    intro t i M hi ht h7
    cases t with
    | zero => omega
    | succ t =>
      obtain ⟨A, d1, d2⟩ := hw M
      have ld := hd (nx (M 137 32))
      rw [m_X6_liesByLot_2]
      rw [frm]
      repeat (first
          | with_reducible refine Ok_g (by first | assumption | omega) ?_
          | with_reducible refine Ok_lt ?_
          | with_reducible refine Ok_t (by first | assumption | omega) ?_
          | with_reducible refine Ok_f (by first | assumption | omega) ?_)
      refine Ok_be d1 ?_
      simp only [Int.toNat_natCast]
      repeat (first
          | with_reducible refine Ok_g (by first | assumption | omega) ?_
          | with_reducible refine Ok_lt ?_
          | with_reducible refine Ok_wr ?_
          | with_reducible refine Ok_t (by first | assumption | omega) ?_
          | with_reducible refine Ok_f (by first | assumption | omega) ?_)
      have e5 : vw (mup (mup M 137 32 A) 142 i (dr (nx (M 137 32)))) 137 = uset (vw M 137) 5 i (dr (nx (M 137 32))) := by
        rw [← vw_32 M A]
        exact vw_set (w := 137) (k := 5) (by omega) (by decide) (by decide) (by decide) (show i < 8 by omega)
      have e6 : vw (mup (mup (mup M 137 32 A) 142 i (dr (nx (M 137 32)))) 143 i (-9)) 137 = uset (uset (vw M 137) 5 i (dr (nx (M 137 32)))) 6 i (-1) := by
        rw [← e5]
        exact vw_set (w := 137) (k := 6) (by decide) (by decide) (by decide) (by decide) (show i < 8 by omega)
      refine Ok_mono (ih t (i + 1) _ (by omega) (by omega) (by rw [rd_upne _ _ _ _ _ _ (by omega), rd_upne _ _ _ _ _ _ (by omega), rd_upne _ _ _ _ _ _ (by omega)]; exact h7)) ?_
      rintro _ M' ⟨h1, h2⟩
      refine ⟨?_, KX_trans (KX_up (by omega)) (KX_trans (KX_up (by omega)) (KX_trans (KX_up (by omega)) h2))⟩
      rw [h1, e6, mup_n _ (by omega), mup_n _ (by omega), d2]
      rfl
theorem r_lots_50 {n N : Nat} {a3 : Int} {u : US} {nx : Int32 → Int32} {dr : Int32 → Int} (hd : ∀ y, 0 ≤ dr y ∧ dr y ≤ 23) (hw : ∀ M : Mem, ∃ A, m_X6_draw n M 24 = some (dr (nx (M 137 32)), mup M 137 32 A) ∧ mup M 137 32 A 137 32 = nx (M 137 32)) (hn : 2000 ≤ n) (h3 : I32 a3) (hN : N ≤ 20) (wu : WF 999 u) : ∀ (k t i : Nat) (y : Int32) (v : Int) (M : Mem), i + k = N → k < t → Sim M → vw M 0 = u → M 137 32 = y → 0 ≤ v ∧ v ≤ 72 * i →
    Ok (m_X6_lots_50 n t M (N : Int) a3 v (i : Int)) (fun r M' => r = (frm (loE nx dr u a3) k i (y, v)).2 ∧ Sim M') := by
  intro k
  induction k with
  | zero =>
    intro t i y v M hi ht s hu hy hv
    cases t with
    | zero => omega
    | succ t =>
      rw [m_X6_lots_50]
      repeat (first
          | with_reducible refine Ok_g (by first | assumption | omega) ?_
          | with_reducible refine Ok_lt ?_
          | with_reducible refine Ok_t (by first | assumption | omega) ?_
          | with_reducible refine Ok_f (by first | assumption | omega) ?_)
      exact Ok_ret ⟨rfl, s⟩
  | succ k ih =>
    intro t i y v M hi ht s hu hy hv
    cases t with
    | zero => omega
    | succ t =>
      have bu := (wF wu).2.1
      rw [m_X6_lots_50]
      unfold m_X6_lots_87 m_X6_liesByLot
      repeat (first
          | with_reducible refine Ok_g (by first | assumption | omega) ?_
          | with_reducible refine Ok_lt ?_
          | with_reducible refine Ok_t (by first | assumption | omega) ?_
          | with_reducible refine Ok_f (by first | assumption | omega) ?_)
      refine Ok_bd (r_minds hn s) ?_
      rintro _ M1 ⟨v1, md, f1⟩
      have e1 : vw M1 137 = u := by rw [v1, s.1, hu]
      have y1 : M1 137 32 = y := by rw [f1 _ _ (by omega) (by omega)]; exact hy
      refine Ok_bd (r_liesByLot_2 (nx := nx) (dr := dr) hd hw (T := (u 0 7).toNat) (by omega) (u 0 7).toNat n 0 M1 (by omega) (by omega) (by rw [← vw_s (w := 137) (by omega), e1]; omega)) ?_
      rintro _ M2 ⟨e2, k2⟩
      rw [e1, y1] at e2
      have ey : M2 137 32 = (frm (loF nx dr) (u 0 7).toNat 0 (y, u)).1 := congrArg Prod.fst e2
      have eu : vw M2 137 = (frm (loF nx dr) (u 0 7).toNat 0 (y, u)).2 := congrArg Prod.snd e2
      have w2 : WF 999 (vw M2 137) := by rw [eu]; exact loF_wf hd _ _ _ wu
      refine Ok_bd (r_goes (N := 10) (H := 999) hn (by decide) (by decide) w2) ?_
      rintro _ M3 ⟨v3, k3⟩
      have v4 : vw M3 137 = hoursS 10 (vw M2 137) := v3
      have w3 : WF 1200 (vw M3 137) := by
        rw [v4]
        exact WF_le (hoursS_wf 10 0 _ w2) (by decide)
      have gb := loG_b w2 a3
      have nxt : ∀ x, x = loG (vw M2 137) a3 → Ok (bd (m_X6_forgets n M3) (fun _ M1 => m_X6_lots_50 n t M1 (N : Int) a3 (v + x) ((i : Int) + 1))) (fun r M' => r = (frm (loE nx dr u a3) (k + 1) i (y, v)).2 ∧ Sim M') := by
        intro x hx
        refine Ok_bd (r_forgets hn s md (KX_trans k2 (KX_G k3))) ?_
        rintro _ M4 ⟨s4, v5, _, _, f32⟩
        have y4 : M4 137 32 = (frm (loF nx dr) (u 0 7).toNat 0 (y, u)).1 := by
          rw [f32, k3 137 32 (by omega) (by omega) (by omega) (by omega) (by omega), ey]
        rw [frm]
        have := ih t (i + 1) _ (v + x) M4 (by omega) (by omega) s4 (by rw [← s4.1, v5, s.1, hu]) y4 (by omega)
        rw [hx, eu] at this ⊢
        exact this
      repeat (first
          | with_reducible refine Ok_g (by first | assumption | omega) ?_
          | with_reducible refine Ok_lt ?_
          | with_reducible refine Ok_t (by first | assumption | omega) ?_
          | with_reducible refine Ok_f (by first | assumption | omega) ?_)
      refine Ok_if (fun g => ?_) (fun g => ?_)
      · refine Ok_be (r_many hn w3) ?_
        exact nxt _ (by unfold loG; rw [if_pos g, v4])
      · refine Ok_be (r_riches hn w3) ?_
        exact nxt _ (by unfold loG; rw [if_neg g, v4])
theorem sim_32 {M : Mem} (s : Sim M) (v : Int) : Sim (mup M 137 32 v) := sim_KR s (fun q i _ _ _ _ _ h => mup_n _ (by omega)) (vw_32 M v)
theorem lo_hs (a : Int) : ∃ A, A = a * 1103515245 + 12345 ∧ Int32.ofInt A = loY (Int32.ofInt a) ∧ I32 (bShr (bAnd A 2147483647) 16) ∧ Int.tmod (bShr (bAnd A 2147483647) 16) 24 = loD (loY (Int32.ofInt a)) := by
  refine ⟨_, rfl, lo_seed a, ?_⟩
  have h := lo_seed a
  generalize a * 1103515245 + 12345 = A at h ⊢
  generalize loY (Int32.ofInt a) = y at h ⊢
  have lv := loV_b y
  have ea : bAnd A 2147483647 = loV y := by
    unfold bAnd loV
    rw [h]
  rw [ea, lo_sh lv, tm (show 0 ≤ loV y / 65536 by omega)]
  exact ⟨by omega, rfl⟩
theorem lo_hr (a : Int) : ∃ A, A = a * 1103515245 + 12345 ∧ Int32.ofInt A = loY (Int32.ofInt a) ∧ I32 (bAnd (loY (Int32.ofInt a)).toInt 2147483647) ∧ I32 (Int.tdiv (bAnd (loY (Int32.ofInt a)).toInt 2147483647) 65536) ∧ Int.tmod (Int.tdiv (bAnd (loY (Int32.ofInt a)).toInt 2147483647) 65536) 24 = loD (loY (Int32.ofInt a)) := by
  refine ⟨_, rfl, lo_seed a, ?_⟩
  generalize loY (Int32.ofInt a) = y
  have lv := loV_b y
  have ea : bAnd y.toInt 2147483647 = loV y := by
    unfold bAnd loV
    rw [i_ofToInt]
  rw [ea, td lv.1, tm (show 0 ≤ loV y / 65536 by omega)]
  exact ⟨by omega, by omega, rfl⟩
theorem q_lots {n : Nat} {M : Mem} {a b c : Int} (hn : 2000 ≤ n) (s : Sim M) (ha : I32 a) (hb : I32 b) (hc : I32 c) : Agr (m_X5_lots n M a b c) (fun M1 => m_X6_lots n M1 a b c) := by
  unfold Agr m_X5_lots
  by_cases ha0 : a < 1
  · repeat (first
        | with_reducible refine Ok_g (by first | assumption | omega) ?_
        | with_reducible refine Ok_lt ?_
        | with_reducible refine Ok_t (by first | assumption | omega) ?_
        | with_reducible refine Ok_f (by first | assumption | omega) ?_
        | with_reducible refine Ok_be (e_hasF (by decide) (by assumption)) ?_
        | with_reducible refine Ok_be (e_hasT (by decide) (by assumption)) ?_
        | with_reducible refine Ok_be (e_hasP (by decide) (by assumption)) ?_
        | with_reducible refine Ok_be (e_isCell (by first | assumption | omega)) ?_
        | with_reducible refine Ok_be (e_oor (by assumption) (by decide) (by decide)) ?_
        | with_reducible refine Ok_be (r_isIn (by first | assumption | omega) (by first | decide | omega) (by first | decide | omega)) ?_
        | with_reducible refine Ok_be (r_bound (by assumption) (by decide) (by decide)) ?_
        | with_reducible refine Ok_be (r_isF (by assumption) (by assumption)) ?_
        | with_reducible refine Ok_be (r_isT (by assumption) (by assumption)) ?_
        | with_reducible refine Ok_be (r_isP (by assumption) (by assumption)) ?_
        | with_reducible refine Ok_be (r_isCell (by first | assumption | omega)) ?_)
    refine Ok_be (e_refuse 4 (by omega) (by decide) (by decide)) (Ok_ret ⟨by decide, ?_⟩)
    obtain ⟨wf1, rf1, rf2⟩ := sim_rf s (M1 := bump 134 M 4) (fun q i h => bump_ne (by omega))
    unfold m_X6_lots m_X6_lots_27
    repeat (first
        | with_reducible refine Ok_g (by first | assumption | omega) ?_
        | with_reducible refine Ok_lt ?_
        | with_reducible refine Ok_t (by first | assumption | omega) ?_
        | with_reducible refine Ok_f (by first | assumption | omega) ?_
        | with_reducible refine Ok_be (e_hasF (by decide) (by assumption)) ?_
        | with_reducible refine Ok_be (e_hasT (by decide) (by assumption)) ?_
        | with_reducible refine Ok_be (e_hasP (by decide) (by assumption)) ?_
        | with_reducible refine Ok_be (e_isCell (by first | assumption | omega)) ?_
        | with_reducible refine Ok_be (e_oor (by assumption) (by decide) (by decide)) ?_
        | with_reducible refine Ok_be (r_isIn (by first | assumption | omega) (by first | decide | omega) (by first | decide | omega)) ?_
        | with_reducible refine Ok_be (r_bound (by assumption) (by decide) (by decide)) ?_
        | with_reducible refine Ok_be (r_isF (by assumption) (by assumption)) ?_
        | with_reducible refine Ok_be (r_isT (by assumption) (by assumption)) ?_
        | with_reducible refine Ok_be (r_isP (by assumption) (by assumption)) ?_
        | with_reducible refine Ok_be (r_isCell (by first | assumption | omega)) ?_)
    exact Ok_be (r_no 4 (by omega) (by decide) (by decide)) (Ok_ret ⟨rfl, sim_bump s 4⟩)
  by_cases ha4 : 20 < a
  · repeat (first
        | with_reducible refine Ok_g (by first | assumption | omega) ?_
        | with_reducible refine Ok_lt ?_
        | with_reducible refine Ok_t (by first | assumption | omega) ?_
        | with_reducible refine Ok_f (by first | assumption | omega) ?_
        | with_reducible refine Ok_be (e_hasF (by decide) (by assumption)) ?_
        | with_reducible refine Ok_be (e_hasT (by decide) (by assumption)) ?_
        | with_reducible refine Ok_be (e_hasP (by decide) (by assumption)) ?_
        | with_reducible refine Ok_be (e_isCell (by first | assumption | omega)) ?_
        | with_reducible refine Ok_be (e_oor (by assumption) (by decide) (by decide)) ?_
        | with_reducible refine Ok_be (r_isIn (by first | assumption | omega) (by first | decide | omega) (by first | decide | omega)) ?_
        | with_reducible refine Ok_be (r_bound (by assumption) (by decide) (by decide)) ?_
        | with_reducible refine Ok_be (r_isF (by assumption) (by assumption)) ?_
        | with_reducible refine Ok_be (r_isT (by assumption) (by assumption)) ?_
        | with_reducible refine Ok_be (r_isP (by assumption) (by assumption)) ?_
        | with_reducible refine Ok_be (r_isCell (by first | assumption | omega)) ?_)
    refine Ok_be (e_refuse 6 (by omega) (by decide) (by decide)) (Ok_ret ⟨by decide, ?_⟩)
    obtain ⟨wf1, rf1, rf2⟩ := sim_rf s (M1 := bump 134 M 6) (fun q i h => bump_ne (by omega))
    unfold m_X6_lots m_X6_lots_27
    repeat (first
        | with_reducible refine Ok_g (by first | assumption | omega) ?_
        | with_reducible refine Ok_lt ?_
        | with_reducible refine Ok_t (by first | assumption | omega) ?_
        | with_reducible refine Ok_f (by first | assumption | omega) ?_
        | with_reducible refine Ok_be (e_hasF (by decide) (by assumption)) ?_
        | with_reducible refine Ok_be (e_hasT (by decide) (by assumption)) ?_
        | with_reducible refine Ok_be (e_hasP (by decide) (by assumption)) ?_
        | with_reducible refine Ok_be (e_isCell (by first | assumption | omega)) ?_
        | with_reducible refine Ok_be (e_oor (by assumption) (by decide) (by decide)) ?_
        | with_reducible refine Ok_be (r_isIn (by first | assumption | omega) (by first | decide | omega) (by first | decide | omega)) ?_
        | with_reducible refine Ok_be (r_bound (by assumption) (by decide) (by decide)) ?_
        | with_reducible refine Ok_be (r_isF (by assumption) (by assumption)) ?_
        | with_reducible refine Ok_be (r_isT (by assumption) (by assumption)) ?_
        | with_reducible refine Ok_be (r_isP (by assumption) (by assumption)) ?_
        | with_reducible refine Ok_be (r_isCell (by first | assumption | omega)) ?_)
    exact Ok_be (r_no 6 (by omega) (by decide) (by decide)) (Ok_ret ⟨rfl, sim_bump s 6⟩)
  have main : c = 0 ∨ c = 1 → Ok (m_X5_lots_37 n M a b c) (fun r M1 => I32 r ∧ Ok (m_X6_lots n M1 a b c) (fun r' M2 => r' = r ∧ Sim M2)) := by
    intro hc01
    have hs := lo_hs
    have hw := fun M : Mem => r_draw (n := n) (M := M) lo_hr
    have hd := loD_b
    generalize loY = nx at hs hw hd
    generalize loD = dr at hs hw hd
    obtain ⟨N, rfl⟩ := Int.eq_ofNat_of_zero_le (show 0 ≤ a by omega)
    unfold m_X5_lots_37
    refine Ok_mono (e_lots_46 (nx := nx) (dr := dr) (M0 := M) hn hc hd hs (by omega) s.2.1 N n 0 b 0 M (by omega) (by omega) s.2.2.1 (KM_refl M) (by omega)) ?_
    rintro r M1 ⟨er, ir, k1, km⟩
    refine ⟨ir, ?_⟩
    have s1 := sim_KM s k1 km
    have e0 := vw0_KM km
    unfold m_X6_lots m_X6_lots_27
    repeat (first
        | with_reducible refine Ok_g (by first | assumption | omega) ?_
        | with_reducible refine Ok_lt ?_
        | with_reducible refine Ok_t (by first | assumption | omega) ?_
        | with_reducible refine Ok_f (by first | assumption | omega) ?_
        | with_reducible refine Ok_be (e_hasF (by decide) (by assumption)) ?_
        | with_reducible refine Ok_be (e_hasT (by decide) (by assumption)) ?_
        | with_reducible refine Ok_be (e_hasP (by decide) (by assumption)) ?_
        | with_reducible refine Ok_be (e_isCell (by first | assumption | omega)) ?_
        | with_reducible refine Ok_be (e_oor (by assumption) (by decide) (by decide)) ?_
        | with_reducible refine Ok_be (r_isIn (by first | assumption | omega) (by first | decide | omega) (by first | decide | omega)) ?_
        | with_reducible refine Ok_be (r_bound (by assumption) (by decide) (by decide)) ?_
        | with_reducible refine Ok_be (r_isF (by assumption) (by assumption)) ?_
        | with_reducible refine Ok_be (r_isT (by assumption) (by assumption)) ?_
        | with_reducible refine Ok_be (r_isP (by assumption) (by assumption)) ?_
        | with_reducible refine Ok_be (r_isCell (by first | assumption | omega)) ?_)
    refine Ok_wr ?_
    have s2 := sim_32 s1 b
    have e2 : vw (mup M1 137 32 b) 0 = vw M 0 := by rw [← s2.1, vw_32, s1.1, e0]
    refine Ok_mono (r_lots_50 (nx := nx) (dr := dr) hd hw hn hc (by omega) s.2.1 N n 0 (Int32.ofInt b) 0 _ (by omega) (by omega) s2 e2 ?_ (by omega)) ?_
    · show (if 137 = 137 ∧ 32 = 32 then Int32.ofInt b else _) = _
      rw [if_pos ⟨rfl, rfl⟩]
    · rintro r' M2 ⟨er', s3⟩
      exact ⟨by rw [er', er], s3⟩
  repeat (first
      | with_reducible refine Ok_g (by first | assumption | omega) ?_
      | with_reducible refine Ok_lt ?_
      | with_reducible refine Ok_t (by first | assumption | omega) ?_
      | with_reducible refine Ok_f (by first | assumption | omega) ?_
      | with_reducible refine Ok_be (e_hasF (by decide) (by assumption)) ?_
      | with_reducible refine Ok_be (e_hasT (by decide) (by assumption)) ?_
      | with_reducible refine Ok_be (e_hasP (by decide) (by assumption)) ?_
      | with_reducible refine Ok_be (e_isCell (by first | assumption | omega)) ?_
      | with_reducible refine Ok_be (e_oor (by assumption) (by decide) (by decide)) ?_
      | with_reducible refine Ok_be (r_isIn (by first | assumption | omega) (by first | decide | omega) (by first | decide | omega)) ?_
      | with_reducible refine Ok_be (r_bound (by assumption) (by decide) (by decide)) ?_
      | with_reducible refine Ok_be (r_isF (by assumption) (by assumption)) ?_
      | with_reducible refine Ok_be (r_isT (by assumption) (by assumption)) ?_
      | with_reducible refine Ok_be (r_isP (by assumption) (by assumption)) ?_
      | with_reducible refine Ok_be (r_isCell (by first | assumption | omega)) ?_)
  refine Ok_if (fun g => main (.inl g)) (fun g => ?_)
  refine Ok_if (fun g1 => main (.inr g1)) (fun g1 => ?_)
  refine Ok_be (e_refuse 2 (by omega) (by decide) (by decide)) (Ok_ret ⟨by decide, ?_⟩)
  obtain ⟨wf1, rf1, rf2⟩ := sim_rf s (M1 := bump 134 M 2) (fun q i h => bump_ne (by omega))
  unfold m_X6_lots m_X6_lots_27
  repeat (first
      | with_reducible refine Ok_g (by first | assumption | omega) ?_
      | with_reducible refine Ok_lt ?_
      | with_reducible refine Ok_t (by first | assumption | omega) ?_
      | with_reducible refine Ok_f (by first | assumption | omega) ?_
      | with_reducible refine Ok_be (e_hasF (by decide) (by assumption)) ?_
      | with_reducible refine Ok_be (e_hasT (by decide) (by assumption)) ?_
      | with_reducible refine Ok_be (e_hasP (by decide) (by assumption)) ?_
      | with_reducible refine Ok_be (e_isCell (by first | assumption | omega)) ?_
      | with_reducible refine Ok_be (e_oor (by assumption) (by decide) (by decide)) ?_
      | with_reducible refine Ok_be (r_isIn (by first | assumption | omega) (by first | decide | omega) (by first | decide | omega)) ?_
      | with_reducible refine Ok_be (r_bound (by assumption) (by decide) (by decide)) ?_
      | with_reducible refine Ok_be (r_isF (by assumption) (by assumption)) ?_
      | with_reducible refine Ok_be (r_isT (by assumption) (by assumption)) ?_
      | with_reducible refine Ok_be (r_isP (by assumption) (by assumption)) ?_
      | with_reducible refine Ok_be (r_isCell (by first | assumption | omega)) ?_)
  exact Ok_be (r_no 2 (by omega) (by decide) (by decide)) (Ok_ret ⟨rfl, sim_bump s 2⟩)
