/-! which front it was, two who run home or go on -/
def blS (rw : Nat → Int) (u : US) (c : Int) : Nat → Nat → Int
  | 0, _ => 1
  | k + 1, i => if airS u c (u 0 13 + i) = rw i then blS rw u c k (i + 1) else 0
theorem blS_b (rw : Nat → Int) (u : US) (c : Int) : ∀ k i, blS rw u c k i = 0 ∨ blS rw u c k i = 1
  | 0, _ => .inr rfl
  | k + 1, i => by
    have := blS_b rw u c k (i + 1)
    simp only [blS]
    split
    · exact this
    · exact .inl rfl
theorem e_air_2 {n R : Nat} {rw : Nat → Int} {c : Int} {u : US} (hn : 2000 ≤ n) (hR : R ≤ 12) (hc : 0 ≤ c ∧ c ≤ 23) (wu : WF 999 u) (h21 : u 0 21 = 0) : ∀ k t (i : Nat) M, i + k = R → k < t → rd M 130 8 = R → (∀ j, j < R → rd M 133 j = rw j) → SkyOk M → vw M 22 = uset u 0 13 (u 0 13 + i) →
    Ok (m_X5_airIsAsTheRow_2 n t M c (i : Int)) (fun r M' => r = blS rw u c k i ∧ SkyOk M' ∧ KM M M') := by
  have bu := wF wu
  intro k
  induction k with
  | zero =>
    intro t i M hi ht h8 hrw sk hv
    cases t with
    | zero => omega
    | succ t =>
      rw [m_X5_airIsAsTheRow_2]
      repeat (first
          | with_reducible refine Ok_g (by first | assumption | omega) ?_
          | with_reducible refine Ok_lt ?_
          | with_reducible refine Ok_t (by first | assumption | omega) ?_
          | with_reducible refine Ok_f (by first | assumption | omega) ?_)
      exact Ok_ret ⟨rfl, sk, KM_refl M⟩
  | succ k ih =>
    intro t i M hi ht h8 hrw sk hv
    cases t with
    | zero => omega
    | succ t =>
      have w0 : WF 2000 (vw M 22) := by
        rw [hv]
        exact WF_set (WF_le wu (by decide)) 0 13 (by show (0 : Int) ≤ _; omega) (by show _ ≤ (2000 : Int); omega)
      have h13 : rd M 22 13 = u 0 13 + i := by
        rw [← vw_s (w := 22) (by omega), hv, uset_same]
      rw [m_X5_airIsAsTheRow_2]
      simp only [blS]
      repeat (first
          | with_reducible refine Ok_g (by first | assumption | omega) ?_
          | with_reducible refine Ok_lt ?_
          | with_reducible refine Ok_t (by first | assumption | omega) ?_
          | with_reducible refine Ok_f (by first | assumption | omega) ?_)
      refine Ok_bd (e_look hn sk w0 (by decide)) ?_
      rintro _ M1 ⟨k1, l1, v1, f1⟩
      have km : KM M M1 := fun q j hq => f1 q j (by omega) (by omega)
      refine Ok_be (e_airOn l1 hc) ?_
      have ea : airOS (vw M1 22) c (vw M1 22 0 13) = airS u c (u 0 13 + i) := by
        rw [v1, hv, uset_same]
        unfold airOS
        rw [uset_ni _ _ (by decide), h21, if_pos rfl, airS_hour]
      rw [ea]
      have ab := airS_b wu c (u 0 13 + i)
      have e133 : rd M1 133 i = rw i := by rw [rd_of (km _ _ (by omega))]; exact hrw i (by omega)
      simp only [Int.toNat_natCast, e133]
      repeat (first
          | with_reducible refine Ok_g (by first | assumption | omega) ?_
          | with_reducible refine Ok_lt ?_
          | with_reducible refine Ok_t (by first | assumption | omega) ?_
          | with_reducible refine Ok_f (by first | assumption | omega) ?_)
      refine Ok_if (fun g => ?_) (fun g => ?_)
      · rw [if_pos g]
        refine Ok_wr ?_
        have z13 : rd M1 22 13 = rd M 22 13 := rd_of (f1 _ _ (by omega) (by omega))
        refine Ok_mono (ih t (i + 1) _ (by omega) (by omega) ?_ ?_ ?_ ?_) ?_
        · rw [rd_upne _ _ _ _ _ _ (by omega), rd_of (km _ _ (by omega))]; exact h8
        · intro j hj
          rw [rd_upne _ _ _ _ _ _ (by omega), rd_of (km _ _ (by omega))]; exact hrw j hj
        · exact SkyOk_keep k1 (fun q j _ _ => mup_n _ (by omega))
        · rw [vw_sets (by omega) (by omega) (by omega), v1, hv, uset_twice]
          congr 1
          omega
        · rintro r M2 ⟨h1, h2, h3⟩
          exact ⟨h1, h2, KM_trans (KM_trans km (KM_up (by omega))) h3⟩
      · rw [if_neg g]
        exact Ok_ret ⟨rfl, k1, km⟩
def wfF (u : US) (rw : Nat → Int) (f R : Nat) (c : Int) : Nat → Int → Int := fun v s => if blS rw (uset u 1 f v) c R 0 = 1 then bOr s (bShl 1 v) else s
theorem e_which_29 {n f R : Nat} {rw : Nat → Int} {c : Int} {M0 : Mem} (hn : 2000 ≤ n) (hf : f < 6) (hR : R ≤ 12) (hc : 0 ≤ c ∧ c ≤ 23) (wf0 : WF 999 (vw M0 0)) (h8 : rd M0 130 8 = R) (hrw : ∀ j, j < R → rd M0 133 j = rw j) : ∀ k t (i : Nat) (v : Int) M, i + k = 7 → k < t → SkyOk M → KM M0 M →
    Ok (m_X5_whichFront_29 n t M (f : Int) c v (i : Int)) (fun r M' => r = frm (wfF (vw M0 0) rw f R c) k i v ∧ SkyOk M' ∧ KM M0 M') := by
  intro k
  induction k with
  | zero =>
    intro t i v M hi ht sk km
    cases t with
    | zero => omega
    | succ t =>
      rw [m_X5_whichFront_29]
      repeat (first
          | with_reducible refine Ok_g (by first | assumption | omega) ?_
          | with_reducible refine Ok_lt ?_
          | with_reducible refine Ok_t (by first | assumption | omega) ?_
          | with_reducible refine Ok_f (by first | assumption | omega) ?_)
      exact Ok_ret ⟨rfl, sk, km⟩
  | succ k ih =>
    intro t i v M hi ht sk km
    cases t with
    | zero => omega
    | succ t =>
      have e0 := vw0_KM km
      have wM : WF 999 (vw M 0) := by rw [e0]; exact wf0
      have wu : WF 999 (uset (vw M0 0) 1 f (i : Int)) := WF_set wf0 1 f (by show (0 : Int) ≤ _; omega) (by show _ ≤ (6 : Int); omega)
      rw [m_X5_whichFront_29]
      simp only [frm]
      repeat (first
          | with_reducible refine Ok_g (by first | assumption | omega) ?_
          | with_reducible refine Ok_lt ?_
          | with_reducible refine Ok_t (by first | assumption | omega) ?_
          | with_reducible refine Ok_f (by first | assumption | omega) ?_)
      refine Ok_bd (e_begin hn sk wM (by decide)) ?_
      rintro _ M1 ⟨v1, k1, l1, f1⟩
      repeat (first
          | with_reducible refine Ok_g (by first | assumption | omega) ?_
          | with_reducible refine Ok_lt ?_
          | with_reducible refine Ok_wr ?_
          | with_reducible refine Ok_t (by first | assumption | omega) ?_
          | with_reducible refine Ok_f (by first | assumption | omega) ?_)
      simp only [Int.toNat_natCast]
      have kq : KM M0 (mup M1 23 f (i : Int)) := fun a b g => by rw [mup_n _ (by omega), f1 a b (by omega), km a b g]
      have hv : vw (mup M1 23 f (i : Int)) 22 = uset (vw M0 0) 1 f (i : Int) := by
        rw [← e0, ← v1]
        exact vw_set (w := 22) (k := 1) (by omega) (by decide) (by decide) (by decide) (show f < 6 by omega)
      unfold m_X5_airIsAsTheRow
      refine Ok_bd (e_air_2 (R := R) (rw := rw) (u := uset (vw M0 0) 1 f (i : Int)) hn hR hc wu (by rw [uset_nk _ _ (by decide)]; rfl) R n 0 _ (by omega) (by omega) (by rw [rd_of (kq _ _ (by omega))]; exact h8) (fun j hj => by rw [rd_of (kq _ _ (by omega))]; exact hrw j hj) (SkyOk_keep k1 (fun a b _ _ => mup_n _ (by omega))) ?_) ?_
      · rw [hv]
        refine (uset_id _ _ _ ?_).symm
        show _ = _ + 0
        omega
      rintro r M2 ⟨er, k2, km2⟩
      have bb := blS_b rw (uset (vw M0 0) 1 f (i : Int)) c R 0
      rw [← er] at bb
      have km3 := KM_trans kq km2
      rcases bb with z | z
      · repeat (first
            | with_reducible refine Ok_g (by first | assumption | omega) ?_
            | with_reducible refine Ok_lt ?_
            | with_reducible refine Ok_t (by first | assumption | omega) ?_
            | with_reducible refine Ok_f (by first | assumption | omega) ?_)
        rw [show wfF (vw M0 0) rw f R c i v = v from if_neg (by rw [← er]; omega)]
        exact ih t (i + 1) v M2 (by omega) (by omega) k2 km3
      · repeat (first
            | with_reducible refine Ok_g (by first | assumption | omega) ?_
            | with_reducible refine Ok_lt ?_
            | with_reducible refine Ok_t (by first | assumption | omega) ?_
            | with_reducible refine Ok_f (by first | assumption | omega) ?_)
        rw [show wfF (vw M0 0) rw f R c i v = bOr v (bShl 1 i) from if_pos (by rw [← er]; exact z)]
        exact ih t (i + 1) _ M2 (by omega) (by omega) k2 km3
theorem r_blew_2 {n R : Nat} {rw : Nat → Int} {c : Int} {u : US} (hn : 2000 ≤ n) (hR : R ≤ 12) (hc : 0 ≤ c ∧ c ≤ 23) (wu : WF 999 u) (h21 : u 0 21 = 0) : ∀ k t (i : Nat) M, i + k = R → k < t → rd M 137 31 = R → (∀ j, j < R → rd M 156 j = rw j) → vw M 137 = u →
    Ok (m_X6_blewSo_2 n t M c (i : Int)) (fun r M' => r = blS rw u c k i ∧ KA M M') := by
  have bu := wF wu
  intro k
  induction k with
  | zero =>
    intro t i M hi ht h8 hrw hv
    cases t with
    | zero => omega
    | succ t =>
      rw [m_X6_blewSo_2]
      repeat (first
          | with_reducible refine Ok_g (by first | assumption | omega) ?_
          | with_reducible refine Ok_lt ?_
          | with_reducible refine Ok_t (by first | assumption | omega) ?_
          | with_reducible refine Ok_f (by first | assumption | omega) ?_)
      exact Ok_ret ⟨rfl, KA_refl M⟩
  | succ k ih =>
    intro t i M hi ht h8 hrw hv
    cases t with
    | zero => omega
    | succ t =>
      have h13 : rd M 137 13 = u 0 13 := by rw [← vw_s (w := 137) (by omega), hv]
      rw [m_X6_blewSo_2]
      simp only [blS]
      repeat (first
          | with_reducible refine Ok_g (by first | assumption | omega) ?_
          | with_reducible refine Ok_lt ?_
          | with_reducible refine Ok_t (by first | assumption | omega) ?_
          | with_reducible refine Ok_f (by first | assumption | omega) ?_)
      refine Ok_bd (r_airIn (H := 999) hn (by rw [hv]; exact wu) hc (by omega)) ?_
      rintro r M1 ⟨er, k1⟩
      have ab := airS_b wu c (u 0 13 + i)
      rw [hv, h13] at er
      unfold airOS at er
      rw [h21, if_pos rfl] at er
      subst er
      have e156 : rd M1 156 i = rw i := by rw [rd_of (k1 _ _ (by omega) (by omega))]; exact hrw i (by omega)
      simp only [Int.toNat_natCast, e156]
      repeat (first
          | with_reducible refine Ok_g (by first | assumption | omega) ?_
          | with_reducible refine Ok_lt ?_
          | with_reducible refine Ok_t (by first | assumption | omega) ?_
          | with_reducible refine Ok_f (by first | assumption | omega) ?_)
      refine Ok_if (fun g => ?_) (fun g => ?_)
      · rw [if_pos g]
        refine Ok_mono (ih t (i + 1) M1 (by omega) (by omega) (by rw [rd_of (k1 _ _ (by omega) (by omega))]; exact h8) (fun j hj => by rw [rd_of (k1 _ _ (by omega) (by omega))]; exact hrw j hj) (by rw [vwA k1, hv])) ?_
        rintro r M2 ⟨h1, h2⟩
        exact ⟨h1, KA_trans k1 h2⟩
      · rw [if_neg g]
        exact Ok_ret ⟨rfl, k1⟩
def K1 (M M' : Mem) : Prop := ∀ q i, q ≠ 138 → q ≠ 149 → q ≠ 150 → M' q i = M q i
theorem r_which_34 {n f R : Nat} {rw : Nat → Int} {c : Int} {u : US} {M0 : Mem} (hn : 2000 ≤ n) (hf : f < 6) (hR : R ≤ 12) (hc : 0 ≤ c ∧ c ≤ 23) (wu0 : WF 999 u) (h21 : u 0 21 = 0) : ∀ k t (i : Nat) (v : Int) M, i + k = 7 → k < t → rd M 137 31 = R → (∀ j, j < R → rd M 156 j = rw j) → K1 M0 M → (∃ y, vw M 137 = uset u 1 f y) → I32 v →
    Ok (m_X6_whichFront_34 n t M (f : Int) c v (u 1 f) (i : Int)) (fun r M' => r = frm (wfF u rw f R c) k i v ∧ vw M' 137 = u ∧ K1 M0 M') := by
  have bf := wFf wu0 f
  intro k
  induction k with
  | zero =>
    intro t i v M hi ht h31 hrw k0 hy hv
    cases t with
    | zero => omega
    | succ t =>
      obtain ⟨y, hy⟩ := hy
      rw [m_X6_whichFront_34]
      repeat (first
          | with_reducible refine Ok_g (by first | assumption | omega) ?_
          | with_reducible refine Ok_lt ?_
          | with_reducible refine Ok_wr ?_
          | with_reducible refine Ok_t (by first | assumption | omega) ?_
          | with_reducible refine Ok_f (by first | assumption | omega) ?_)
      simp only [Int.toNat_natCast]
      refine Ok_ret ⟨rfl, ?_, fun q i a b c => by rw [mup_n _ (by omega)]; exact k0 q i a b c⟩
      have e : vw (mup M 138 f (u 1 f)) 137 = uset (vw M 137) 1 f (u 1 f) := vw_set (w := 137) (k := 1) (by omega) (by decide) (by decide) (by decide) (show f < 6 by omega)
      rw [e, hy, uset_twice, uset_id _ _ _ rfl]
  | succ k ih =>
    intro t i v M hi ht h31 hrw k0 hy hv
    cases t with
    | zero => omega
    | succ t =>
      obtain ⟨y, hy⟩ := hy
      have wu : WF 999 (uset u 1 f (i : Int)) := WF_set wu0 1 f (by show (0 : Int) ≤ _; omega) (by show _ ≤ (6 : Int); omega)
      rw [m_X6_whichFront_34]
      simp only [frm]
      unfold m_X6_whichFront_66 m_X6_blewSo
      repeat (first
          | with_reducible refine Ok_g (by first | assumption | omega) ?_
          | with_reducible refine Ok_lt ?_
          | with_reducible refine Ok_wr ?_
          | with_reducible refine Ok_t (by first | assumption | omega) ?_
          | with_reducible refine Ok_f (by first | assumption | omega) ?_)
      simp only [Int.toNat_natCast]
      have e : vw (mup M 138 f (i : Int)) 137 = uset u 1 f (i : Int) := by
        have : vw (mup M 138 f (i : Int)) 137 = uset (vw M 137) 1 f (i : Int) := vw_set (w := 137) (k := 1) (by omega) (by decide) (by decide) (by decide) (show f < 6 by omega)
        rw [this, hy, uset_twice]
      refine Ok_bd (r_blew_2 (R := R) (rw := rw) hn hR hc wu (by rw [uset_nk _ _ (by decide)]; exact h21) R n 0 _ (by omega) (by omega) (by rw [rd_upne _ _ _ _ _ _ (by omega)]; exact h31) (fun j hj => by rw [rd_upne _ _ _ _ _ _ (by omega)]; exact hrw j hj) e) ?_
      rintro r M2 ⟨er, k2⟩
      have kk : K1 M0 M2 := fun q j a b c => by rw [k2 q j b c, mup_n _ (by omega)]; exact k0 q j a b c
      have e2 : vw M2 137 = uset u 1 f (i : Int) := by rw [vwA k2, e]
      have h31' : rd M2 137 31 = R := by rw [rd_of (k2 _ _ (by omega) (by omega)), rd_upne _ _ _ _ _ _ (by omega)]; exact h31
      have hrw' : ∀ j, j < R → rd M2 156 j = rw j := fun j hj => by rw [rd_of (k2 _ _ (by omega) (by omega)), rd_upne _ _ _ _ _ _ (by omega)]; exact hrw j hj
      have bb := blS_b rw (uset u 1 f (i : Int)) c R 0
      rw [← er] at bb
      rcases bb with z | z
      · repeat (first
            | with_reducible refine Ok_g (by first | assumption | omega) ?_
            | with_reducible refine Ok_lt ?_
            | with_reducible refine Ok_t (by first | assumption | omega) ?_
            | with_reducible refine Ok_f (by first | assumption | omega) ?_)
        rw [show wfF u rw f R c i v = v from if_neg (by rw [← er]; omega), bOr0 hv]
        exact ih t (i + 1) v M2 (by omega) (by omega) h31' hrw' kk ⟨_, e2⟩ hv
      · repeat (first
            | with_reducible refine Ok_g (by first | assumption | omega) ?_
            | with_reducible refine Ok_lt ?_
            | with_reducible refine Ok_t (by first | assumption | omega) ?_
            | with_reducible refine Ok_f (by first | assumption | omega) ?_)
        rw [show wfF u rw f R c i v = bOr v (bShl 1 i) from if_pos (by rw [← er]; exact z)]
        exact ih t (i + 1) _ M2 (by omega) (by omega) h31' hrw' kk ⟨_, e2⟩ (i_rng _)
theorem wf_b (u : US) (rw : Nat → Int) (f R : Nat) (c : Int) : I32 (frm (wfF u rw f R c) 7 0 0) := by
  have e : frm (wfF u rw f R c) 7 0 0 = _ := frm_set (C := fun v => blS rw (uset u 1 f v) c R 0 = 1) (d := fun _ => inferInstance) (k := 7) (by omega)
  rw [e]
  have l := bs_lt (fun v => decide (blS rw (uset u 1 f (v : Nat)) c R 0 = 1)) 7 0
  have : 2 ^ 7 = 128 := by decide
  omega
theorem q_whichFront {n : Nat} {M : Mem} {a b : Int} (hn : 2000 ≤ n) (s : Sim M) (ha : I32 a) (hb : I32 b) : Agr (m_X5_whichFront n M a b) (fun M1 => m_X6_whichFront n M1 a b) := by
  obtain ⟨wf0, vv0, rf0⟩ := sim_rf s (M1 := M) (fun _ _ _ => rfl)
  have row := s.2.2.2.2.2.2.2.1
  have hR8 : rd M 130 8 = (((rd M 130 8).toNat : Nat) : Int) := by have := row.2.1; omega
  have hR12 : (rd M 130 8).toNat ≤ 12 := by have := row.2.2.1; omega
  unfold Agr m_X5_whichFront m_X5_whichFront_18
  by_cases h : 0 ≤ a ∧ a < rd M 0 3
  · by_cases h2 : 0 ≤ b ∧ b < 24
    · obtain ⟨f, rfl⟩ := Int.eq_ofNat_of_zero_le h.1
      repeat (first
          | with_reducible refine Ok_g (by first | assumption | omega) ?_
          | with_reducible refine Ok_lt ?_
          | with_reducible refine Ok_t (by first | assumption | omega) ?_
          | with_reducible refine Ok_f (by first | assumption | omega) ?_
          | with_reducible refine Ok_be (e_hasF (by decide) (by assumption)) ?_
          | with_reducible refine Ok_be (e_hasT (by decide) (by assumption)) ?_
          | with_reducible refine Ok_be (e_hasP (by decide) (by assumption)) ?_
          | with_reducible refine Ok_be (e_isCell (by first | assumption | omega)) ?_
          | with_reducible refine Ok_be (e_oor (by assumption) (by decide) (by decide)) ?_
          | with_reducible refine Ok_be (r_isIn (by first | assumption | omega) (by first | decide | omega) (by first | decide | omega)) ?_
          | with_reducible refine Ok_be (r_bound (by assumption) (by decide) (by decide)) ?_
          | with_reducible refine Ok_be (r_isF (by assumption) (by assumption)) ?_
          | with_reducible refine Ok_be (r_isT (by assumption) (by assumption)) ?_
          | with_reducible refine Ok_be (r_isP (by assumption) (by assumption)) ?_
          | with_reducible refine Ok_be (r_isCell (by first | assumption | omega)) ?_
          | with_reducible refine Ok_be (r_areTwo (by assumption) (by assumption) (by assumption)) ?_)
      refine Ok_mono (e_which_29 (R := (rd M 130 8).toNat) (rw := fun j => rd M 133 j) (M0 := M) hn (by omega) hR12 (by omega) s.2.1 hR8 (fun _ _ => rfl) 7 n 0 0 M (by omega) (by omega) s.2.2.1 (KM_refl M)) ?_
      rintro r M1 ⟨er, k1, km⟩
      refine ⟨by rw [er]; exact wf_b _ _ _ _ _, ?_⟩
      have s1 := sim_KM s k1 km
      have e0 := vw0_KM km
      have z3 : rd M1 0 3 = rd M 0 3 := rd_of (km _ _ (by omega))
      obtain ⟨wf2, vv2, rf2⟩ := sim_rf s1 (M1 := M1) (fun _ _ _ => rfl)
      have row1 := s1.2.2.2.2.2.2.2.1
      have z8 : rd M1 130 8 = rd M 130 8 := rd_of (km _ _ (by omega))
      unfold m_X6_whichFront m_X6_whichFront_15
      repeat (first
          | with_reducible refine Ok_g (by first | assumption | omega) ?_
          | with_reducible refine Ok_lt ?_
          | with_reducible refine Ok_t (by first | assumption | omega) ?_
          | with_reducible refine Ok_f (by first | assumption | omega) ?_
          | with_reducible refine Ok_be (e_hasF (by decide) (by assumption)) ?_
          | with_reducible refine Ok_be (e_hasT (by decide) (by assumption)) ?_
          | with_reducible refine Ok_be (e_hasP (by decide) (by assumption)) ?_
          | with_reducible refine Ok_be (e_isCell (by first | assumption | omega)) ?_
          | with_reducible refine Ok_be (e_oor (by assumption) (by decide) (by decide)) ?_
          | with_reducible refine Ok_be (r_isIn (by first | assumption | omega) (by first | decide | omega) (by first | decide | omega)) ?_
          | with_reducible refine Ok_be (r_bound (by assumption) (by decide) (by decide)) ?_
          | with_reducible refine Ok_be (r_isF (by assumption) (by assumption)) ?_
          | with_reducible refine Ok_be (r_isT (by assumption) (by assumption)) ?_
          | with_reducible refine Ok_be (r_isP (by assumption) (by assumption)) ?_
          | with_reducible refine Ok_be (r_isCell (by first | assumption | omega)) ?_
          | with_reducible refine Ok_be (r_areTwo (by assumption) (by assumption) (by assumption)) ?_)
      simp only [Int.toNat_natCast]
      have e1 : rd M1 138 f = vw M 0 1 f := by
        rw [← e0, ← vv2]
        exact (vw_1 M1 137 (by omega)).symm
      rw [e1]
      refine Ok_mono (r_which_34 (R := (rd M 130 8).toNat) (rw := fun j => rd M 133 j) (u := vw M 0) (M0 := M1) hn (by omega) hR12 (by omega) s.2.1 rfl 7 n 0 0 M1 (by omega) (by omega) ?_ ?_ (fun _ _ _ _ _ => rfl) ⟨vw M 0 1 f, by rw [vv2, e0, uset_id _ _ _ rfl]⟩ (by decide)) ?_
      · rw [row1.1, z8]; exact hR8
      · intro j hj
        rw [(row1.2.2.2 j (by omega)).1]
        exact rd_of (km _ _ (by omega))
      rintro r' M2 ⟨er', v2, kk⟩
      exact ⟨by rw [er', er], sim_KR s1 (fun q i a b c _ _ _ => kk q i (by omega) b c) (by rw [v2, vv2, e0])⟩
    · repeat (first
          | with_reducible refine Ok_g (by first | assumption | omega) ?_
          | with_reducible refine Ok_lt ?_
          | with_reducible refine Ok_t (by first | assumption | omega) ?_
          | with_reducible refine Ok_f (by first | assumption | omega) ?_
          | with_reducible refine Ok_be (e_hasF (by decide) (by assumption)) ?_
          | with_reducible refine Ok_be (e_hasT (by decide) (by assumption)) ?_
          | with_reducible refine Ok_be (e_hasP (by decide) (by assumption)) ?_
          | with_reducible refine Ok_be (e_isCell (by first | assumption | omega)) ?_
          | with_reducible refine Ok_be (e_oor (by assumption) (by decide) (by decide)) ?_
          | with_reducible refine Ok_be (r_isIn (by first | assumption | omega) (by first | decide | omega) (by first | decide | omega)) ?_
          | with_reducible refine Ok_be (r_bound (by assumption) (by decide) (by decide)) ?_
          | with_reducible refine Ok_be (r_isF (by assumption) (by assumption)) ?_
          | with_reducible refine Ok_be (r_isT (by assumption) (by assumption)) ?_
          | with_reducible refine Ok_be (r_isP (by assumption) (by assumption)) ?_
          | with_reducible refine Ok_be (r_isCell (by first | assumption | omega)) ?_
          | with_reducible refine Ok_be (r_areTwo (by assumption) (by assumption) (by assumption)) ?_)
      refine Ok_be (e_refuse 1 (by omega) (by decide) (by decide)) (Ok_ret ⟨by decide, ?_⟩)
      obtain ⟨wf1, rf1, rf2⟩ := sim_rf s (M1 := bump 134 M 1) (fun q i h => bump_ne (by omega))
      unfold m_X6_whichFront m_X6_whichFront_15
      repeat (first
          | with_reducible refine Ok_g (by first | assumption | omega) ?_
          | with_reducible refine Ok_lt ?_
          | with_reducible refine Ok_t (by first | assumption | omega) ?_
          | with_reducible refine Ok_f (by first | assumption | omega) ?_
          | with_reducible refine Ok_be (e_hasF (by decide) (by assumption)) ?_
          | with_reducible refine Ok_be (e_hasT (by decide) (by assumption)) ?_
          | with_reducible refine Ok_be (e_hasP (by decide) (by assumption)) ?_
          | with_reducible refine Ok_be (e_isCell (by first | assumption | omega)) ?_
          | with_reducible refine Ok_be (e_oor (by assumption) (by decide) (by decide)) ?_
          | with_reducible refine Ok_be (r_isIn (by first | assumption | omega) (by first | decide | omega) (by first | decide | omega)) ?_
          | with_reducible refine Ok_be (r_bound (by assumption) (by decide) (by decide)) ?_
          | with_reducible refine Ok_be (r_isF (by assumption) (by assumption)) ?_
          | with_reducible refine Ok_be (r_isT (by assumption) (by assumption)) ?_
          | with_reducible refine Ok_be (r_isP (by assumption) (by assumption)) ?_
          | with_reducible refine Ok_be (r_isCell (by first | assumption | omega)) ?_
          | with_reducible refine Ok_be (r_areTwo (by assumption) (by assumption) (by assumption)) ?_)
      exact Ok_be (r_no 1 (by omega) (by decide) (by decide)) (Ok_ret ⟨rfl, sim_bump s 1⟩)
  · repeat (first
        | with_reducible refine Ok_g (by first | assumption | omega) ?_
        | with_reducible refine Ok_lt ?_
        | with_reducible refine Ok_t (by first | assumption | omega) ?_
        | with_reducible refine Ok_f (by first | assumption | omega) ?_
        | with_reducible refine Ok_be (e_hasF (by decide) (by assumption)) ?_
        | with_reducible refine Ok_be (e_hasT (by decide) (by assumption)) ?_
        | with_reducible refine Ok_be (e_hasP (by decide) (by assumption)) ?_
        | with_reducible refine Ok_be (e_isCell (by first | assumption | omega)) ?_
        | with_reducible refine Ok_be (e_oor (by assumption) (by decide) (by decide)) ?_
        | with_reducible refine Ok_be (r_isIn (by first | assumption | omega) (by first | decide | omega) (by first | decide | omega)) ?_
        | with_reducible refine Ok_be (r_bound (by assumption) (by decide) (by decide)) ?_
        | with_reducible refine Ok_be (r_isF (by assumption) (by assumption)) ?_
        | with_reducible refine Ok_be (r_isT (by assumption) (by assumption)) ?_
        | with_reducible refine Ok_be (r_isP (by assumption) (by assumption)) ?_
        | with_reducible refine Ok_be (r_isCell (by first | assumption | omega)) ?_
        | with_reducible refine Ok_be (r_areTwo (by assumption) (by assumption) (by assumption)) ?_)
    refine Ok_be (e_refuse 1 (by omega) (by decide) (by decide)) (Ok_ret ⟨by decide, ?_⟩)
    obtain ⟨wf1, rf1, rf2⟩ := sim_rf s (M1 := bump 134 M 1) (fun q i h => bump_ne (by omega))
    unfold m_X6_whichFront m_X6_whichFront_15
    repeat (first
        | with_reducible refine Ok_g (by first | assumption | omega) ?_
        | with_reducible refine Ok_lt ?_
        | with_reducible refine Ok_t (by first | assumption | omega) ?_
        | with_reducible refine Ok_f (by first | assumption | omega) ?_
        | with_reducible refine Ok_be (e_hasF (by decide) (by assumption)) ?_
        | with_reducible refine Ok_be (e_hasT (by decide) (by assumption)) ?_
        | with_reducible refine Ok_be (e_hasP (by decide) (by assumption)) ?_
        | with_reducible refine Ok_be (e_isCell (by first | assumption | omega)) ?_
        | with_reducible refine Ok_be (e_oor (by assumption) (by decide) (by decide)) ?_
        | with_reducible refine Ok_be (r_isIn (by first | assumption | omega) (by first | decide | omega) (by first | decide | omega)) ?_
        | with_reducible refine Ok_be (r_bound (by assumption) (by decide) (by decide)) ?_
        | with_reducible refine Ok_be (r_isF (by assumption) (by assumption)) ?_
        | with_reducible refine Ok_be (r_isT (by assumption) (by assumption)) ?_
        | with_reducible refine Ok_be (r_isP (by assumption) (by assumption)) ?_
        | with_reducible refine Ok_be (r_isCell (by first | assumption | omega)) ?_
        | with_reducible refine Ok_be (r_areTwo (by assumption) (by assumption) (by assumption)) ?_)
    exact Ok_be (r_no 1 (by omega) (by decide) (by decide)) (Ok_ret ⟨rfl, sim_bump s 1⟩)
/-! two -/
def twU (u : US) (a b k : Nat) : US := if k % 2 = 1 then uset (if k / 2 = 1 then uset u 10 a (u 9 a) else u) 10 b (u 9 b) else (if k / 2 = 1 then uset u 10 a (u 9 a) else u)
theorem tw1_wf {u : US} (wu : WF 999 u) (a k : Nat) : WF 999 (if k / 2 = 1 then uset u 10 a (u 9 a) else u) := by
  split
  · exact WF_set wu 10 a (wu 9 a).1 (wu 9 a).2
  · exact wu
theorem twU_wf {u : US} (wu : WF 999 u) (a b k : Nat) : WF 999 (twU u a b k) := by
  unfold twU
  split
  · exact WF_set (tw1_wf wu a k) 10 b (wu 9 b).1 (wu 9 b).2
  · exact tw1_wf wu a k
def twG (u : US) (N a b k : Nat) : Int := worthsS (hoursS N (twU u a b k)) (a : Int) - worthsS (hoursS N (twU u a b k)) (b : Int) / 2
def twH (u : US) (N a b k : Nat) : Int := worthsS (hoursS N (twU u a b k)) (b : Int) - worthsS (hoursS N (twU u a b k)) (a : Int) / 2
theorem tw_b {u : US} (wu : WF 999 u) {N : Nat} (a b k : Nat) : -100 ≤ twG u N a b k ∧ twG u N a b k ≤ 100 ∧ -100 ≤ twH u N a b k ∧ twH u N a b k ≤ 100 := by
  have w := hoursS_wf N 0 _ (twU_wf wu a b k)
  have x := worthsS_b w (a : Int)
  have y := worthsS_b w (b : Int)
  have e : frm (fun _ u => hourS u) N 0 (twU u a b k) = hoursS N (twU u a b k) := rfl
  rw [e] at x y
  unfold twG twH
  omega
theorem e_goHome {n a : Nat} {H : Int} {M : Mem} (wf : WF H (vw M 22)) (ha : (a : Int) < rd M 22 12) : m_X4_goHome n M 22 (a : Int) = some (0, mup M 32 a (rd M 31 a)) ∧ vw (mup M 32 a (rd M 31 a)) 22 = uset (vw M 22) 10 a (vw M 22 9 a) := by
  have b := sW wf
  have p := pW wf (i := a) (by omega)
  simp only [Nat.reduceAdd] at p
  constructor
  · refine Ok_eq ?_
    unfold m_X4_goHome
    refine Ok_g (by decide) ?_
    refine Ok_be (e_hasP (by decide) (by omega)) ?_
    repeat (first
        | with_reducible refine Ok_g (by first | assumption | omega) ?_
        | with_reducible refine Ok_lt ?_
        | with_reducible refine Ok_t (by first | assumption | omega) ?_
        | with_reducible refine Ok_f (by first | assumption | omega) ?_)
    refine Ok_wr (Ok_ret ⟨rfl, ?_⟩)
    simp only [Int.toNat_natCast, Nat.reduceAdd]
  · rw [p.1.2.2.1]
    exact vw_set (w := 22) (k := 10) (rd_rng _ _ _) (by decide) (by decide) (by decide) (show a < 5 by omega)
theorem and2 : ∀ k : Nat, k < 4 → bAnd (k : Int) 2 = (if k / 2 = 1 then 2 else 0) := by decide
theorem and1 : ∀ k : Nat, k < 4 → bAnd (k : Int) 1 = (if k % 2 = 1 then 1 else 0) := by decide
theorem e_two_57 {n a b N : Nat} {M0 : Mem} {Post : Int → Mem → Prop} (hn : 2000 ≤ n) (hN : N ≤ 30) (hab : a ≠ b) (wf0 : WF 999 (vw M0 0)) (ha : (a : Int) < rd M0 0 12) (hb : (b : Int) < rd M0 0 12)
    (fin : ∀ M', SkyOk M' → KM M0 M' → (∀ j, j < 4 → rd M' 135 j = twG (vw M0 0) N a b j ∧ rd M' 136 j = twH (vw M0 0) N a b j) → Ok (m_X5_two_181 n n M' 0) Post) : ∀ k t (i : Nat) M, i + k = 4 → k < t → SkyOk M → KM M0 M → (∀ j, j < i → rd M 135 j = twG (vw M0 0) N a b j ∧ rd M 136 j = twH (vw M0 0) N a b j) →
    Ok (m_X5_two_57 n t M (a : Int) (b : Int) (N : Int) (i : Int)) Post := by
  have b0 := sW wf0
  intro k
  induction k with
  | zero =>
    intro t i M hi ht sk km hj
    cases t with
    | zero => omega
    | succ t =>
      rw [m_X5_two_57]
      repeat (first
          | with_reducible refine Ok_g (by first | assumption | omega) ?_
          | with_reducible refine Ok_lt ?_
          | with_reducible refine Ok_t (by first | assumption | omega) ?_
          | with_reducible refine Ok_f (by first | assumption | omega) ?_)
      exact fin M sk km (fun j h => hj j (by omega))
  | succ k ih =>
    intro t i M hi ht sk km hj
    cases t with
    | zero => omega
    | succ t =>
      have e0 := vw0_KM km
      have wM : WF 999 (vw M 0) := by rw [e0]; exact wf0
      have a1 := and1 i (by omega)
      have a2 := and2 i (by omega)
      rw [m_X5_two_57]
      rw [a2]
      repeat (first
          | with_reducible refine Ok_g (by first | assumption | omega) ?_
          | with_reducible refine Ok_lt ?_
          | with_reducible refine Ok_t (by first | assumption | omega) ?_
          | with_reducible refine Ok_f (by first | assumption | omega) ?_)
      refine Ok_bd (e_begin hn sk wM (by decide)) ?_
      rintro _ M1 ⟨v1, k1, l1, f1⟩
      have w1 : WF 999 (vw M1 22) := by rw [v1]; exact wM
      have b1 := sW w1
      have h12 : rd M1 22 12 = rd M0 0 12 := by rw [← b1.1.2.2.1, v1, e0, b0.1.2.2.1]
      have K1 : ∀ q j, (q < 22 ∨ 32 < q ∧ q < 121 ∨ 129 < q) → M1 q j = M q j := f1
      -- the hours, the gains
      have last : ∀ M2, vw M2 22 = twU (vw M0 0) a b i → SkyOk M2 → (∀ q j, (q < 22 ∨ 32 < q ∧ q < 121 ∨ 129 < q) → M2 q j = M q j) → Ok (m_X5_two_110 n (m_X5_two_57 n t) M2 (a : Int) (b : Int) (N : Int) (i : Int)) Post := by
        intro M2 v2 k2 f2
        have w2 : WF 999 (vw M2 22) := by rw [v2]; exact twU_wf wf0 a b i
        unfold m_X5_two_110
        refine Ok_bd (e_goOn (N := (N : Int)) hn (by omega) (by omega) k2 w2) ?_
        rintro _ M3 ⟨v3, k3, l3, f3⟩
        rw [Int.toNat_natCast, v2] at v3
        have w3 : WF 1200 (vw M3 22) := by
          rw [v3]
          exact WF_le (hoursS_wf N 0 _ (twU_wf wf0 a b i)) (by omega)
        have x1 := worthsS_b w3 (a : Int)
        have x2 := worthsS_b w3 (b : Int)
        refine Ok_be (e_worthsOf hn (by decide) w3 (by omega)) ?_
        refine Ok_be (e_worthsOf hn (by decide) w3 (by omega)) ?_
        rw [td x1.1, td x2.1]
        repeat (first
            | with_reducible refine Ok_g (by first | assumption | omega) ?_
            | with_reducible refine Ok_lt ?_
            | with_reducible refine Ok_wr ?_
            | with_reducible refine Ok_t (by first | assumption | omega) ?_
            | with_reducible refine Ok_f (by first | assumption | omega) ?_)
        simp only [Int.toNat_natCast]
        have tb := tw_b wf0 (N := N) a b i
        have eG : worthsS (vw M3 22) (a : Int) - worthsS (vw M3 22) (b : Int) / 2 = twG (vw M0 0) N a b i := by rw [v3]; rfl
        have eH : worthsS (vw M3 22) (b : Int) - worthsS (vw M3 22) (a : Int) / 2 = twH (vw M0 0) N a b i := by rw [v3]; rfl
        rw [eG, eH]
        refine ih t (i + 1) _ (by omega) (by omega) (SkyOk_keep k3 (fun q j _ _ => by rw [mup_n _ (by omega), mup_n _ (by omega)])) ?_ ?_
        · intro q j hq
          rw [mup_n _ (by omega), mup_n _ (by omega), f3 q j (by omega) (by omega), f2 q j (by omega), km q j hq]
        · intro j hji
          rw [rd_upne _ _ _ 135 _ _ (by omega), rd_up _ _ _ _ _ (by omega), rd_up _ _ _ _ _ (by omega)]
          by_cases c : j = i
          · subst c
            rw [if_pos ⟨rfl, rfl⟩, if_pos ⟨rfl, rfl⟩]
            exact ⟨rfl, rfl⟩
          · rw [if_neg (by omega), if_neg (by omega), rd_upne _ _ _ _ _ _ (by omega), rd_of (f3 _ _ (by omega) (by omega)), rd_of (f2 _ _ (by omega)), rd_of (f3 _ _ (by omega) (by omega)), rd_of (f2 _ _ (by omega))]
            exact hj j (by omega)
      have mid : ∀ M2, vw M2 22 = (if i / 2 = 1 then uset (vw M0 0) 10 a (vw M0 0 9 a) else vw M0 0) → SkyOk M2 → (∀ q j, (q < 22 ∨ 32 < q ∧ q < 121 ∨ 129 < q) → M2 q j = M q j) → Ok (m_X5_two_92 n (m_X5_two_57 n t) M2 (a : Int) (b : Int) (N : Int) (i : Int)) Post := by
        intro M2 v2 k2 f2
        have w2 : WF 999 (vw M2 22) := by rw [v2]; exact tw1_wf wf0 a i
        have b2 := sW w2
        have h12' : rd M2 22 12 = rd M0 0 12 := by
          rw [← b2.1.2.2.1, v2, ← b0.1.2.2.1]
          split
          · exact uset_nk _ _ (by decide)
          · rfl
        unfold m_X5_two_92
        rw [a1]
        by_cases c : i % 2 = 1
        · rw [if_pos c]
          repeat (first
              | with_reducible refine Ok_g (by first | assumption | omega) ?_
              | with_reducible refine Ok_lt ?_
              | with_reducible refine Ok_t (by first | assumption | omega) ?_
              | with_reducible refine Ok_f (by first | assumption | omega) ?_)
          obtain ⟨g1, g2⟩ := e_goHome (n := n) w2 (a := b) (by omega)
          refine Ok_be g1 ?_
          refine last _ ?_ (SkyOk_keep k2 (fun q j _ _ => mup_n _ (by omega))) (fun q j hq => by rw [mup_n _ (by omega)]; exact f2 q j hq)
          rw [g2, v2]
          unfold twU
          rw [if_pos c]
          congr 1
          split
          · exact uset_nk _ _ (by decide)
          · rfl
        · rw [if_neg c]
          repeat (first
              | with_reducible refine Ok_g (by first | assumption | omega) ?_
              | with_reducible refine Ok_lt ?_
              | with_reducible refine Ok_t (by first | assumption | omega) ?_
              | with_reducible refine Ok_f (by first | assumption | omega) ?_)
          refine last M2 ?_ k2 f2
          rw [v2]
          unfold twU
          rw [if_neg c]
      by_cases c : i / 2 = 1
      · rw [if_pos c] at mid ⊢
        repeat (first
            | with_reducible refine Ok_g (by first | assumption | omega) ?_
            | with_reducible refine Ok_lt ?_
            | with_reducible refine Ok_t (by first | assumption | omega) ?_
            | with_reducible refine Ok_f (by first | assumption | omega) ?_)
        obtain ⟨g1, g2⟩ := e_goHome (n := n) w1 (a := a) (by omega)
        refine Ok_be g1 ?_
        refine mid _ ?_ (SkyOk_keep k1 (fun q j _ _ => mup_n _ (by omega))) (fun q j hq => by rw [mup_n _ (by omega)]; exact f1 q j hq)
        rw [g2, v1, e0]
      · rw [if_neg c] at mid ⊢
        repeat (first
            | with_reducible refine Ok_g (by first | assumption | omega) ?_
            | with_reducible refine Ok_lt ?_
            | with_reducible refine Ok_t (by first | assumption | omega) ?_
            | with_reducible refine Ok_f (by first | assumption | omega) ?_)
        exact mid M1 (by rw [v1, e0]) k1 f1
def twR (g h : Nat → Int) : Nat → Nat → Int
  | 0, _ => -9
  | k + 1, i => if g (i ^^^ 2) ≤ g i ∧ h (i ^^^ 1) ≤ h i then 10 * ((i / 2 : Nat) : Int) + ((i % 2 : Nat) : Int) else twR g h k (i + 1)
theorem xor2 : ∀ k : Nat, k < 4 → bXor (k : Int) 2 = ((k ^^^ 2 : Nat) : Int) ∧ (k ^^^ 2) < 4 ∧ bXor (k : Int) 1 = ((k ^^^ 1 : Nat) : Int) ∧ (k ^^^ 1) < 4 ∧ bShr (k : Int) 1 = ((k / 2 : Nat) : Int) ∧ bAnd (k : Int) 1 = ((k % 2 : Nat) : Int) := by decide
theorem twR_b (g h : Nat → Int) : ∀ k i, i + k ≤ 4 → -9 ≤ twR g h k i ∧ twR g h k i ≤ 20
  | 0, _, _ => by
    show -9 ≤ (-9 : Int) ∧ (-9 : Int) ≤ 20
    omega
  | k + 1, i, hi => by
    have := twR_b g h k (i + 1) (by omega)
    simp only [twR]
    split <;> omega
theorem e_two_181 {n : Nat} {g h : Nat → Int} {M : Mem} (h1 : ∀ j, j < 4 → rd M 135 j = g j) (h2 : ∀ j, j < 4 → rd M 136 j = h j) : ∀ k t (i : Nat), i + k = 4 → k < t → m_X5_two_181 n t M (i : Int) = some (twR g h k i, M) := by
  intro k
  induction k with
  | zero =>
    intro t i hi ht
    cases t with
    | zero => omega
    | succ t =>
      refine Ok_eq ?_
      rw [m_X5_two_181]
      repeat (first
          | with_reducible refine Ok_g (by first | assumption | omega) ?_
          | with_reducible refine Ok_lt ?_
          | with_reducible refine Ok_t (by first | assumption | omega) ?_
          | with_reducible refine Ok_f (by first | assumption | omega) ?_)
      exact Ok_ret ⟨rfl, rfl⟩
  | succ k ih =>
    intro t i hi ht
    cases t with
    | zero => omega
    | succ t =>
      have x := xor2 i (by omega)
      refine Ok_eq ?_
      rw [m_X5_two_181]
      unfold m_X5_two_211 m_X5_two_237
      simp only [twR, x.1, x.2.2.1, x.2.2.2.2.1, x.2.2.2.2.2, Int.toNat_natCast]
      rw [h1 i (by omega), h1 _ x.2.1, h2 i (by omega), h2 _ x.2.2.2.1]
      have xa := x.2.1
      have xb := x.2.2.2.1
      have no : ¬ (g (i ^^^ 2) ≤ g i ∧ h (i ^^^ 1) ≤ h i) → Ok (m_X5_two_181 n t M ((i : Int) + 1)) (fun r M' => r = (if g (i ^^^ 2) ≤ g i ∧ h (i ^^^ 1) ≤ h i then 10 * ((i / 2 : Nat) : Int) + ((i % 2 : Nat) : Int) else twR g h k (i + 1)) ∧ M' = M) := by
        intro z
        rw [if_neg z]
        exact Ok_of (ih t (i + 1) (by omega) (by omega)) ⟨rfl, rfl⟩
      repeat (first
          | with_reducible refine Ok_g (by first | assumption | omega) ?_
          | with_reducible refine Ok_lt ?_
          | with_reducible refine Ok_t (by first | assumption | omega) ?_
          | with_reducible refine Ok_f (by first | assumption | omega) ?_)
      refine Ok_if (fun c1 => ?_) (fun c1 => ?_)
      · repeat (first
            | with_reducible refine Ok_g (by first | assumption | omega) ?_
            | with_reducible refine Ok_lt ?_
            | with_reducible refine Ok_t (by first | assumption | omega) ?_
            | with_reducible refine Ok_f (by first | assumption | omega) ?_)
        refine Ok_if (fun c2 => ?_) (fun c2 => ?_)
        · repeat (first
              | with_reducible refine Ok_g (by first | assumption | omega) ?_
              | with_reducible refine Ok_lt ?_
              | with_reducible refine Ok_t (by first | assumption | omega) ?_
              | with_reducible refine Ok_f (by first | assumption | omega) ?_)
          exact no (by omega)
        · repeat (first
              | with_reducible refine Ok_g (by first | assumption | omega) ?_
              | with_reducible refine Ok_lt ?_
              | with_reducible refine Ok_t (by first | assumption | omega) ?_
              | with_reducible refine Ok_f (by first | assumption | omega) ?_)
          exact no (by omega)
      · repeat (first
            | with_reducible refine Ok_g (by first | assumption | omega) ?_
            | with_reducible refine Ok_lt ?_
            | with_reducible refine Ok_t (by first | assumption | omega) ?_
            | with_reducible refine Ok_f (by first | assumption | omega) ?_)
        refine Ok_if (fun c2 => ?_) (fun c2 => ?_)
        · repeat (first
              | with_reducible refine Ok_g (by first | assumption | omega) ?_
              | with_reducible refine Ok_lt ?_
              | with_reducible refine Ok_t (by first | assumption | omega) ?_
              | with_reducible refine Ok_f (by first | assumption | omega) ?_)
          exact no (by omega)
        · repeat (first
              | with_reducible refine Ok_g (by first | assumption | omega) ?_
              | with_reducible refine Ok_lt ?_
              | with_reducible refine Ok_t (by first | assumption | omega) ?_
              | with_reducible refine Ok_f (by first | assumption | omega) ?_)
          exact Ok_ret ⟨by rw [if_pos (by omega)], rfl⟩
theorem r_ends_3 {n a b N : Nat} {u : US} (hn : 2000 ≤ n) (hN : N ≤ 30) (hab : a ≠ b) (wu : WF 999 u) (ha : (a : Int) < u 0 12) (hb : (b : Int) < u 0 12) : ∀ k t (i : Nat) M, i + k = 4 → k < t → Sim M → vw M 0 = u → (∀ j, j < i → rd M 157 (2 * j) = twG u N a b j ∧ rd M 157 (2 * j + 1) = twH u N a b j) →
    Ok (m_X6_findEnds_3 n t M (a : Int) (b : Int) (N : Int) (i : Int)) (fun _ M' => Sim M' ∧ ∀ j, j < 4 → rd M' 157 (2 * j) = twG u N a b j ∧ rd M' 157 (2 * j + 1) = twH u N a b j) := by
  have b0 := wF wu
  intro k
  induction k with
  | zero =>
    intro t i M hi ht s hu hj
    cases t with
    | zero => omega
    | succ t =>
      rw [m_X6_findEnds_3]
      repeat (first
          | with_reducible refine Ok_g (by first | assumption | omega) ?_
          | with_reducible refine Ok_lt ?_
          | with_reducible refine Ok_t (by first | assumption | omega) ?_
          | with_reducible refine Ok_f (by first | assumption | omega) ?_)
      exact Ok_ret ⟨s, fun j h => hj j (by omega)⟩
  | succ k ih =>
    intro t i M hi ht s hu hj
    cases t with
    | zero => omega
    | succ t =>
      rw [m_X6_findEnds_3]
      rw [td (show 0 ≤ (i : Int) by omega)]
      repeat (first
          | with_reducible refine Ok_g (by first | assumption | omega) ?_
          | with_reducible refine Ok_lt ?_
          | with_reducible refine Ok_t (by first | assumption | omega) ?_
          | with_reducible refine Ok_f (by first | assumption | omega) ?_)
      refine Ok_bd (r_minds hn s) ?_
      rintro _ M1 ⟨v1, md, f1⟩
      have e1 : vw M1 137 = u := by rw [v1, s.1, hu]
      have e157 : ∀ j, M1 157 j = M 157 j := fun j => f1 _ _ (by omega) (by omega)
      have last : ∀ M2, vw M2 137 = twU u a b i → KX M1 M2 → (∀ j, M2 157 j = M 157 j) → Ok (m_X6_findEnds_53 n (m_X6_findEnds_3 n t) M2 (a : Int) (b : Int) (N : Int) (i : Int)) (fun _ M' => Sim M' ∧ ∀ j, j < 4 → rd M' 157 (2 * j) = twG u N a b j ∧ rd M' 157 (2 * j + 1) = twH u N a b j) := by
        intro M2 v2 k2 f2
        have w2 : WF 999 (vw M2 137) := by rw [v2]; exact twU_wf wu a b i
        unfold m_X6_findEnds_53
        refine Ok_bd (r_goes (N := (N : Int)) hn (by omega) (by omega) w2) ?_
        rintro _ M3 ⟨v3, k3⟩
        rw [Int.toNat_natCast, v2] at v3
        have w3 : WF 1200 (vw M3 137) := by
          rw [v3]
          exact WF_le (hoursS_wf N 0 _ (twU_wf wu a b i)) (by omega)
        have x1 := worthsS_b w3 (a : Int)
        have x2 := worthsS_b w3 (b : Int)
        refine Ok_be (r_worthsOf hn w3 (by omega)) ?_
        refine Ok_be (r_worthsOf hn w3 (by omega)) ?_
        rw [td x2.1]
        repeat (first
            | with_reducible refine Ok_g (by first | assumption | omega) ?_
            | with_reducible refine Ok_lt ?_
            | with_reducible refine Ok_wr ?_
            | with_reducible refine Ok_t (by first | assumption | omega) ?_
            | with_reducible refine Ok_f (by first | assumption | omega) ?_)
        rw [show (2 * (i : Int)).toNat = 2 * i by omega]
        have e5 : ∀ x, vw (mup M3 157 (2 * i) x) 137 = vw M3 137 := fun x => vw_congr (fun _ _ => mup_n _ (by omega)) (fun _ _ _ _ => mup_n _ (by omega)) (fun z => absurd z (by decide)) (fun _ => ⟨mup_n _ (by omega), mup_n _ (by omega)⟩)
        refine Ok_be (r_worthsOf (H := 1200) hn (by rw [e5]; exact w3) (by omega)) ?_
        refine Ok_be (r_worthsOf (H := 1200) hn (by rw [e5]; exact w3) (by omega)) ?_
        rw [e5, td x1.1]
        repeat (first
            | with_reducible refine Ok_g (by first | assumption | omega) ?_
            | with_reducible refine Ok_lt ?_
            | with_reducible refine Ok_wr ?_
            | with_reducible refine Ok_t (by first | assumption | omega) ?_
            | with_reducible refine Ok_f (by first | assumption | omega) ?_)
        rw [show (2 * (i : Int) + 1).toNat = 2 * i + 1 by omega]
        have tb := tw_b wu (N := N) a b i
        have eG : worthsS (vw M3 137) (a : Int) - worthsS (vw M3 137) (b : Int) / 2 = twG u N a b i := by rw [v3]; rfl
        have eH : worthsS (vw M3 137) (b : Int) - worthsS (vw M3 137) (a : Int) / 2 = twH u N a b i := by rw [v3]; rfl
        rw [eG, eH]
        refine Ok_bd (r_forgets hn s md (KX_trans k2 (KX_trans (KX_G k3) (KX_trans (KX_up (by omega)) (KX_up (by omega)))))) ?_
        rintro _ M4 ⟨s4, v4, _, f4, _⟩
        refine ih t (i + 1) M4 (by omega) (by omega) s4 (by rw [← s4.1, v4, s.1, hu]) ?_
        intro j hji
        have g : ∀ x, rd M4 157 x = rd (mup (mup M3 157 (2 * i) (twG u N a b i)) 157 (2 * i + 1) (twH u N a b i)) 157 x := fun x => rd_of (congrFun f4 x)
        rw [g, g]
        by_cases c : j = i
        · subst c
          rw [rd_upne _ _ _ _ _ _ (by omega), rd_ups _ _ _ (by omega), rd_ups _ _ _ (by omega)]
          exact ⟨rfl, rfl⟩
        · rw [rd_upne _ _ _ _ _ _ (by omega), rd_upne _ _ _ _ _ _ (by omega), rd_upne _ _ _ _ _ _ (by omega), rd_upne _ _ _ _ _ _ (by omega)]
          rw [rd_of (k3 157 (2 * j) (by omega) (by omega) (by omega) (by omega) (by omega)), rd_of (k3 157 (2 * j + 1) (by omega) (by omega) (by omega) (by omega) (by omega)), rd_of (f2 _), rd_of (f2 _)]
          exact hj j (by omega)
      have mid : ∀ M2, vw M2 137 = (if i / 2 = 1 then uset u 10 a (u 9 a) else u) → KX M1 M2 → (∀ j, M2 157 j = M 157 j) → Ok (m_X6_findEnds_33 n (m_X6_findEnds_3 n t) M2 (a : Int) (b : Int) (N : Int) (i : Int)) (fun _ M' => Sim M' ∧ ∀ j, j < 4 → rd M' 157 (2 * j) = twG u N a b j ∧ rd M' 157 (2 * j + 1) = twH u N a b j) := by
        intro M2 v2 k2 f2
        have w2 : WF 999 (vw M2 137) := by rw [v2]; exact tw1_wf wu a i
        have p := pW w2 (i := b) (by omega)
        simp only [Nat.reduceAdd] at p
        unfold m_X6_findEnds_33
        rw [tm (show 0 ≤ (i : Int) by omega)]
        repeat (first
            | with_reducible refine Ok_g (by first | assumption | omega) ?_
            | with_reducible refine Ok_lt ?_
            | with_reducible refine Ok_t (by first | assumption | omega) ?_
            | with_reducible refine Ok_f (by first | assumption | omega) ?_)
        refine Ok_if (fun c => ?_) (fun c => ?_)
        · repeat (first
              | with_reducible refine Ok_g (by first | assumption | omega) ?_
              | with_reducible refine Ok_lt ?_
              | with_reducible refine Ok_wr ?_
              | with_reducible refine Ok_t (by first | assumption | omega) ?_
              | with_reducible refine Ok_f (by first | assumption | omega) ?_)
          simp only [Int.toNat_natCast]
          refine last _ ?_ (KX_trans k2 (KX_up (by omega))) (fun j => by rw [mup_n _ (by omega)]; exact f2 j)
          have e : vw (mup M2 147 b (rd M2 146 b)) 137 = uset (vw M2 137) 10 b (rd M2 146 b) := vw_set (w := 137) (k := 10) (rd_rng _ _ _) (by decide) (by decide) (by decide) (show b < 5 by omega)
          rw [e, ← p.1.2.2.1, v2]
          unfold twU
          rw [if_pos (show i % 2 = 1 by omega)]
          congr 1
          split
          · exact uset_nk _ _ (by decide)
          · rfl
        · refine last M2 ?_ k2 f2
          rw [v2]
          unfold twU
          rw [if_neg (show ¬ i % 2 = 1 by omega)]
      have w1 : WF 999 (vw M1 137) := by rw [e1]; exact wu
      have p := pW w1 (i := a) (by omega)
      simp only [Nat.reduceAdd] at p
      repeat (first
          | with_reducible refine Ok_g (by first | assumption | omega) ?_
          | with_reducible refine Ok_lt ?_
          | with_reducible refine Ok_t (by first | assumption | omega) ?_
          | with_reducible refine Ok_f (by first | assumption | omega) ?_)
      refine Ok_if (fun c => ?_) (fun c => ?_)
      · rw [if_pos (show i / 2 = 1 by omega)] at mid
        repeat (first
            | with_reducible refine Ok_g (by first | assumption | omega) ?_
            | with_reducible refine Ok_lt ?_
            | with_reducible refine Ok_wr ?_
            | with_reducible refine Ok_t (by first | assumption | omega) ?_
            | with_reducible refine Ok_f (by first | assumption | omega) ?_)
        simp only [Int.toNat_natCast]
        refine mid _ ?_ (KX_up (by omega)) (fun j => by rw [mup_n _ (by omega)]; exact e157 j)
        have e : vw (mup M1 147 a (rd M1 146 a)) 137 = uset (vw M1 137) 10 a (rd M1 146 a) := vw_set (w := 137) (k := 10) (rd_rng _ _ _) (by decide) (by decide) (by decide) (show a < 5 by omega)
        rw [e, ← p.1.2.2.1, e1]
      · rw [if_neg (show ¬ i / 2 = 1 by omega)] at mid
        exact mid M1 e1 (KX_refl M1) e157
theorem r_two_44 {n : Nat} {g h : Nat → Int} {M : Mem} (hj : ∀ j, j < 4 → rd M 157 (2 * j) = g j ∧ rd M 157 (2 * j + 1) = h j) : ∀ k t (i : Nat), i + k = 4 → k < t → m_X6_two_44 n t M (i : Int) = some (twR g h k i, M) := by
  intro k
  induction k with
  | zero =>
    intro t i hi ht
    cases t with
    | zero => omega
    | succ t =>
      refine Ok_eq ?_
      rw [m_X6_two_44]
      repeat (first
          | with_reducible refine Ok_g (by first | assumption | omega) ?_
          | with_reducible refine Ok_lt ?_
          | with_reducible refine Ok_t (by first | assumption | omega) ?_
          | with_reducible refine Ok_f (by first | assumption | omega) ?_)
      exact Ok_ret ⟨rfl, rfl⟩
  | succ k ih =>
    intro t i hi ht
    cases t with
    | zero => omega
    | succ t =>
      have x := xor2 i (by omega)
      have xa := x.2.1
      have xb := x.2.2.2.1
      refine Ok_eq ?_
      rw [m_X6_two_44]
      simp only [twR, x.1, x.2.2.1]
      rw [td (show 0 ≤ (i : Int) by omega), tm (show 0 ≤ (i : Int) by omega), show (2 * (i : Int)).toNat = 2 * i by omega, show (2 * (i : Int) + 1).toNat = 2 * i + 1 by omega, show (2 * ((i ^^^ 2 : Nat) : Int)).toNat = 2 * (i ^^^ 2) by omega, show (2 * ((i ^^^ 1 : Nat) : Int) + 1).toNat = 2 * (i ^^^ 1) + 1 by omega]
      rw [(hj i (by omega)).1, (hj i (by omega)).2, (hj _ xa).1, (hj _ xb).2]
      have no : ¬ (g (i ^^^ 2) ≤ g i ∧ h (i ^^^ 1) ≤ h i) → Ok (m_X6_two_44 n t M ((i : Int) + 1)) (fun r M' => r = (if g (i ^^^ 2) ≤ g i ∧ h (i ^^^ 1) ≤ h i then 10 * ((i / 2 : Nat) : Int) + ((i % 2 : Nat) : Int) else twR g h k (i + 1)) ∧ M' = M) := by
        intro z
        rw [if_neg z]
        exact Ok_of (ih t (i + 1) (by omega) (by omega)) ⟨rfl, rfl⟩
      repeat (first
          | with_reducible refine Ok_g (by first | assumption | omega) ?_
          | with_reducible refine Ok_lt ?_
          | with_reducible refine Ok_t (by first | assumption | omega) ?_
          | with_reducible refine Ok_f (by first | assumption | omega) ?_)
      refine Ok_if (fun c1 => no (by omega)) (fun c1 => ?_)
      repeat (first
          | with_reducible refine Ok_g (by first | assumption | omega) ?_
          | with_reducible refine Ok_lt ?_
          | with_reducible refine Ok_t (by first | assumption | omega) ?_
          | with_reducible refine Ok_f (by first | assumption | omega) ?_)
      refine Ok_if (fun c2 => no (by omega)) (fun c2 => ?_)
      exact Ok_ret ⟨by rw [if_pos (by omega)]; omega, rfl⟩
theorem r_areTwo {n : Nat} {M : Mem} {H a b : Int} (ha : I32 a) (hb : I32 b) (wf : WF H (vw M 137)) : m_X6_areTwo n M a b = some (if 0 ≤ a ∧ a < rd M 137 12 ∧ 0 ≤ b ∧ b < rd M 137 12 ∧ a ≠ b then 1 else 0, M) := by
  refine Ok_eq ?_
  unfold m_X6_areTwo
  refine Ok_be (r_isP ha wf) ?_
  by_cases h : 0 ≤ a ∧ a < rd M 137 12
  · repeat (first
        | with_reducible refine Ok_g (by first | assumption | omega) ?_
        | with_reducible refine Ok_lt ?_
        | with_reducible refine Ok_t (by first | assumption | omega) ?_
        | with_reducible refine Ok_f (by first | assumption | omega) ?_)
    refine Ok_be (r_isP hb wf) ?_
    by_cases h2 : 0 ≤ b ∧ b < rd M 137 12
    · repeat (first
          | with_reducible refine Ok_g (by first | assumption | omega) ?_
          | with_reducible refine Ok_lt ?_
          | with_reducible refine Ok_t (by first | assumption | omega) ?_
          | with_reducible refine Ok_f (by first | assumption | omega) ?_)
      refine Ok_if (fun c => Ok_ret ⟨by rw [if_neg (by omega)], rfl⟩) (fun c => Ok_ret ⟨by rw [if_pos (by omega)], rfl⟩)
    · repeat (first
          | with_reducible refine Ok_g (by first | assumption | omega) ?_
          | with_reducible refine Ok_lt ?_
          | with_reducible refine Ok_t (by first | assumption | omega) ?_
          | with_reducible refine Ok_f (by first | assumption | omega) ?_)
      exact Ok_ret ⟨by rw [if_neg (by omega)], rfl⟩
  · repeat (first
        | with_reducible refine Ok_g (by first | assumption | omega) ?_
        | with_reducible refine Ok_lt ?_
        | with_reducible refine Ok_t (by first | assumption | omega) ?_
        | with_reducible refine Ok_f (by first | assumption | omega) ?_)
    exact Ok_ret ⟨by rw [if_neg (by omega)], rfl⟩
theorem q_two {n : Nat} {M : Mem} {a b c : Int} (hn : 2000 ≤ n) (s : Sim M) (ha : I32 a) (hb : I32 b) (hc : I32 c) : Agr (m_X5_two n M a b c) (fun M1 => m_X6_two n M1 a b c) := by
  obtain ⟨wf0, vv0, rf0⟩ := sim_rf s (M1 := M) (fun _ _ _ => rfl)
  have bb := sW s.2.1
  unfold Agr m_X5_two m_X5_two_27
  by_cases h : 0 ≤ a ∧ a < rd M 0 12
  · by_cases h2 : 0 ≤ b ∧ b < rd M 0 12
    · by_cases hab : a = b
      · repeat (first
            | with_reducible refine Ok_g (by first | assumption | omega) ?_
            | with_reducible refine Ok_lt ?_
            | with_reducible refine Ok_t (by first | assumption | omega) ?_
            | with_reducible refine Ok_f (by first | assumption | omega) ?_
            | with_reducible refine Ok_be (e_hasF (by decide) (by assumption)) ?_
            | with_reducible refine Ok_be (e_hasT (by decide) (by assumption)) ?_
            | with_reducible refine Ok_be (e_hasP (by decide) (by assumption)) ?_
            | with_reducible refine Ok_be (e_isCell (by first | assumption | omega)) ?_
            | with_reducible refine Ok_be (e_oor (by assumption) (by decide) (by decide)) ?_
            | with_reducible refine Ok_be (r_isIn (by first | assumption | omega) (by first | decide | omega) (by first | decide | omega)) ?_
            | with_reducible refine Ok_be (r_bound (by assumption) (by decide) (by decide)) ?_
            | with_reducible refine Ok_be (r_isF (by assumption) (by assumption)) ?_
            | with_reducible refine Ok_be (r_isT (by assumption) (by assumption)) ?_
            | with_reducible refine Ok_be (r_isP (by assumption) (by assumption)) ?_
            | with_reducible refine Ok_be (r_isCell (by first | assumption | omega)) ?_
            | with_reducible refine Ok_be (r_areTwo (by assumption) (by assumption) (by assumption)) ?_)
        refine Ok_be (e_refuse 1 (by omega) (by decide) (by decide)) (Ok_ret ⟨by decide, ?_⟩)
        obtain ⟨wf1, rf1, rf2⟩ := sim_rf s (M1 := bump 134 M 1) (fun q i h => bump_ne (by omega))
        unfold m_X6_two m_X6_two_20
        repeat (first
            | with_reducible refine Ok_g (by first | assumption | omega) ?_
            | with_reducible refine Ok_lt ?_
            | with_reducible refine Ok_t (by first | assumption | omega) ?_
            | with_reducible refine Ok_f (by first | assumption | omega) ?_
            | with_reducible refine Ok_be (e_hasF (by decide) (by assumption)) ?_
            | with_reducible refine Ok_be (e_hasT (by decide) (by assumption)) ?_
            | with_reducible refine Ok_be (e_hasP (by decide) (by assumption)) ?_
            | with_reducible refine Ok_be (e_isCell (by first | assumption | omega)) ?_
            | with_reducible refine Ok_be (e_oor (by assumption) (by decide) (by decide)) ?_
            | with_reducible refine Ok_be (r_isIn (by first | assumption | omega) (by first | decide | omega) (by first | decide | omega)) ?_
            | with_reducible refine Ok_be (r_bound (by assumption) (by decide) (by decide)) ?_
            | with_reducible refine Ok_be (r_isF (by assumption) (by assumption)) ?_
            | with_reducible refine Ok_be (r_isT (by assumption) (by assumption)) ?_
            | with_reducible refine Ok_be (r_isP (by assumption) (by assumption)) ?_
            | with_reducible refine Ok_be (r_isCell (by first | assumption | omega)) ?_
            | with_reducible refine Ok_be (r_areTwo (by assumption) (by assumption) (by assumption)) ?_)
        exact Ok_be (r_no 1 (by omega) (by decide) (by decide)) (Ok_ret ⟨rfl, sim_bump s 1⟩)
      by_cases hc0 : c < 1
      · repeat (first
            | with_reducible refine Ok_g (by first | assumption | omega) ?_
            | with_reducible refine Ok_lt ?_
            | with_reducible refine Ok_t (by first | assumption | omega) ?_
            | with_reducible refine Ok_f (by first | assumption | omega) ?_
            | with_reducible refine Ok_be (e_hasF (by decide) (by assumption)) ?_
            | with_reducible refine Ok_be (e_hasT (by decide) (by assumption)) ?_
            | with_reducible refine Ok_be (e_hasP (by decide) (by assumption)) ?_
            | with_reducible refine Ok_be (e_isCell (by first | assumption | omega)) ?_
            | with_reducible refine Ok_be (e_oor (by assumption) (by decide) (by decide)) ?_
            | with_reducible refine Ok_be (r_isIn (by first | assumption | omega) (by first | decide | omega) (by first | decide | omega)) ?_
            | with_reducible refine Ok_be (r_bound (by assumption) (by decide) (by decide)) ?_
            | with_reducible refine Ok_be (r_isF (by assumption) (by assumption)) ?_
            | with_reducible refine Ok_be (r_isT (by assumption) (by assumption)) ?_
            | with_reducible refine Ok_be (r_isP (by assumption) (by assumption)) ?_
            | with_reducible refine Ok_be (r_isCell (by first | assumption | omega)) ?_
            | with_reducible refine Ok_be (r_areTwo (by assumption) (by assumption) (by assumption)) ?_)
        refine Ok_be (e_refuse 4 (by omega) (by decide) (by decide)) (Ok_ret ⟨by decide, ?_⟩)
        obtain ⟨wf1, rf1, rf2⟩ := sim_rf s (M1 := bump 134 M 4) (fun q i h => bump_ne (by omega))
        unfold m_X6_two m_X6_two_20
        repeat (first
            | with_reducible refine Ok_g (by first | assumption | omega) ?_
            | with_reducible refine Ok_lt ?_
            | with_reducible refine Ok_t (by first | assumption | omega) ?_
            | with_reducible refine Ok_f (by first | assumption | omega) ?_
            | with_reducible refine Ok_be (e_hasF (by decide) (by assumption)) ?_
            | with_reducible refine Ok_be (e_hasT (by decide) (by assumption)) ?_
            | with_reducible refine Ok_be (e_hasP (by decide) (by assumption)) ?_
            | with_reducible refine Ok_be (e_isCell (by first | assumption | omega)) ?_
            | with_reducible refine Ok_be (e_oor (by assumption) (by decide) (by decide)) ?_
            | with_reducible refine Ok_be (r_isIn (by first | assumption | omega) (by first | decide | omega) (by first | decide | omega)) ?_
            | with_reducible refine Ok_be (r_bound (by assumption) (by decide) (by decide)) ?_
            | with_reducible refine Ok_be (r_isF (by assumption) (by assumption)) ?_
            | with_reducible refine Ok_be (r_isT (by assumption) (by assumption)) ?_
            | with_reducible refine Ok_be (r_isP (by assumption) (by assumption)) ?_
            | with_reducible refine Ok_be (r_isCell (by first | assumption | omega)) ?_
            | with_reducible refine Ok_be (r_areTwo (by assumption) (by assumption) (by assumption)) ?_)
        exact Ok_be (r_no 4 (by omega) (by decide) (by decide)) (Ok_ret ⟨rfl, sim_bump s 4⟩)
      by_cases hc4 : 30 < c
      · repeat (first
            | with_reducible refine Ok_g (by first | assumption | omega) ?_
            | with_reducible refine Ok_lt ?_
            | with_reducible refine Ok_t (by first | assumption | omega) ?_
            | with_reducible refine Ok_f (by first | assumption | omega) ?_
            | with_reducible refine Ok_be (e_hasF (by decide) (by assumption)) ?_
            | with_reducible refine Ok_be (e_hasT (by decide) (by assumption)) ?_
            | with_reducible refine Ok_be (e_hasP (by decide) (by assumption)) ?_
            | with_reducible refine Ok_be (e_isCell (by first | assumption | omega)) ?_
            | with_reducible refine Ok_be (e_oor (by assumption) (by decide) (by decide)) ?_
            | with_reducible refine Ok_be (r_isIn (by first | assumption | omega) (by first | decide | omega) (by first | decide | omega)) ?_
            | with_reducible refine Ok_be (r_bound (by assumption) (by decide) (by decide)) ?_
            | with_reducible refine Ok_be (r_isF (by assumption) (by assumption)) ?_
            | with_reducible refine Ok_be (r_isT (by assumption) (by assumption)) ?_
            | with_reducible refine Ok_be (r_isP (by assumption) (by assumption)) ?_
            | with_reducible refine Ok_be (r_isCell (by first | assumption | omega)) ?_
            | with_reducible refine Ok_be (r_areTwo (by assumption) (by assumption) (by assumption)) ?_)
        refine Ok_be (e_refuse 6 (by omega) (by decide) (by decide)) (Ok_ret ⟨by decide, ?_⟩)
        obtain ⟨wf1, rf1, rf2⟩ := sim_rf s (M1 := bump 134 M 6) (fun q i h => bump_ne (by omega))
        unfold m_X6_two m_X6_two_20
        repeat (first
            | with_reducible refine Ok_g (by first | assumption | omega) ?_
            | with_reducible refine Ok_lt ?_
            | with_reducible refine Ok_t (by first | assumption | omega) ?_
            | with_reducible refine Ok_f (by first | assumption | omega) ?_
            | with_reducible refine Ok_be (e_hasF (by decide) (by assumption)) ?_
            | with_reducible refine Ok_be (e_hasT (by decide) (by assumption)) ?_
            | with_reducible refine Ok_be (e_hasP (by decide) (by assumption)) ?_
            | with_reducible refine Ok_be (e_isCell (by first | assumption | omega)) ?_
            | with_reducible refine Ok_be (e_oor (by assumption) (by decide) (by decide)) ?_
            | with_reducible refine Ok_be (r_isIn (by first | assumption | omega) (by first | decide | omega) (by first | decide | omega)) ?_
            | with_reducible refine Ok_be (r_bound (by assumption) (by decide) (by decide)) ?_
            | with_reducible refine Ok_be (r_isF (by assumption) (by assumption)) ?_
            | with_reducible refine Ok_be (r_isT (by assumption) (by assumption)) ?_
            | with_reducible refine Ok_be (r_isP (by assumption) (by assumption)) ?_
            | with_reducible refine Ok_be (r_isCell (by first | assumption | omega)) ?_
            | with_reducible refine Ok_be (r_areTwo (by assumption) (by assumption) (by assumption)) ?_)
        exact Ok_be (r_no 6 (by omega) (by decide) (by decide)) (Ok_ret ⟨rfl, sim_bump s 6⟩)
      repeat (first
          | with_reducible refine Ok_g (by first | assumption | omega) ?_
          | with_reducible refine Ok_lt ?_
          | with_reducible refine Ok_t (by first | assumption | omega) ?_
          | with_reducible refine Ok_f (by first | assumption | omega) ?_
          | with_reducible refine Ok_be (e_hasF (by decide) (by assumption)) ?_
          | with_reducible refine Ok_be (e_hasT (by decide) (by assumption)) ?_
          | with_reducible refine Ok_be (e_hasP (by decide) (by assumption)) ?_
          | with_reducible refine Ok_be (e_isCell (by first | assumption | omega)) ?_
          | with_reducible refine Ok_be (e_oor (by assumption) (by decide) (by decide)) ?_
          | with_reducible refine Ok_be (r_isIn (by first | assumption | omega) (by first | decide | omega) (by first | decide | omega)) ?_
          | with_reducible refine Ok_be (r_bound (by assumption) (by decide) (by decide)) ?_
          | with_reducible refine Ok_be (r_isF (by assumption) (by assumption)) ?_
          | with_reducible refine Ok_be (r_isT (by assumption) (by assumption)) ?_
          | with_reducible refine Ok_be (r_isP (by assumption) (by assumption)) ?_
          | with_reducible refine Ok_be (r_isCell (by first | assumption | omega)) ?_
          | with_reducible refine Ok_be (r_areTwo (by assumption) (by assumption) (by assumption)) ?_)
      obtain ⟨p, rfl⟩ := Int.eq_ofNat_of_zero_le h.1
      obtain ⟨q, rfl⟩ := Int.eq_ofNat_of_zero_le h2.1
      obtain ⟨N, rfl⟩ := Int.eq_ofNat_of_zero_le (show 0 ≤ c by omega)
      refine e_two_57 (M0 := M) hn (by omega) (by omega) s.2.1 h.2 h2.2 ?_ 4 n 0 M (by omega) (by omega) s.2.2.1 (KM_refl M) (fun j hj => absurd hj (by omega))
      intro M1 k1 km hj
      have tb := twR_b (twG (vw M 0) N p q) (twH (vw M 0) N p q) 4 0 (by omega)
      refine Ok_of (e_two_181 (fun j h => (hj j h).1) (fun j h => (hj j h).2) 4 n 0 (by omega) (by omega)) ⟨by omega, ?_⟩
      have s1 := sim_KM s k1 km
      have e0 := vw0_KM km
      have z12 : rd M1 0 12 = rd M 0 12 := rd_of (km _ _ (by omega))
      obtain ⟨wf2, vv2, rf2⟩ := sim_rf s1 (M1 := M1) (fun _ _ _ => rfl)
      unfold m_X6_two m_X6_two_20 m_X6_findEnds
      repeat (first
          | with_reducible refine Ok_g (by first | assumption | omega) ?_
          | with_reducible refine Ok_lt ?_
          | with_reducible refine Ok_t (by first | assumption | omega) ?_
          | with_reducible refine Ok_f (by first | assumption | omega) ?_
          | with_reducible refine Ok_be (e_hasF (by decide) (by assumption)) ?_
          | with_reducible refine Ok_be (e_hasT (by decide) (by assumption)) ?_
          | with_reducible refine Ok_be (e_hasP (by decide) (by assumption)) ?_
          | with_reducible refine Ok_be (e_isCell (by first | assumption | omega)) ?_
          | with_reducible refine Ok_be (e_oor (by assumption) (by decide) (by decide)) ?_
          | with_reducible refine Ok_be (r_isIn (by first | assumption | omega) (by first | decide | omega) (by first | decide | omega)) ?_
          | with_reducible refine Ok_be (r_bound (by assumption) (by decide) (by decide)) ?_
          | with_reducible refine Ok_be (r_isF (by assumption) (by assumption)) ?_
          | with_reducible refine Ok_be (r_isT (by assumption) (by assumption)) ?_
          | with_reducible refine Ok_be (r_isP (by assumption) (by assumption)) ?_
          | with_reducible refine Ok_be (r_isCell (by first | assumption | omega)) ?_
          | with_reducible refine Ok_be (r_areTwo (by assumption) (by assumption) (by assumption)) ?_)
      refine Ok_bd (r_ends_3 (u := vw M 0) hn (by omega) (by omega) s.2.1 (by omega) (by omega) 4 n 0 _ (by omega) (by omega) s1 e0 (fun j hj => absurd hj (by omega))) ?_
      rintro _ M2 ⟨s2, hj2⟩
      exact Ok_of (r_two_44 hj2 4 n 0 (by omega) (by omega)) ⟨rfl, s2⟩
    · repeat (first
          | with_reducible refine Ok_g (by first | assumption | omega) ?_
          | with_reducible refine Ok_lt ?_
          | with_reducible refine Ok_t (by first | assumption | omega) ?_
          | with_reducible refine Ok_f (by first | assumption | omega) ?_
          | with_reducible refine Ok_be (e_hasF (by decide) (by assumption)) ?_
          | with_reducible refine Ok_be (e_hasT (by decide) (by assumption)) ?_
          | with_reducible refine Ok_be (e_hasP (by decide) (by assumption)) ?_
          | with_reducible refine Ok_be (e_isCell (by first | assumption | omega)) ?_
          | with_reducible refine Ok_be (e_oor (by assumption) (by decide) (by decide)) ?_
          | with_reducible refine Ok_be (r_isIn (by first | assumption | omega) (by first | decide | omega) (by first | decide | omega)) ?_
          | with_reducible refine Ok_be (r_bound (by assumption) (by decide) (by decide)) ?_
          | with_reducible refine Ok_be (r_isF (by assumption) (by assumption)) ?_
          | with_reducible refine Ok_be (r_isT (by assumption) (by assumption)) ?_
          | with_reducible refine Ok_be (r_isP (by assumption) (by assumption)) ?_
          | with_reducible refine Ok_be (r_isCell (by first | assumption | omega)) ?_
          | with_reducible refine Ok_be (r_areTwo (by assumption) (by assumption) (by assumption)) ?_)
      refine Ok_be (e_refuse 1 (by omega) (by decide) (by decide)) (Ok_ret ⟨by decide, ?_⟩)
      obtain ⟨wf1, rf1, rf2⟩ := sim_rf s (M1 := bump 134 M 1) (fun q i h => bump_ne (by omega))
      unfold m_X6_two m_X6_two_20
      repeat (first
          | with_reducible refine Ok_g (by first | assumption | omega) ?_
          | with_reducible refine Ok_lt ?_
          | with_reducible refine Ok_t (by first | assumption | omega) ?_
          | with_reducible refine Ok_f (by first | assumption | omega) ?_
          | with_reducible refine Ok_be (e_hasF (by decide) (by assumption)) ?_
          | with_reducible refine Ok_be (e_hasT (by decide) (by assumption)) ?_
          | with_reducible refine Ok_be (e_hasP (by decide) (by assumption)) ?_
          | with_reducible refine Ok_be (e_isCell (by first | assumption | omega)) ?_
          | with_reducible refine Ok_be (e_oor (by assumption) (by decide) (by decide)) ?_
          | with_reducible refine Ok_be (r_isIn (by first | assumption | omega) (by first | decide | omega) (by first | decide | omega)) ?_
          | with_reducible refine Ok_be (r_bound (by assumption) (by decide) (by decide)) ?_
          | with_reducible refine Ok_be (r_isF (by assumption) (by assumption)) ?_
          | with_reducible refine Ok_be (r_isT (by assumption) (by assumption)) ?_
          | with_reducible refine Ok_be (r_isP (by assumption) (by assumption)) ?_
          | with_reducible refine Ok_be (r_isCell (by first | assumption | omega)) ?_
          | with_reducible refine Ok_be (r_areTwo (by assumption) (by assumption) (by assumption)) ?_)
      exact Ok_be (r_no 1 (by omega) (by decide) (by decide)) (Ok_ret ⟨rfl, sim_bump s 1⟩)
  · repeat (first
        | with_reducible refine Ok_g (by first | assumption | omega) ?_
        | with_reducible refine Ok_lt ?_
        | with_reducible refine Ok_t (by first | assumption | omega) ?_
        | with_reducible refine Ok_f (by first | assumption | omega) ?_
        | with_reducible refine Ok_be (e_hasF (by decide) (by assumption)) ?_
        | with_reducible refine Ok_be (e_hasT (by decide) (by assumption)) ?_
        | with_reducible refine Ok_be (e_hasP (by decide) (by assumption)) ?_
        | with_reducible refine Ok_be (e_isCell (by first | assumption | omega)) ?_
        | with_reducible refine Ok_be (e_oor (by assumption) (by decide) (by decide)) ?_
        | with_reducible refine Ok_be (r_isIn (by first | assumption | omega) (by first | decide | omega) (by first | decide | omega)) ?_
        | with_reducible refine Ok_be (r_bound (by assumption) (by decide) (by decide)) ?_
        | with_reducible refine Ok_be (r_isF (by assumption) (by assumption)) ?_
        | with_reducible refine Ok_be (r_isT (by assumption) (by assumption)) ?_
        | with_reducible refine Ok_be (r_isP (by assumption) (by assumption)) ?_
        | with_reducible refine Ok_be (r_isCell (by first | assumption | omega)) ?_
        | with_reducible refine Ok_be (r_areTwo (by assumption) (by assumption) (by assumption)) ?_)
    refine Ok_be (e_refuse 1 (by omega) (by decide) (by decide)) (Ok_ret ⟨by decide, ?_⟩)
    obtain ⟨wf1, rf1, rf2⟩ := sim_rf s (M1 := bump 134 M 1) (fun q i h => bump_ne (by omega))
    unfold m_X6_two m_X6_two_20
    repeat (first
        | with_reducible refine Ok_g (by first | assumption | omega) ?_
        | with_reducible refine Ok_lt ?_
        | with_reducible refine Ok_t (by first | assumption | omega) ?_
        | with_reducible refine Ok_f (by first | assumption | omega) ?_
        | with_reducible refine Ok_be (e_hasF (by decide) (by assumption)) ?_
        | with_reducible refine Ok_be (e_hasT (by decide) (by assumption)) ?_
        | with_reducible refine Ok_be (e_hasP (by decide) (by assumption)) ?_
        | with_reducible refine Ok_be (e_isCell (by first | assumption | omega)) ?_
        | with_reducible refine Ok_be (e_oor (by assumption) (by decide) (by decide)) ?_
        | with_reducible refine Ok_be (r_isIn (by first | assumption | omega) (by first | decide | omega) (by first | decide | omega)) ?_
        | with_reducible refine Ok_be (r_bound (by assumption) (by decide) (by decide)) ?_
        | with_reducible refine Ok_be (r_isF (by assumption) (by assumption)) ?_
        | with_reducible refine Ok_be (r_isT (by assumption) (by assumption)) ?_
        | with_reducible refine Ok_be (r_isP (by assumption) (by assumption)) ?_
        | with_reducible refine Ok_be (r_isCell (by first | assumption | omega)) ?_
        | with_reducible refine Ok_be (r_areTwo (by assumption) (by assumption) (by assumption)) ?_)
    exact Ok_be (r_no 1 (by omega) (by decide) (by decide)) (Ok_ret ⟨rfl, sim_bump s 1⟩)
