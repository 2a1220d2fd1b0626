/-! the second side carries a statement out -/
def KT (M M' : Mem) : Prop := ∀ q i, ¬ (138 ≤ q ∧ q ≤ 147) → q ≠ 149 → q ≠ 150 → ¬ (q = 137 ∧ (i = 3 ∨ i = 7 ∨ i = 12 ∨ i = 13 ∨ i = 14)) → M' q i = M q i
theorem KT_refl (M : Mem) : KT M M := fun _ _ _ _ _ _ => rfl
theorem KT_P {M M' : Mem} (h : KPs M M') : KT M M' := fun q i a _ _ d => h q i a d
def ExR (M : Mem) (o : Option US) (r : Int) (M' : Mem) : Prop := KT M M' ∧ match o with
  | some u' => r = 1 ∧ vw M' 137 = u'
  | none => r = 0
theorem r_comesTold {n s : Nat} {M : Mem} {c x y z : Int} (hn : 2000 ≤ n) (hs : s < 33) (hc : rd M 152 s = c) (hX : rd M 154 (3 * s) = x) (hY : rd M 154 (3 * s + 1) = y) (hZ : rd M 154 (3 * s + 2) = z) (wf : WF 999 (vw M 137)) (hd : 0 < dgN c) (hx : 0 ≤ x ∧ x ≤ 99) (hx9 : c ≠ 104 → x ≤ 9) (hy : 1 < dgN c → c ≠ 104 → 0 ≤ y ∧ y ≤ 99) (hy9 : c = 102 ∨ c = 111 ∨ c = 112 → y ≤ 9) (hz : c = 102 ∨ c = 112 → 0 ≤ z ∧ z ≤ 99) (hz9 : c = 102 → z ≤ 9) :
    Ok (m_X6_comesTold n M (s : Int)) (fun r M' => ExR M (exS c x y z (vw M 137)) r M') := by
  have bs := sW wf
  have cc := dg_cases hd
  have no : ∀ o, o = none → ExR M o 0 M := fun o ho => by
    subst ho
    exact ⟨KT_refl M, rfl⟩
  have iX : (3 * (s : Int)).toNat = 3 * s := by omega
  have iY : (3 * (s : Int) + 1).toNat = 3 * s + 1 := by omega
  have iZ : (3 * (s : Int) + 2).toNat = 3 * s + 2 := by omega
  have ry := rd_rng M 154 (3 * s + 1)
  have rz := rd_rng M 154 (3 * s + 2)
  rw [hY] at ry
  rw [hZ] at rz
  unfold m_X6_comesTold
  simp only [Int.toNat_natCast, hc]
  unfold exS
  rcases cc with e | e | e | e | e | e | e
  · subst e
    simp only [if_pos]
    repeat (first
        | with_reducible refine Ok_g (by first | assumption | omega) ?_
        | with_reducible refine Ok_lt ?_
        | with_reducible refine Ok_t (by first | assumption | omega) ?_
        | with_reducible refine Ok_f (by first | assumption | omega) ?_)
    unfold m_X6_comesFront
    rw [iX, iY, iZ, hX, hY, hZ]
    refine Ok_bd (Q := fun r M' => ExR M (if x < 7 ∧ vw M 137 0 3 < 6 then some (adF (vw M 137) x y z) else none) r M' ∧ (r = 0 ∨ r = 1)) ?_ ?_
    · repeat (first
          | with_reducible refine Ok_g (by first | assumption | omega) ?_
          | with_reducible refine Ok_lt ?_
          | with_reducible refine Ok_t (by first | assumption | omega) ?_
          | with_reducible refine Ok_f (by first | assumption | omega) ?_)
      refine Ok_if (fun g => Ok_ret ⟨no _ (by rw [if_neg (by omega)]), .inl rfl⟩) (fun g => ?_)
      refine Ok_if (fun g2 => Ok_ret ⟨no _ (by rw [if_neg (by omega)]), .inl rfl⟩) (fun g2 => ?_)
      repeat (first
          | with_reducible refine Ok_g (by first | assumption | omega) ?_
          | with_reducible refine Ok_lt ?_
          | with_reducible refine Ok_t (by first | assumption | omega) ?_
          | with_reducible refine Ok_f (by first | assumption | omega) ?_)
      refine Ok_bd (r_frontMore wf (by omega) (by omega) (by omega) (by omega)) ?_
      rintro _ M1 ⟨v1, f1⟩
      exact Ok_ret ⟨⟨KT_P f1, by rw [if_pos (by omega)]; exact ⟨rfl, v1⟩⟩, .inr rfl⟩
    · rintro r M1 ⟨h1, h2⟩
      repeat (first
          | with_reducible refine Ok_g (by first | assumption | omega) ?_
          | with_reducible refine Ok_lt ?_
          | with_reducible refine Ok_t (by first | assumption | omega) ?_
          | with_reducible refine Ok_f (by first | assumption | omega) ?_)
      exact Ok_ret h1
  · subst e
    simp only [if_neg (show ¬ (104 : Int) = 102 by decide), if_neg (show ¬ (104 : Int) = 103 by decide), if_neg (show ¬ (104 : Int) = 112 by decide), if_neg (show ¬ (104 : Int) = 116 by decide), if_neg (show ¬ (104 : Int) = 111 by decide), if_neg (show ¬ (104 : Int) = 109 by decide), if_neg (show ¬ (104 : Int) = 107 by decide), if_pos]
    unfold m_X6_comesTold_140
    repeat (first
        | with_reducible refine Ok_g (by first | assumption | omega) ?_
        | with_reducible refine Ok_lt ?_
        | with_reducible refine Ok_t (by first | assumption | omega) ?_
        | with_reducible refine Ok_f (by first | assumption | omega) ?_)
    simp only [Int.toNat_natCast, hc, iX, hX]
    unfold m_X6_comesNumber
    refine Ok_bd (Q := fun r M' => ExR M (if 1 ≤ x ∧ x ≤ 60 ∧ vw M 137 0 13 + x ≤ 999 then some (hoursS x.toNat (vw M 137)) else none) r M' ∧ (r = 0 ∨ r = 1)) ?_ ?_
    · repeat (first
          | with_reducible refine Ok_g (by first | assumption | omega) ?_
          | with_reducible refine Ok_lt ?_
          | with_reducible refine Ok_t (by first | assumption | omega) ?_
          | with_reducible refine Ok_f (by first | assumption | omega) ?_)
      refine Ok_be (r_isIn (by omega) (by decide) (by decide)) ?_
      by_cases g : 1 ≤ x ∧ x ≤ 60
      · repeat (first
            | with_reducible refine Ok_g (by first | assumption | omega) ?_
            | with_reducible refine Ok_lt ?_
            | with_reducible refine Ok_t (by first | assumption | omega) ?_
            | with_reducible refine Ok_f (by first | assumption | omega) ?_)
        refine Ok_if (fun g2 => ?_) (fun g2 => Ok_ret ⟨no _ (by rw [if_neg (by omega)]), .inl rfl⟩)
        refine Ok_bd (r_goes (N := x) (H := 999) hn (by omega) (by omega) wf) ?_
        rintro _ M1 ⟨v1, f1⟩
        exact Ok_ret ⟨⟨fun q i a b c d => f1 q i (by omega) (by omega) b c (by omega), by rw [if_pos (by omega)]; exact ⟨rfl, v1⟩⟩, .inr rfl⟩
      · repeat (first
            | with_reducible refine Ok_g (by first | assumption | omega) ?_
            | with_reducible refine Ok_lt ?_
            | with_reducible refine Ok_t (by first | assumption | omega) ?_
            | with_reducible refine Ok_f (by first | assumption | omega) ?_)
        exact Ok_ret ⟨no _ (by rw [if_neg (by omega)]), .inl rfl⟩
    · rintro r M1 ⟨h1, h2⟩
      repeat (first
          | with_reducible refine Ok_g (by first | assumption | omega) ?_
          | with_reducible refine Ok_lt ?_
          | with_reducible refine Ok_t (by first | assumption | omega) ?_
          | with_reducible refine Ok_f (by first | assumption | omega) ?_)
      exact Ok_ret h1
  · subst e
    simp only [if_neg (show ¬ (107 : Int) = 102 by decide), if_neg (show ¬ (107 : Int) = 103 by decide), if_neg (show ¬ (107 : Int) = 104 by decide), if_neg (show ¬ (107 : Int) = 105 by decide), if_neg (show ¬ (107 : Int) = 106 by decide), if_neg (show ¬ (107 : Int) = 112 by decide), if_neg (show ¬ (107 : Int) = 116 by decide), if_neg (show ¬ (107 : Int) = 111 by decide), if_neg (show ¬ (107 : Int) = 109 by decide), if_pos]
    unfold m_X6_comesTold_140
    repeat (first
        | with_reducible refine Ok_g (by first | assumption | omega) ?_
        | with_reducible refine Ok_lt ?_
        | with_reducible refine Ok_t (by first | assumption | omega) ?_
        | with_reducible refine Ok_f (by first | assumption | omega) ?_)
    simp only [Int.toNat_natCast, hc, iX, hX]
    unfold m_X6_comesNumber
    refine Ok_bd (Q := fun r M' => ExR M (if x = 0 then none else some (uset (vw M 137) 0 14 x)) r M' ∧ (r = 0 ∨ r = 1)) ?_ ?_
    · repeat (first
          | with_reducible refine Ok_g (by first | assumption | omega) ?_
          | with_reducible refine Ok_lt ?_
          | with_reducible refine Ok_t (by first | assumption | omega) ?_
          | with_reducible refine Ok_f (by first | assumption | omega) ?_)
      refine Ok_if (fun g2 => Ok_ret ⟨no _ (by rw [if_pos g2]), .inl rfl⟩) (fun g2 => ?_)
      refine Ok_wr (Ok_ret ⟨⟨fun q i a b c d => mup_n _ (by omega), ?_⟩, .inr rfl⟩)
      rw [if_neg g2]
      exact ⟨rfl, vw_sets (by omega) (by omega) (by omega)⟩
    · rintro r M1 ⟨h1, h2⟩
      repeat (first
          | with_reducible refine Ok_g (by first | assumption | omega) ?_
          | with_reducible refine Ok_lt ?_
          | with_reducible refine Ok_t (by first | assumption | omega) ?_
          | with_reducible refine Ok_f (by first | assumption | omega) ?_)
      exact Ok_ret h1
  · subst e
    simp only [if_neg (show ¬ (109 : Int) = 102 by decide), if_neg (show ¬ (109 : Int) = 103 by decide), if_neg (show ¬ (109 : Int) = 104 by decide), if_neg (show ¬ (109 : Int) = 105 by decide), if_neg (show ¬ (109 : Int) = 106 by decide), if_neg (show ¬ (109 : Int) = 107 by decide), if_neg (show ¬ (109 : Int) = 108 by decide), if_neg (show ¬ (109 : Int) = 112 by decide), if_neg (show ¬ (109 : Int) = 116 by decide), if_neg (show ¬ (109 : Int) = 111 by decide), if_pos]
    have hy' := hy (by decide) (by decide)
    repeat (first
        | with_reducible refine Ok_g (by first | assumption | omega) ?_
        | with_reducible refine Ok_lt ?_
        | with_reducible refine Ok_t (by first | assumption | omega) ?_
        | with_reducible refine Ok_f (by first | assumption | omega) ?_)
    simp only [iX, iY, hX, hY]
    unfold m_X6_comesStanding
    refine Ok_bd (Q := fun r M' => ExR M (if x < vw M 137 0 12 ∧ y < 24 then some (uset (vw M 137) 10 x.toNat y) else none) r M' ∧ (r = 0 ∨ r = 1)) ?_ ?_
    · refine Ok_be (r_isP (by omega) wf) ?_
      by_cases g : x < rd M 137 12
      · repeat (first
            | with_reducible refine Ok_g (by first | assumption | omega) ?_
            | with_reducible refine Ok_lt ?_
            | with_reducible refine Ok_t (by first | assumption | omega) ?_
            | with_reducible refine Ok_f (by first | assumption | omega) ?_)
        refine Ok_be (r_isCell (by omega)) ?_
        by_cases g2 : y < 24
        · repeat (first
              | with_reducible refine Ok_g (by first | assumption | omega) ?_
              | with_reducible refine Ok_lt ?_
              | with_reducible refine Ok_t (by first | assumption | omega) ?_
              | with_reducible refine Ok_f (by first | assumption | omega) ?_)
          refine Ok_wr (Ok_ret ⟨⟨fun q i a b c d => mup_n _ (by omega), ?_⟩, .inr rfl⟩)
          rw [if_pos (by omega)]
          exact ⟨rfl, vw_set (w := 137) (k := 10) (by omega) (by decide) (by decide) (by decide) (show _ < 5 by omega)⟩
        · repeat (first
              | with_reducible refine Ok_g (by first | assumption | omega) ?_
              | with_reducible refine Ok_lt ?_
              | with_reducible refine Ok_t (by first | assumption | omega) ?_
              | with_reducible refine Ok_f (by first | assumption | omega) ?_)
          exact Ok_ret ⟨no _ (by rw [if_neg (by omega)]), .inl rfl⟩
      · repeat (first
            | with_reducible refine Ok_g (by first | assumption | omega) ?_
            | with_reducible refine Ok_lt ?_
            | with_reducible refine Ok_t (by first | assumption | omega) ?_
            | with_reducible refine Ok_f (by first | assumption | omega) ?_)
        exact Ok_ret ⟨no _ (by rw [if_neg (by omega)]), .inl rfl⟩
    · rintro r M1 ⟨h1, h2⟩
      repeat (first
          | with_reducible refine Ok_g (by first | assumption | omega) ?_
          | with_reducible refine Ok_lt ?_
          | with_reducible refine Ok_t (by first | assumption | omega) ?_
          | with_reducible refine Ok_f (by first | assumption | omega) ?_)
      exact Ok_ret h1
  · subst e
    simp only [if_neg (show ¬ (111 : Int) = 102 by decide), if_neg (show ¬ (111 : Int) = 103 by decide), if_neg (show ¬ (111 : Int) = 104 by decide), if_neg (show ¬ (111 : Int) = 105 by decide), if_neg (show ¬ (111 : Int) = 106 by decide), if_neg (show ¬ (111 : Int) = 107 by decide), if_neg (show ¬ (111 : Int) = 108 by decide), if_neg (show ¬ (111 : Int) = 109 by decide), if_neg (show ¬ (111 : Int) = 110 by decide), if_neg (show ¬ (111 : Int) = 112 by decide), if_neg (show ¬ (111 : Int) = 116 by decide), if_pos]
    have hy' := hy (by decide) (by decide)
    repeat (first
        | with_reducible refine Ok_g (by first | assumption | omega) ?_
        | with_reducible refine Ok_lt ?_
        | with_reducible refine Ok_t (by first | assumption | omega) ?_
        | with_reducible refine Ok_f (by first | assumption | omega) ?_)
    simp only [iX, iY, hX, hY]
    unfold m_X6_comesOwner
    refine Ok_bd (Q := fun r M' => ExR M (if x < vw M 137 0 7 ∧ (y = 9 ∨ y < vw M 137 0 12) then some (uset (vw M 137) 6 x.toNat (if y = 9 then -1 else y)) else none) r M' ∧ (r = 0 ∨ r = 1)) ?_ ?_
    · refine Ok_be (r_isT (by omega) wf) ?_
      by_cases g : x < rd M 137 7
      · have fin : (y = 9 ∨ y < rd M 137 12) → Ok (m_X6_comesOwner_24 n M x y) (fun r M' => ExR M (if x < vw M 137 0 7 ∧ (y = 9 ∨ y < vw M 137 0 12) then some (uset (vw M 137) 6 x.toNat (if y = 9 then -1 else y)) else none) r M' ∧ (r = 0 ∨ r = 1)) := by
          intro hh
          unfold m_X6_comesOwner_24 m_X6_comesOwner_41
          repeat (first
              | with_reducible refine Ok_g (by first | assumption | omega) ?_
              | with_reducible refine Ok_lt ?_
              | with_reducible refine Ok_t (by first | assumption | omega) ?_
              | with_reducible refine Ok_f (by first | assumption | omega) ?_)
          refine Ok_if (fun g2 => ?_) (fun g2 => ?_)
          · repeat (first
                | with_reducible refine Ok_g (by first | assumption | omega) ?_
                | with_reducible refine Ok_lt ?_
                | with_reducible refine Ok_t (by first | assumption | omega) ?_
                | with_reducible refine Ok_f (by first | assumption | omega) ?_)
            refine Ok_wr (Ok_ret ⟨⟨fun q i a b c d => mup_n _ (by omega), ?_⟩, .inr rfl⟩)
            rw [if_pos (by omega), if_pos g2]
            exact ⟨rfl, vw_set (w := 137) (k := 6) (by decide) (by decide) (by decide) (by decide) (show _ < 8 by omega)⟩
          · repeat (first
                | with_reducible refine Ok_g (by first | assumption | omega) ?_
                | with_reducible refine Ok_lt ?_
                | with_reducible refine Ok_t (by first | assumption | omega) ?_
                | with_reducible refine Ok_f (by first | assumption | omega) ?_)
            refine Ok_wr (Ok_ret ⟨⟨fun q i a b c d => mup_n _ (by omega), ?_⟩, .inr rfl⟩)
            rw [if_pos (by omega), if_neg g2]
            have := vw_set (M := M) (w := 137) (k := 6) (i := x.toNat) (v := y) (by omega) (by decide) (by decide) (by decide) (show _ < 8 by omega)
            rw [if_pos rfl, show ow 137 y = y by unfold ow; omega] at this
            exact ⟨rfl, this⟩
        repeat (first
            | with_reducible refine Ok_g (by first | assumption | omega) ?_
            | with_reducible refine Ok_lt ?_
            | with_reducible refine Ok_t (by first | assumption | omega) ?_
            | with_reducible refine Ok_f (by first | assumption | omega) ?_)
        refine Ok_if (fun g2 => fin (.inl g2)) (fun g2 => ?_)
        refine Ok_be (r_isP (by omega) wf) ?_
        by_cases g3 : y < rd M 137 12
        · repeat (first
              | with_reducible refine Ok_g (by first | assumption | omega) ?_
              | with_reducible refine Ok_lt ?_
              | with_reducible refine Ok_t (by first | assumption | omega) ?_
              | with_reducible refine Ok_f (by first | assumption | omega) ?_)
          exact fin (.inr g3)
        · repeat (first
              | with_reducible refine Ok_g (by first | assumption | omega) ?_
              | with_reducible refine Ok_lt ?_
              | with_reducible refine Ok_t (by first | assumption | omega) ?_
              | with_reducible refine Ok_f (by first | assumption | omega) ?_)
          exact Ok_ret ⟨no _ (by rw [if_neg (by omega)]), .inl rfl⟩
      · repeat (first
            | with_reducible refine Ok_g (by first | assumption | omega) ?_
            | with_reducible refine Ok_lt ?_
            | with_reducible refine Ok_t (by first | assumption | omega) ?_
            | with_reducible refine Ok_f (by first | assumption | omega) ?_)
        exact Ok_ret ⟨no _ (by rw [if_neg (by omega)]), .inl rfl⟩
    · rintro r M1 ⟨h1, h2⟩
      repeat (first
          | with_reducible refine Ok_g (by first | assumption | omega) ?_
          | with_reducible refine Ok_lt ?_
          | with_reducible refine Ok_t (by first | assumption | omega) ?_
          | with_reducible refine Ok_f (by first | assumption | omega) ?_)
      exact Ok_ret h1
  · subst e
    simp only [if_neg (show ¬ (112 : Int) = 102 by decide), if_neg (show ¬ (112 : Int) = 103 by decide), if_neg (show ¬ (112 : Int) = 104 by decide), if_neg (show ¬ (112 : Int) = 105 by decide), if_neg (show ¬ (112 : Int) = 106 by decide), if_neg (show ¬ (112 : Int) = 107 by decide), if_neg (show ¬ (112 : Int) = 108 by decide), if_neg (show ¬ (112 : Int) = 109 by decide), if_neg (show ¬ (112 : Int) = 110 by decide), if_neg (show ¬ (112 : Int) = 111 by decide), if_pos]
    have hy' := hy (by decide) (by decide)
    repeat (first
        | with_reducible refine Ok_g (by first | assumption | omega) ?_
        | with_reducible refine Ok_lt ?_
        | with_reducible refine Ok_t (by first | assumption | omega) ?_
        | with_reducible refine Ok_f (by first | assumption | omega) ?_)
    unfold m_X6_comesPerson
    rw [iX, iY, iZ, hX, hZ]
    refine Ok_bd (Q := fun r M' => ExR M (if x < 8 ∧ z < 24 ∧ vw M 137 0 12 < 5 then some (adP (vw M 137) x y z) else none) r M' ∧ (r = 0 ∨ r = 1)) ?_ ?_
    · repeat (first
          | with_reducible refine Ok_g (by first | assumption | omega) ?_
          | with_reducible refine Ok_lt ?_
          | with_reducible refine Ok_t (by first | assumption | omega) ?_
          | with_reducible refine Ok_f (by first | assumption | omega) ?_)
      refine Ok_if (fun g => Ok_ret ⟨no _ (by rw [if_neg (by omega)]), .inl rfl⟩) (fun g => ?_)
      repeat (first
          | with_reducible refine Ok_g (by first | assumption | omega) ?_
          | with_reducible refine Ok_lt ?_
          | with_reducible refine Ok_t (by first | assumption | omega) ?_
          | with_reducible refine Ok_f (by first | assumption | omega) ?_)
      refine Ok_be (r_isCell (by omega)) ?_
      by_cases g2 : z < 24
      · repeat (first
            | with_reducible refine Ok_g (by first | assumption | omega) ?_
            | with_reducible refine Ok_lt ?_
            | with_reducible refine Ok_t (by first | assumption | omega) ?_
            | with_reducible refine Ok_f (by first | assumption | omega) ?_)
        refine Ok_if (fun g3 => Ok_ret ⟨no _ (by rw [if_neg (by omega)]), .inl rfl⟩) (fun g3 => ?_)
        repeat (first
            | with_reducible refine Ok_g (by first | assumption | omega) ?_
            | with_reducible refine Ok_lt ?_
            | with_reducible refine Ok_t (by first | assumption | omega) ?_
            | with_reducible refine Ok_f (by first | assumption | omega) ?_)
        rw [hX, hY, hZ]
        refine Ok_bd (r_personMore wf (by omega) (by omega) (by omega) (by omega)) ?_
        rintro _ M1 ⟨v1, f1⟩
        exact Ok_ret ⟨⟨KT_P f1, by rw [if_pos (by omega)]; exact ⟨rfl, v1⟩⟩, .inr rfl⟩
      · repeat (first
            | with_reducible refine Ok_g (by first | assumption | omega) ?_
            | with_reducible refine Ok_lt ?_
            | with_reducible refine Ok_t (by first | assumption | omega) ?_
            | with_reducible refine Ok_f (by first | assumption | omega) ?_)
        exact Ok_ret ⟨no _ (by rw [if_neg (by omega)]), .inl rfl⟩
    · rintro r M1 ⟨h1, h2⟩
      repeat (first
          | with_reducible refine Ok_g (by first | assumption | omega) ?_
          | with_reducible refine Ok_lt ?_
          | with_reducible refine Ok_t (by first | assumption | omega) ?_
          | with_reducible refine Ok_f (by first | assumption | omega) ?_)
      exact Ok_ret h1
  · subst e
    simp only [if_neg (show ¬ (116 : Int) = 102 by decide), if_neg (show ¬ (116 : Int) = 103 by decide), if_neg (show ¬ (116 : Int) = 104 by decide), if_neg (show ¬ (116 : Int) = 105 by decide), if_neg (show ¬ (116 : Int) = 106 by decide), if_neg (show ¬ (116 : Int) = 107 by decide), if_neg (show ¬ (116 : Int) = 108 by decide), if_neg (show ¬ (116 : Int) = 109 by decide), if_neg (show ¬ (116 : Int) = 110 by decide), if_neg (show ¬ (116 : Int) = 111 by decide), if_neg (show ¬ (116 : Int) = 112 by decide), if_neg (show ¬ (116 : Int) = 113 by decide), if_neg (show ¬ (116 : Int) = 114 by decide), if_neg (show ¬ (116 : Int) = 115 by decide), if_pos]
    have hy' := hy (by decide) (by decide)
    repeat (first
        | with_reducible refine Ok_g (by first | assumption | omega) ?_
        | with_reducible refine Ok_lt ?_
        | with_reducible refine Ok_t (by first | assumption | omega) ?_
        | with_reducible refine Ok_f (by first | assumption | omega) ?_)
    unfold m_X6_comesThing
    rw [iX, iY, hY]
    refine Ok_bd (Q := fun r M' => ExR M (if y < 24 ∧ vw M 137 0 7 < 8 then some (adT (vw M 137) x y) else none) r M' ∧ (r = 0 ∨ r = 1)) ?_ ?_
    · repeat (first
          | with_reducible refine Ok_g (by first | assumption | omega) ?_
          | with_reducible refine Ok_lt ?_
          | with_reducible refine Ok_t (by first | assumption | omega) ?_
          | with_reducible refine Ok_f (by first | assumption | omega) ?_)
      refine Ok_be (r_isCell (by omega)) ?_
      by_cases g2 : y < 24
      · repeat (first
            | with_reducible refine Ok_g (by first | assumption | omega) ?_
            | with_reducible refine Ok_lt ?_
            | with_reducible refine Ok_t (by first | assumption | omega) ?_
            | with_reducible refine Ok_f (by first | assumption | omega) ?_)
        refine Ok_if (fun g3 => Ok_ret ⟨no _ (by rw [if_neg (by omega)]), .inl rfl⟩) (fun g3 => ?_)
        repeat (first
            | with_reducible refine Ok_g (by first | assumption | omega) ?_
            | with_reducible refine Ok_lt ?_
            | with_reducible refine Ok_t (by first | assumption | omega) ?_
            | with_reducible refine Ok_f (by first | assumption | omega) ?_)
        rw [hX, hY]
        refine Ok_bd (r_thingMore wf (by omega) (by omega) (by omega)) ?_
        rintro _ M1 ⟨v1, f1⟩
        exact Ok_ret ⟨⟨KT_P f1, by rw [if_pos (by omega)]; exact ⟨rfl, v1⟩⟩, .inr rfl⟩
      · repeat (first
            | with_reducible refine Ok_g (by first | assumption | omega) ?_
            | with_reducible refine Ok_lt ?_
            | with_reducible refine Ok_t (by first | assumption | omega) ?_
            | with_reducible refine Ok_f (by first | assumption | omega) ?_)
        exact Ok_ret ⟨no _ (by rw [if_neg (by omega)]), .inl rfl⟩
    · rintro r M1 ⟨h1, h2⟩
      repeat (first
          | with_reducible refine Ok_g (by first | assumption | omega) ?_
          | with_reducible refine Ok_lt ?_
          | with_reducible refine Ok_t (by first | assumption | omega) ?_
          | with_reducible refine Ok_f (by first | assumption | omega) ?_)
      exact Ok_ret h1
