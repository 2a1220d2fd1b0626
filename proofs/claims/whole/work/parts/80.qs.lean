/-! the law: both sides answer alike, whatever is asked -/
theorem cmp_self (a : Int) : cmpZ a a = 0 := by
  unfold cmpZ
  rw [if_neg (by omega), if_pos rfl]
theorem q_law {n Ls : Nat} {xs : Nat → Int32} (hn : 2000 ≤ n) (hl : Ls ≤ 3072) : ∀ (k t i : Nat) (M : Mem), Ls < 6 * k + i → i ≤ Ls + 6 → k < t → Sim M → Ok (m_L_law_18 Ls xs n t M (i : Int)) (fun r _ => r = 1) := by
  intro k
  induction k with
  | zero =>
    intro t i M h1 h2 ht s
    cases t with
    | zero => omega
    | succ t =>
      rw [m_L_law_18]
      repeat (first
          | with_reducible refine Ok_g (by first | assumption | omega) ?_
          | with_reducible refine Ok_lt ?_
          | with_reducible refine Ok_t (by first | assumption | omega) ?_
          | with_reducible refine Ok_f (by first | assumption | omega) ?_)
      exact Ok_ret rfl
  | succ k ih =>
    intro t i M h1 h2 ht s
    cases t with
    | zero => omega
    | succ t =>
      rw [m_L_law_18]
      have xr : ∀ j : Nat, I32 (xs j).toInt := fun j => i_rng _
      have nx : ∀ M2, Sim M2 → Ok (m_L_law_18 Ls xs n t M2 ((i : Int) + 6)) (fun r _ => r = 1) := by
        intro M2 s2
        by_cases e : (Ls : Int) - 6 < i
        · cases t with
          | zero => omega
          | succ t =>
            rw [m_L_law_18]
            repeat (first
                | with_reducible refine Ok_g (by first | assumption | omega) ?_
                | with_reducible refine Ok_lt ?_
                | with_reducible refine Ok_t (by first | assumption | omega) ?_
                | with_reducible refine Ok_f (by first | assumption | omega) ?_)
            exact Ok_ret rfl
        · rw [show (i : Int) + 6 = ((i + 6 : Nat) : Int) by omega]
          exact ih t (i + 6) M2 (by omega) (by omega) (by omega) s2
      by_cases e : (Ls : Int) - 6 < i
      · repeat (first
            | with_reducible refine Ok_g (by first | assumption | omega) ?_
            | with_reducible refine Ok_lt ?_
            | with_reducible refine Ok_t (by first | assumption | omega) ?_
            | with_reducible refine Ok_f (by first | assumption | omega) ?_)
        exact Ok_ret rfl
      repeat (first
          | with_reducible refine Ok_g (by first | assumption | omega) ?_
          | with_reducible refine Ok_lt ?_
          | with_reducible refine Ok_t (by first | assumption | omega) ?_
          | with_reducible refine Ok_f (by first | assumption | omega) ?_)
      have hop : I32 (bAnd ((xs (Int.toNat (i : Int))).toInt) 63) := i_rng _
      generalize bAnd ((xs (Int.toNat (i : Int))).toInt) 63 = op at hop ⊢
      repeat (first
          | with_reducible refine Ok_g (by first | assumption | omega) ?_
          | with_reducible refine Ok_lt ?_
          | with_reducible refine Ok_t (by first | assumption | omega) ?_
          | with_reducible refine Ok_f (by first | assumption | omega) ?_)
      by_cases e0 : op = 0
      · repeat (first
            | with_reducible refine Ok_g (by first | assumption | omega) ?_
            | with_reducible refine Ok_lt ?_
            | with_reducible refine Ok_t (by first | assumption | omega) ?_
            | with_reducible refine Ok_f (by first | assumption | omega) ?_)
        refine Ok_bd (q_feed s (xr _)) ?_
        rintro r M1 ⟨hr, h⟩
        refine Ok_bd h ?_
        rintro _ M2 ⟨rfl, s2⟩
        refine Ok_g hr (Ok_g hr (Ok_t rfl (nx M2 s2)))
      rw [if_neg e0]
      by_cases e1 : op = 1
      · repeat (first
            | with_reducible refine Ok_g (by first | assumption | omega) ?_
            | with_reducible refine Ok_lt ?_
            | with_reducible refine Ok_t (by first | assumption | omega) ?_
            | with_reducible refine Ok_f (by first | assumption | omega) ?_)
        refine Ok_bd (q_coast hn s) ?_
        rintro r M1 ⟨hr, h⟩
        refine Ok_bd h ?_
        rintro _ M2 ⟨rfl, s2⟩
        refine Ok_g hr (Ok_g hr (Ok_t rfl (nx M2 s2)))
      rw [if_neg e1]
      by_cases e2 : op = 2
      · repeat (first
            | with_reducible refine Ok_g (by first | assumption | omega) ?_
            | with_reducible refine Ok_lt ?_
            | with_reducible refine Ok_t (by first | assumption | omega) ?_
            | with_reducible refine Ok_f (by first | assumption | omega) ?_)
        refine Ok_bd (q_person hn s (xr _) (xr _)) ?_
        rintro r M1 ⟨hr, h⟩
        refine Ok_bd h ?_
        rintro _ M2 ⟨rfl, s2⟩
        refine Ok_g hr (Ok_g hr (Ok_t rfl (nx M2 s2)))
      rw [if_neg e2]
      by_cases e3 : op = 3
      · repeat (first
            | with_reducible refine Ok_g (by first | assumption | omega) ?_
            | with_reducible refine Ok_lt ?_
            | with_reducible refine Ok_t (by first | assumption | omega) ?_
            | with_reducible refine Ok_f (by first | assumption | omega) ?_)
        refine Ok_bd (q_thing s (xr _) (xr _)) ?_
        rintro r M1 ⟨hr, h⟩
        refine Ok_bd h ?_
        rintro _ M2 ⟨rfl, s2⟩
        refine Ok_g hr (Ok_g hr (Ok_t rfl (nx M2 s2)))
      rw [if_neg e3]
      by_cases e4 : op = 4
      · repeat (first
            | with_reducible refine Ok_g (by first | assumption | omega) ?_
            | with_reducible refine Ok_lt ?_
            | with_reducible refine Ok_t (by first | assumption | omega) ?_
            | with_reducible refine Ok_f (by first | assumption | omega) ?_)
        refine Ok_bd (q_front s (xr _) (xr _)) ?_
        rintro r M1 ⟨hr, h⟩
        refine Ok_bd h ?_
        rintro _ M2 ⟨rfl, s2⟩
        refine Ok_g hr (Ok_g hr (Ok_t rfl (nx M2 s2)))
      rw [if_neg e4]
      by_cases e5 : op = 5
      · repeat (first
            | with_reducible refine Ok_g (by first | assumption | omega) ?_
            | with_reducible refine Ok_lt ?_
            | with_reducible refine Ok_t (by first | assumption | omega) ?_
            | with_reducible refine Ok_f (by first | assumption | omega) ?_)
        refine Ok_bd (q_cell hn s (xr _) (xr _)) ?_
        rintro r M1 ⟨hr, h⟩
        refine Ok_bd h ?_
        rintro _ M2 ⟨rfl, s2⟩
        refine Ok_g hr (Ok_g hr (Ok_t rfl (nx M2 s2)))
      rw [if_neg e5]
      by_cases e6 : op = 6
      · repeat (first
            | with_reducible refine Ok_g (by first | assumption | omega) ?_
            | with_reducible refine Ok_lt ?_
            | with_reducible refine Ok_t (by first | assumption | omega) ?_
            | with_reducible refine Ok_f (by first | assumption | omega) ?_)
        refine Ok_bd (q_blows hn s (xr _) (xr _) (xr _)) ?_
        rintro r M1 ⟨hr, h⟩
        refine Ok_bd h ?_
        rintro _ M2 ⟨rfl, s2⟩
        refine Ok_g hr (Ok_g hr (Ok_t rfl (nx M2 s2)))
      rw [if_neg e6]
      by_cases e7 : op = 7
      · repeat (first
            | with_reducible refine Ok_g (by first | assumption | omega) ?_
            | with_reducible refine Ok_lt ?_
            | with_reducible refine Ok_t (by first | assumption | omega) ?_
            | with_reducible refine Ok_f (by first | assumption | omega) ?_)
        refine Ok_bd (q_comes hn s (xr _) (xr _) (xr _)) ?_
        rintro r M1 ⟨hr, h⟩
        refine Ok_bd h ?_
        rintro _ M2 ⟨rfl, s2⟩
        refine Ok_g hr (Ok_g hr (Ok_t rfl (nx M2 s2)))
      rw [if_neg e7]
      by_cases e8 : op = 8
      · repeat (first
            | with_reducible refine Ok_g (by first | assumption | omega) ?_
            | with_reducible refine Ok_lt ?_
            | with_reducible refine Ok_t (by first | assumption | omega) ?_
            | with_reducible refine Ok_f (by first | assumption | omega) ?_)
        refine Ok_bd (q_lies hn s (xr _) (xr _)) ?_
        rintro r M1 ⟨hr, h⟩
        refine Ok_bd h ?_
        rintro _ M2 ⟨rfl, s2⟩
        refine Ok_g hr (Ok_g hr (Ok_t rfl (nx M2 s2)))
      rw [if_neg e8]
      by_cases e9 : op = 9
      · repeat (first
            | with_reducible refine Ok_g (by first | assumption | omega) ?_
            | with_reducible refine Ok_lt ?_
            | with_reducible refine Ok_t (by first | assumption | omega) ?_
            | with_reducible refine Ok_f (by first | assumption | omega) ?_)
        refine Ok_bd (q_thick hn s (xr _)) ?_
        rintro r M1 ⟨hr, h⟩
        refine Ok_bd h ?_
        rintro _ M2 ⟨rfl, s2⟩
        refine Ok_g hr (Ok_g hr (Ok_t rfl (nx M2 s2)))
      rw [if_neg e9]
      by_cases e10 : op = 10
      · repeat (first
            | with_reducible refine Ok_g (by first | assumption | omega) ?_
            | with_reducible refine Ok_lt ?_
            | with_reducible refine Ok_t (by first | assumption | omega) ?_
            | with_reducible refine Ok_f (by first | assumption | omega) ?_)
        refine Ok_bd (q_owns hn s (xr _) (xr _)) ?_
        rintro r M1 ⟨hr, h⟩
        refine Ok_bd h ?_
        rintro _ M2 ⟨rfl, s2⟩
        refine Ok_g hr (Ok_g hr (Ok_t rfl (nx M2 s2)))
      rw [if_neg e10]
      by_cases e11 : op = 11
      · repeat (first
            | with_reducible refine Ok_g (by first | assumption | omega) ?_
            | with_reducible refine Ok_lt ?_
            | with_reducible refine Ok_t (by first | assumption | omega) ?_
            | with_reducible refine Ok_f (by first | assumption | omega) ?_)
        refine Ok_bd (q_stands hn s (xr _) (xr _)) ?_
        rintro r M1 ⟨hr, h⟩
        refine Ok_bd h ?_
        rintro _ M2 ⟨rfl, s2⟩
        refine Ok_g hr (Ok_g hr (Ok_t rfl (nx M2 s2)))
      rw [if_neg e11]
      by_cases e12 : op = 12
      · repeat (first
            | with_reducible refine Ok_g (by first | assumption | omega) ?_
            | with_reducible refine Ok_lt ?_
            | with_reducible refine Ok_t (by first | assumption | omega) ?_
            | with_reducible refine Ok_f (by first | assumption | omega) ?_)
        refine Ok_bd (q_carries hn s (xr _) (xr _)) ?_
        rintro r M1 ⟨hr, h⟩
        refine Ok_bd h ?_
        rintro _ M2 ⟨rfl, s2⟩
        refine Ok_g hr (Ok_g hr (Ok_t rfl (nx M2 s2)))
      rw [if_neg e12]
      by_cases e13 : op = 13
      · repeat (first
            | with_reducible refine Ok_g (by first | assumption | omega) ?_
            | with_reducible refine Ok_lt ?_
            | with_reducible refine Ok_t (by first | assumption | omega) ?_
            | with_reducible refine Ok_f (by first | assumption | omega) ?_)
        refine Ok_bd (q_hours hn s (xr _)) ?_
        rintro r M1 ⟨hr, h⟩
        refine Ok_bd h ?_
        rintro _ M2 ⟨rfl, s2⟩
        refine Ok_g hr (Ok_g hr (Ok_t rfl (nx M2 s2)))
      rw [if_neg e13]
      by_cases e14 : op = 14
      · repeat (first
            | with_reducible refine Ok_g (by first | assumption | omega) ?_
            | with_reducible refine Ok_lt ?_
            | with_reducible refine Ok_t (by first | assumption | omega) ?_
            | with_reducible refine Ok_f (by first | assumption | omega) ?_)
        refine Ok_bd (q_back hn s) ?_
        rintro r M1 ⟨hr, h⟩
        refine Ok_bd h ?_
        rintro _ M2 ⟨rfl, s2⟩
        refine Ok_g hr (Ok_g hr (Ok_t rfl (nx M2 s2)))
      rw [if_neg e14]
      by_cases e15 : op = 15
      · repeat (first
            | with_reducible refine Ok_g (by first | assumption | omega) ?_
            | with_reducible refine Ok_lt ?_
            | with_reducible refine Ok_t (by first | assumption | omega) ?_
            | with_reducible refine Ok_f (by first | assumption | omega) ?_)
        refine Ok_bd (q_fogThen hn s (xr _) (xr _)) ?_
        rintro r M1 ⟨hr, h⟩
        refine Ok_bd h ?_
        rintro _ M2 ⟨rfl, s2⟩
        refine Ok_g hr (Ok_g hr (Ok_t rfl (nx M2 s2)))
      rw [if_neg e15]
      by_cases e16 : op = 16
      · repeat (first
            | with_reducible refine Ok_g (by first | assumption | omega) ?_
            | with_reducible refine Ok_lt ?_
            | with_reducible refine Ok_t (by first | assumption | omega) ?_
            | with_reducible refine Ok_f (by first | assumption | omega) ?_)
        refine Ok_bd (q_then hn s (xr _) (xr _)) ?_
        rintro r M1 ⟨hr, h⟩
        refine Ok_bd h ?_
        rintro _ M2 ⟨rfl, s2⟩
        refine Ok_g hr (Ok_g hr (Ok_t rfl (nx M2 s2)))
      rw [if_neg e16]
      by_cases e17 : op = 17
      · repeat (first
            | with_reducible refine Ok_g (by first | assumption | omega) ?_
            | with_reducible refine Ok_lt ?_
            | with_reducible refine Ok_t (by first | assumption | omega) ?_
            | with_reducible refine Ok_f (by first | assumption | omega) ?_)
        refine Ok_bd (q_ownerThen hn s (xr _) (xr _)) ?_
        rintro r M1 ⟨hr, h⟩
        refine Ok_bd h ?_
        rintro _ M2 ⟨rfl, s2⟩
        refine Ok_g hr (Ok_g hr (Ok_t rfl (nx M2 s2)))
      rw [if_neg e17]
      by_cases e18 : op = 18
      · repeat (first
            | with_reducible refine Ok_g (by first | assumption | omega) ?_
            | with_reducible refine Ok_lt ?_
            | with_reducible refine Ok_t (by first | assumption | omega) ?_
            | with_reducible refine Ok_f (by first | assumption | omega) ?_)
        refine Ok_bd (q_personThen hn s (xr _) (xr _) (xr _)) ?_
        rintro r M1 ⟨hr, h⟩
        refine Ok_bd h ?_
        rintro _ M2 ⟨rfl, s2⟩
        refine Ok_g hr (Ok_g hr (Ok_t rfl (nx M2 s2)))
      rw [if_neg e18]
      by_cases e19 : op = 19
      · repeat (first
            | with_reducible refine Ok_g (by first | assumption | omega) ?_
            | with_reducible refine Ok_lt ?_
            | with_reducible refine Ok_t (by first | assumption | omega) ?_
            | with_reducible refine Ok_f (by first | assumption | omega) ?_)
        refine Ok_bd (q_when hn s (xr _) (xr _)) ?_
        rintro r M1 ⟨hr, h⟩
        refine Ok_bd h ?_
        rintro _ M2 ⟨rfl, s2⟩
        refine Ok_g hr (Ok_g hr (Ok_t rfl (nx M2 s2)))
      rw [if_neg e19]
      by_cases e20 : op = 20
      · repeat (first
            | with_reducible refine Ok_g (by first | assumption | omega) ?_
            | with_reducible refine Ok_lt ?_
            | with_reducible refine Ok_t (by first | assumption | omega) ?_
            | with_reducible refine Ok_f (by first | assumption | omega) ?_)
        refine Ok_bd (q_first hn s) ?_
        rintro r M1 ⟨hr, h⟩
        refine Ok_bd h ?_
        rintro _ M2 ⟨rfl, s2⟩
        refine Ok_g hr (Ok_g hr (Ok_t rfl (nx M2 s2)))
      rw [if_neg e20]
      by_cases e21 : op = 21
      · repeat (first
            | with_reducible refine Ok_g (by first | assumption | omega) ?_
            | with_reducible refine Ok_lt ?_
            | with_reducible refine Ok_t (by first | assumption | omega) ?_
            | with_reducible refine Ok_f (by first | assumption | omega) ?_)
        refine Ok_bd (q_clears hn s (xr _)) ?_
        rintro r M1 ⟨hr, h⟩
        refine Ok_bd h ?_
        rintro _ M2 ⟨rfl, s2⟩
        refine Ok_g hr (Ok_g hr (Ok_t rfl (nx M2 s2)))
      rw [if_neg e21]
      by_cases e22 : op = 22
      · repeat (first
            | with_reducible refine Ok_g (by first | assumption | omega) ?_
            | with_reducible refine Ok_lt ?_
            | with_reducible refine Ok_t (by first | assumption | omega) ?_
            | with_reducible refine Ok_f (by first | assumption | omega) ?_)
        refine Ok_bd (q_stand hn s (xr _) (xr _) (xr _)) ?_
        rintro r M1 ⟨hr, h⟩
        refine Ok_bd h ?_
        rintro _ M2 ⟨rfl, s2⟩
        refine Ok_g hr (Ok_g hr (Ok_t rfl (nx M2 s2)))
      rw [if_neg e22]
      by_cases e23 : op = 23
      · repeat (first
            | with_reducible refine Ok_g (by first | assumption | omega) ?_
            | with_reducible refine Ok_lt ?_
            | with_reducible refine Ok_t (by first | assumption | omega) ?_
            | with_reducible refine Ok_f (by first | assumption | omega) ?_)
        refine Ok_bd (q_kettle hn s (xr _) (xr _) (xr _)) ?_
        rintro r M1 ⟨hr, h⟩
        refine Ok_bd h ?_
        rintro _ M2 ⟨rfl, s2⟩
        refine Ok_g hr (Ok_g hr (Ok_t rfl (nx M2 s2)))
      rw [if_neg e23]
      by_cases e24 : op = 24
      · repeat (first
            | with_reducible refine Ok_g (by first | assumption | omega) ?_
            | with_reducible refine Ok_lt ?_
            | with_reducible refine Ok_t (by first | assumption | omega) ?_
            | with_reducible refine Ok_f (by first | assumption | omega) ?_)
        refine Ok_bd (q_without hn s (xr _) (xr _)) ?_
        rintro r M1 ⟨hr, h⟩
        refine Ok_bd h ?_
        rintro _ M2 ⟨rfl, s2⟩
        refine Ok_g hr (Ok_g hr (Ok_t rfl (nx M2 s2)))
      rw [if_neg e24]
      by_cases e25 : op = 25
      · repeat (first
            | with_reducible refine Ok_g (by first | assumption | omega) ?_
            | with_reducible refine Ok_lt ?_
            | with_reducible refine Ok_t (by first | assumption | omega) ?_
            | with_reducible refine Ok_f (by first | assumption | omega) ?_)
        refine Ok_bd (q_swap hn s (xr _)) ?_
        rintro r M1 ⟨hr, h⟩
        refine Ok_bd h ?_
        rintro _ M2 ⟨rfl, s2⟩
        refine Ok_g hr (Ok_g hr (Ok_t rfl (nx M2 s2)))
      rw [if_neg e25]
      by_cases e26 : op = 26
      · repeat (first
            | with_reducible refine Ok_g (by first | assumption | omega) ?_
            | with_reducible refine Ok_lt ?_
            | with_reducible refine Ok_t (by first | assumption | omega) ?_
            | with_reducible refine Ok_f (by first | assumption | omega) ?_)
        refine Ok_bd (q_whatKind hn s (xr _) (xr _)) ?_
        rintro r M1 ⟨hr, h⟩
        refine Ok_bd h ?_
        rintro _ M2 ⟨rfl, s2⟩
        refine Ok_g hr (Ok_g hr (Ok_t rfl (nx M2 s2)))
      rw [if_neg e26]
      by_cases e27 : op = 27
      · repeat (first
            | with_reducible refine Ok_g (by first | assumption | omega) ?_
            | with_reducible refine Ok_lt ?_
            | with_reducible refine Ok_t (by first | assumption | omega) ?_
            | with_reducible refine Ok_f (by first | assumption | omega) ?_)
        refine Ok_bd (q_whichFront hn s (xr _) (xr _)) ?_
        rintro r M1 ⟨hr, h⟩
        refine Ok_bd h ?_
        rintro _ M2 ⟨rfl, s2⟩
        refine Ok_g hr (Ok_g hr (Ok_t rfl (nx M2 s2)))
      rw [if_neg e27]
      by_cases e28 : op = 28
      · repeat (first
            | with_reducible refine Ok_g (by first | assumption | omega) ?_
            | with_reducible refine Ok_lt ?_
            | with_reducible refine Ok_t (by first | assumption | omega) ?_
            | with_reducible refine Ok_f (by first | assumption | omega) ?_)
        refine Ok_bd (q_two hn s (xr _) (xr _) (xr _)) ?_
        rintro r M1 ⟨hr, h⟩
        refine Ok_bd h ?_
        rintro _ M2 ⟨rfl, s2⟩
        refine Ok_g hr (Ok_g hr (Ok_t rfl (nx M2 s2)))
      rw [if_neg e28]
      by_cases e29 : op = 29
      · repeat (first
            | with_reducible refine Ok_g (by first | assumption | omega) ?_
            | with_reducible refine Ok_lt ?_
            | with_reducible refine Ok_t (by first | assumption | omega) ?_
            | with_reducible refine Ok_f (by first | assumption | omega) ?_)
        refine Ok_bd (q_sun hn s (xr _) (xr _) (xr _) (xr _) (xr _)) ?_
        rintro r M1 ⟨hr, h⟩
        refine Ok_bd h ?_
        rintro _ M2 ⟨rfl, s2⟩
        refine Ok_g hr (Ok_g hr (Ok_t (cmp_self _) (nx M2 s2)))
      rw [if_neg e29]
      by_cases e30 : op = 30
      · repeat (first
            | with_reducible refine Ok_g (by first | assumption | omega) ?_
            | with_reducible refine Ok_lt ?_
            | with_reducible refine Ok_t (by first | assumption | omega) ?_
            | with_reducible refine Ok_f (by first | assumption | omega) ?_)
        refine Ok_bd (q_islands hn s (xr _)) ?_
        rintro r M1 ⟨hr, h⟩
        refine Ok_bd h ?_
        rintro _ M2 ⟨rfl, s2⟩
        refine Ok_g hr (Ok_g hr (Ok_t rfl (nx M2 s2)))
      rw [if_neg e30]
      by_cases e31 : op = 31
      · repeat (first
            | with_reducible refine Ok_g (by first | assumption | omega) ?_
            | with_reducible refine Ok_lt ?_
            | with_reducible refine Ok_t (by first | assumption | omega) ?_
            | with_reducible refine Ok_f (by first | assumption | omega) ?_)
        refine Ok_bd (q_clearRun hn s) ?_
        rintro r M1 ⟨hr, h⟩
        refine Ok_bd h ?_
        rintro _ M2 ⟨rfl, s2⟩
        refine Ok_g hr (Ok_g hr (Ok_t rfl (nx M2 s2)))
      rw [if_neg e31]
      by_cases e32 : op = 32
      · repeat (first
            | with_reducible refine Ok_g (by first | assumption | omega) ?_
            | with_reducible refine Ok_lt ?_
            | with_reducible refine Ok_t (by first | assumption | omega) ?_
            | with_reducible refine Ok_f (by first | assumption | omega) ?_)
        refine Ok_bd (q_way hn s (xr _) (xr _)) ?_
        rintro r M1 ⟨hr, h⟩
        refine Ok_bd h ?_
        rintro _ M2 ⟨rfl, s2⟩
        refine Ok_g hr (Ok_g hr (Ok_t rfl (nx M2 s2)))
      rw [if_neg e32]
      by_cases e33 : op = 33
      · repeat (first
            | with_reducible refine Ok_g (by first | assumption | omega) ?_
            | with_reducible refine Ok_lt ?_
            | with_reducible refine Ok_t (by first | assumption | omega) ?_
            | with_reducible refine Ok_f (by first | assumption | omega) ?_)
        refine Ok_bd (q_share hn s (xr _) (xr _)) ?_
        rintro r M1 ⟨hr, h⟩
        refine Ok_bd h ?_
        rintro _ M2 ⟨rfl, s2⟩
        refine Ok_g hr (Ok_g hr (Ok_t (cmp_self _) (nx M2 s2)))
      rw [if_neg e33]
      by_cases e34 : op = 34
      · repeat (first
            | with_reducible refine Ok_g (by first | assumption | omega) ?_
            | with_reducible refine Ok_lt ?_
            | with_reducible refine Ok_t (by first | assumption | omega) ?_
            | with_reducible refine Ok_f (by first | assumption | omega) ?_)
        refine Ok_bd (q_sight hn s (xr _)) ?_
        rintro r M1 ⟨hr, h⟩
        refine Ok_bd h ?_
        rintro _ M2 ⟨rfl, s2⟩
        refine Ok_g hr (Ok_g hr (Ok_t rfl (nx M2 s2)))
      rw [if_neg e34]
      by_cases e35 : op = 35
      · repeat (first
            | with_reducible refine Ok_g (by first | assumption | omega) ?_
            | with_reducible refine Ok_lt ?_
            | with_reducible refine Ok_t (by first | assumption | omega) ?_
            | with_reducible refine Ok_f (by first | assumption | omega) ?_)
        refine Ok_bd (q_kinds hn s (xr _)) ?_
        rintro r M1 ⟨hr, h⟩
        refine Ok_bd h ?_
        rintro _ M2 ⟨rfl, s2⟩
        refine Ok_g hr (Ok_g hr (Ok_t rfl (nx M2 s2)))
      rw [if_neg e35]
      by_cases e36 : op = 36
      · repeat (first
            | with_reducible refine Ok_g (by first | assumption | omega) ?_
            | with_reducible refine Ok_lt ?_
            | with_reducible refine Ok_t (by first | assumption | omega) ?_
            | with_reducible refine Ok_f (by first | assumption | omega) ?_)
        refine Ok_bd (q_row s (xr _)) ?_
        rintro r M1 ⟨hr, h⟩
        refine Ok_bd h ?_
        rintro _ M2 ⟨rfl, s2⟩
        refine Ok_g hr (Ok_g hr (Ok_t rfl (nx M2 s2)))
      rw [if_neg e36]
      by_cases e37 : op = 37
      · repeat (first
            | with_reducible refine Ok_g (by first | assumption | omega) ?_
            | with_reducible refine Ok_lt ?_
            | with_reducible refine Ok_t (by first | assumption | omega) ?_
            | with_reducible refine Ok_f (by first | assumption | omega) ?_)
        refine Ok_bd (q_judge hn s) ?_
        rintro r M1 ⟨hr, h⟩
        refine Ok_bd h ?_
        rintro _ M2 ⟨rfl, s2⟩
        refine Ok_g hr (Ok_g hr (Ok_t rfl (nx M2 s2)))
      rw [if_neg e37]
      by_cases e38 : op = 38
      · repeat (first
            | with_reducible refine Ok_g (by first | assumption | omega) ?_
            | with_reducible refine Ok_lt ?_
            | with_reducible refine Ok_t (by first | assumption | omega) ?_
            | with_reducible refine Ok_f (by first | assumption | omega) ?_)
        refine Ok_bd (q_clear s) ?_
        rintro r M1 ⟨hr, h⟩
        refine Ok_bd h ?_
        rintro _ M2 ⟨rfl, s2⟩
        refine Ok_g hr (Ok_g hr (Ok_t rfl (nx M2 s2)))
      rw [if_neg e38]
      by_cases e39 : op = 39
      · repeat (first
            | with_reducible refine Ok_g (by first | assumption | omega) ?_
            | with_reducible refine Ok_lt ?_
            | with_reducible refine Ok_t (by first | assumption | omega) ?_
            | with_reducible refine Ok_f (by first | assumption | omega) ?_)
        refine Ok_bd (q_lots hn s (xr _) (xr _) (xr _)) ?_
        rintro r M1 ⟨hr, h⟩
        refine Ok_bd h ?_
        rintro _ M2 ⟨rfl, s2⟩
        refine Ok_g hr (Ok_g hr (Ok_t rfl (nx M2 s2)))
      rw [if_neg e39]
      by_cases e40 : op = 40
      · repeat (first
            | with_reducible refine Ok_g (by first | assumption | omega) ?_
            | with_reducible refine Ok_lt ?_
            | with_reducible refine Ok_t (by first | assumption | omega) ?_
            | with_reducible refine Ok_f (by first | assumption | omega) ?_)
        refine Ok_bd (q_image hn s) ?_
        rintro r M1 ⟨hr, h⟩
        refine Ok_bd h ?_
        rintro _ M2 ⟨rfl, s2⟩
        refine Ok_g hr (Ok_g hr (Ok_t rfl (nx M2 s2)))
      rw [if_neg e40]
      by_cases e41 : op = 41
      · repeat (first
            | with_reducible refine Ok_g (by first | assumption | omega) ?_
            | with_reducible refine Ok_lt ?_
            | with_reducible refine Ok_t (by first | assumption | omega) ?_
            | with_reducible refine Ok_f (by first | assumption | omega) ?_)
        refine Ok_bd (q_restore hn s) ?_
        rintro r M1 ⟨hr, h⟩
        refine Ok_bd h ?_
        rintro _ M2 ⟨rfl, s2⟩
        refine Ok_g hr (Ok_g hr (Ok_t rfl (nx M2 s2)))
      rw [if_neg e41]
      by_cases e42 : op = 42
      · repeat (first
            | with_reducible refine Ok_g (by first | assumption | omega) ?_
            | with_reducible refine Ok_lt ?_
            | with_reducible refine Ok_t (by first | assumption | omega) ?_
            | with_reducible refine Ok_f (by first | assumption | omega) ?_)
        refine Ok_bd (q_count hn s (xr _)) ?_
        rintro r M1 ⟨hr, h⟩
        refine Ok_bd h ?_
        rintro _ M2 ⟨rfl, s2⟩
        refine Ok_g hr (Ok_g hr (Ok_t rfl (nx M2 s2)))
      rw [if_neg e42]
      exact nx M s
