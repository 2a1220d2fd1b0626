theorem Lk_hour {M : Mem} {v : Int} (e : vw (mup M 22 13 v) 22 = uset (vw M 22) 0 13 v) : SameF (vw (mup M 22 13 v) 22) (vw M 22) := by
  rw [e]
  exact ⟨uset_ni _ _ (by decide), fun i _ => ⟨uset_nk _ _ (by decide), uset_nk _ _ (by decide), uset_nk _ _ (by decide)⟩⟩
theorem airS_hour (u : US) (x c h : Int) : airS (uset u 0 13 x) c h = airS u c h := airS_c c h (uset_ni _ _ (by decide)) (fun i _ => uset_nk _ _ (by decide)) (fun i _ => uset_nk _ _ (by decide)) (fun i _ => uset_nk _ _ (by decide))
theorem goalS_hour (u : US) (p : Nat) (x h : Int) : goalS (uset u 0 13 x) p h = goalS u p h := by
  have e : ∀ a b, a ≠ 0 → uset u 0 13 x a b = u a b := fun a b h => uset_nk _ _ h
  have e7 : uset u 0 13 x 0 7 = u 0 7 := uset_ni _ _ (by decide)
  have e21 : uset u 0 13 x 0 21 = u 0 21 := uset_ni _ _ (by decide)
  have n1 : nearS (uset u 0 13 x) p = nearS u p := by
    unfold nearS
    simp only [e7, e 6 _ (by decide), e 5 _ (by decide), e 10 _ (by decide)]
  have n2 : richS (uset u 0 13 x) p = richS u p := by
    unfold richS
    simp only [e7, e 6 _ (by decide), e 4 _ (by decide)]
  have n3 : airyS (uset u 0 13 x) h = airyS u h := by
    unfold airyS airOS
    simp only [e21, airS_hour]
  unfold goalS thiefS childS
  simp only [n1, n2, n3, e 7 _ (by decide), e 9 _ (by decide), e 5 _ (by decide)]
theorem cellsS_b (u : US) : ∃ m : Nat, cellsS u = (m : Int) ∧ m < 16777216 := by
  refine ⟨bs (fun c => decide (u 0 14 ≤ fogS u (c : Nat))) 24 0, frm_set (by decide), bs_lt _ 24 0⟩
theorem atS_b (u : US) (k : Nat) {N : Nat} (h : N ≤ 24) (c : Int) : ∃ m : Nat, atS u k N c = (m : Int) ∧ m < 16777216 := by
  refine ⟨bs (fun i => decide (u k i = c)) N 0, frm_set (by omega), ?_⟩
  have := bs_lt (fun i => decide (u k i = c)) N 0
  have : 2 ^ N ≤ 2 ^ 24 := Nat.pow_le_pow_right (by decide) h
  omega
theorem noS_b {H : Int} {u : US} (wf : WF H u) : ∃ m : Nat, noS u = (m : Int) ∧ m < 256 := by
  refine ⟨_, noS_bs wf, ?_⟩
  have := bs_lt (fun t => decide (u 6 t < 0)) (u 0 7).toNat 0
  have b := (wF wf).2.1
  have : 2 ^ (u 0 7).toNat ≤ 2 ^ 8 := Nat.pow_le_pow_right (by decide) (by omega)
  omega
