/-! what comes -/
def adF (u : US) (s a b : Int) : US := uset (uset (uset (uset u 1 (u 0 3).toNat s) 2 (u 0 3).toNat a) 3 (u 0 3).toNat b) 0 3 (u 0 3 + 1)
def adP (u : US) (k f c : Int) : US := uset (uset (uset (uset (uset u 7 (u 0 12).toNat k) 8 (u 0 12).toNat f) 9 (u 0 12).toNat c) 10 (u 0 12).toNat c) 0 12 (u 0 12 + 1)
def adT (u : US) (v c : Int) : US := uset (uset (uset (uset u 4 (u 0 7).toNat v) 5 (u 0 7).toNat c) 6 (u 0 7).toNat (-1)) 0 7 (u 0 7 + 1)
theorem adF_wf {H : Int} {u : US} (wf : WF H u) {s a b : Int} (hs : 0 ≤ s ∧ s ≤ 6) (ha : 0 ≤ a ∧ a ≤ 9) (hb : 0 ≤ b ∧ b ≤ 9) (h : u 0 3 < 6) : WF H (adF u s a b) := by
  have q := (wF wf).1
  exact WF_set (WF_set (WF_set (WF_set wf 1 _ hs.1 hs.2) 2 _ ha.1 ha.2) 3 _ hb.1 hb.2) 0 3 (by show (0 : Int) ≤ _; omega) (by show _ ≤ (6 : Int); omega)
theorem adP_wf {H : Int} {u : US} (wf : WF H u) {k f c : Int} (hk : 0 ≤ k ∧ k ≤ 7) (hf : 0 ≤ f ∧ f ≤ 9) (hc : 0 ≤ c ∧ c ≤ 23) (h : u 0 12 < 5) : WF H (adP u k f c) := by
  have q := (wF wf).2.2.1
  exact WF_set (WF_set (WF_set (WF_set (WF_set wf 7 _ hk.1 hk.2) 8 _ hf.1 hf.2) 9 _ hc.1 hc.2) 10 _ hc.1 hc.2) 0 12 (by show (0 : Int) ≤ _; omega) (by show _ ≤ (5 : Int); omega)
theorem adT_wf {H : Int} {u : US} (wf : WF H u) {v c : Int} (hv : 0 ≤ v ∧ v ≤ 9) (hc : 0 ≤ c ∧ c ≤ 23) (h : u 0 7 < 8) : WF H (adT u v c) := by
  have q := (wF wf).2.1
  exact WF_set (WF_set (WF_set (WF_set wf 4 _ hv.1 hv.2) 5 _ hc.1 hc.2) 6 _ (Int.le_refl (-1)) (show (-1 : Int) ≤ 4 by decide)) 0 7 (by show (0 : Int) ≤ _; omega) (by show _ ≤ (8 : Int); omega)
theorem e_addFront {n w : Nat} {M : Mem} {H s a b : Int} (hw : w = 0 ∨ w = 22) (wf : WF H (vw M w)) (hs : 0 ≤ s ∧ s ≤ 6) (ha : I32 a) (hb : I32 b) :
    Ok (m_X4_addFront n M w s a b) (fun r M' => (r = 0 ∧ M' = M ∧ ¬ (a ≤ 9 ∧ b ≤ 9 ∧ rd M w 3 < 6)) ∨ (r = 1 ∧ (a ≤ 9 ∧ b ≤ 9 ∧ rd M w 3 < 6) ∧ vw M' w = adF (vw M w) s a b ∧ ∀ q i, (q < w ∨ w + 3 < q) → M' q i = M q i)) := by
  have bs := sW wf
  unfold m_X4_addFront
  refine Ok_g (by omega) ?_
  repeat (first
      | with_reducible refine Ok_g (by first | assumption | omega) ?_
      | with_reducible refine Ok_lt ?_
      | with_reducible refine Ok_t (by first | assumption | omega) ?_
      | with_reducible refine Ok_f (by first | assumption | omega) ?_)
  refine Ok_if (fun c => Ok_ret (.inl ⟨rfl, rfl, by omega⟩)) (fun c => ?_)
  repeat (first
      | with_reducible refine Ok_g (by first | assumption | omega) ?_
      | with_reducible refine Ok_lt ?_
      | with_reducible refine Ok_t (by first | assumption | omega) ?_
      | with_reducible refine Ok_f (by first | assumption | omega) ?_)
  refine Ok_if (fun c2 => Ok_ret (.inl ⟨rfl, rfl, by omega⟩)) (fun c2 => ?_)
  refine Ok_if (fun c3 => ?_) (fun c3 => Ok_ret (.inl ⟨rfl, rfl, by omega⟩))
  repeat (first
      | with_reducible refine Ok_g (by first | assumption | omega) ?_
      | with_reducible refine Ok_lt ?_
      | with_reducible refine Ok_t (by first | assumption | omega) ?_
      | with_reducible refine Ok_f (by first | assumption | omega) ?_)
  refine Ok_wr ?_
  rw [rd_upne _ _ _ w 3 _ (by omega)]
  repeat (first
      | with_reducible refine Ok_g (by first | assumption | omega) ?_
      | with_reducible refine Ok_lt ?_
      | with_reducible refine Ok_t (by first | assumption | omega) ?_
      | with_reducible refine Ok_f (by first | assumption | omega) ?_)
  refine Ok_wr ?_
  rw [rd_upne _ _ _ w 3 _ (by omega), rd_upne _ _ _ w 3 _ (by omega)]
  repeat (first
      | with_reducible refine Ok_g (by first | assumption | omega) ?_
      | with_reducible refine Ok_lt ?_
      | with_reducible refine Ok_t (by first | assumption | omega) ?_
      | with_reducible refine Ok_f (by first | assumption | omega) ?_)
  refine Ok_wr (Ok_wr (Ok_ret (.inr ⟨rfl, by omega, ?_, fun q i hq => by rw [mup_n _ (by omega), mup_n _ (by omega), mup_n _ (by omega), mup_n _ (by omega)]⟩)))
  rw [rd_upne _ _ _ w 3 _ (by omega), rd_upne _ _ _ w 3 _ (by omega), rd_upne _ _ _ w 3 _ (by omega)]
  have l6 : ∀ k, 1 ≤ k → k ≤ 3 → (rd M w 3).toNat < lnk k := by
    intro k h1 h2
    unfold lnk
    rw [if_pos h2]; omega
  rw [vw_sets (by omega) (by omega) (by omega), vw_set (k := 3) (by omega) (by decide) (by decide) (by omega) (l6 3 (by decide) (by decide)), vw_set (k := 2) (by omega) (by decide) (by decide) (by omega) (l6 2 (by decide) (by decide)), vw_set (k := 1) (by omega) (by decide) (by decide) (by omega) (l6 1 (by decide) (by decide))]
  unfold adF
  rw [bs.1.1]
  rfl
theorem e_addPerson {n w : Nat} {M : Mem} {H k f c : Int} (hw : w = 0 ∨ w = 22) (wf : WF H (vw M w)) (hk : 0 ≤ k ∧ k ≤ 7) (hf : 0 ≤ f ∧ f ≤ 9) (hc : I32 c) :
    Ok (m_X4_addPerson n M w k f c) (fun r M' => (r = 0 ∧ M' = M ∧ ¬ ((0 ≤ c ∧ c < 24) ∧ rd M w 12 < 5)) ∨ (r = 1 ∧ ((0 ≤ c ∧ c < 24) ∧ rd M w 12 < 5) ∧ vw M' w = adP (vw M w) k f c ∧ ∀ q i, (q < w ∨ w + 10 < q) → M' q i = M q i)) := by
  have bs := sW wf
  unfold m_X4_addPerson
  refine Ok_g (by omega) ?_
  refine Ok_be (e_isCell hc) ?_
  by_cases hcc : 0 ≤ c ∧ c < 24
  · repeat (first
        | with_reducible refine Ok_g (by first | assumption | omega) ?_
        | with_reducible refine Ok_lt ?_
        | with_reducible refine Ok_t (by first | assumption | omega) ?_
        | with_reducible refine Ok_f (by first | assumption | omega) ?_)
    refine Ok_if (fun c3 => ?_) (fun c3 => Ok_ret (.inl ⟨rfl, rfl, by omega⟩))
    repeat (first
        | with_reducible refine Ok_g (by first | assumption | omega) ?_
        | with_reducible refine Ok_lt ?_
        | with_reducible refine Ok_t (by first | assumption | omega) ?_
        | with_reducible refine Ok_f (by first | assumption | omega) ?_)
    refine Ok_wr ?_
    rw [rd_upne _ _ _ w 12 _ (by omega)]
    repeat (first
        | with_reducible refine Ok_g (by first | assumption | omega) ?_
        | with_reducible refine Ok_lt ?_
        | with_reducible refine Ok_t (by first | assumption | omega) ?_
        | with_reducible refine Ok_f (by first | assumption | omega) ?_)
    refine Ok_wr ?_
    rw [rd_upne _ _ _ w 12 _ (by omega), rd_upne _ _ _ w 12 _ (by omega)]
    repeat (first
        | with_reducible refine Ok_g (by first | assumption | omega) ?_
        | with_reducible refine Ok_lt ?_
        | with_reducible refine Ok_t (by first | assumption | omega) ?_
        | with_reducible refine Ok_f (by first | assumption | omega) ?_)
    refine Ok_wr ?_
    rw [rd_upne _ _ _ w 12 _ (by omega), rd_upne _ _ _ w 12 _ (by omega), rd_upne _ _ _ w 12 _ (by omega)]
    repeat (first
        | with_reducible refine Ok_g (by first | assumption | omega) ?_
        | with_reducible refine Ok_lt ?_
        | with_reducible refine Ok_t (by first | assumption | omega) ?_
        | with_reducible refine Ok_f (by first | assumption | omega) ?_)
    refine Ok_wr (Ok_wr (Ok_ret (.inr ⟨rfl, by omega, ?_, fun q i hq => by rw [mup_n _ (by omega), mup_n _ (by omega), mup_n _ (by omega), mup_n _ (by omega), mup_n _ (by omega)]⟩)))
    rw [rd_upne _ _ _ w 12 _ (by omega), rd_upne _ _ _ w 12 _ (by omega), rd_upne _ _ _ w 12 _ (by omega), rd_upne _ _ _ w 12 _ (by omega)]
    rw [vw_sets (by omega) (by omega) (by omega), vw_set (k := 10) (by omega) (by decide) (by decide) (by omega) (show _ < 5 by omega), vw_set (k := 9) (by omega) (by decide) (by decide) (by omega) (show _ < 5 by omega), vw_set (k := 8) (by omega) (by decide) (by decide) (by omega) (show _ < 5 by omega), vw_set (k := 7) (by omega) (by decide) (by decide) (by omega) (show _ < 5 by omega)]
    unfold adP
    rw [bs.1.2.2.1]
    rfl
  · repeat (first
        | with_reducible refine Ok_g (by first | assumption | omega) ?_
        | with_reducible refine Ok_lt ?_
        | with_reducible refine Ok_t (by first | assumption | omega) ?_
        | with_reducible refine Ok_f (by first | assumption | omega) ?_)
    exact Ok_ret (.inl ⟨rfl, rfl, by omega⟩)
theorem e_addThing {n w : Nat} {M : Mem} {H v c : Int} (hw : w = 0 ∨ w = 22) (wf : WF H (vw M w)) (hv : 0 ≤ v ∧ v ≤ 9) (hc : I32 c) :
    Ok (m_X4_addThing n M w v c) (fun r M' => (r = 0 ∧ M' = M ∧ ¬ ((0 ≤ c ∧ c < 24) ∧ rd M w 7 < 8)) ∨ (r = 1 ∧ ((0 ≤ c ∧ c < 24) ∧ rd M w 7 < 8) ∧ vw M' w = adT (vw M w) v c ∧ ∀ q i, (q < w ∨ w + 10 < q) → M' q i = M q i)) := by
  have bs := sW wf
  unfold m_X4_addThing
  refine Ok_g (by omega) ?_
  refine Ok_be (e_isCell hc) ?_
  by_cases hcc : 0 ≤ c ∧ c < 24
  · repeat (first
        | with_reducible refine Ok_g (by first | assumption | omega) ?_
        | with_reducible refine Ok_lt ?_
        | with_reducible refine Ok_t (by first | assumption | omega) ?_
        | with_reducible refine Ok_f (by first | assumption | omega) ?_)
    refine Ok_if (fun c3 => ?_) (fun c3 => Ok_ret (.inl ⟨rfl, rfl, by omega⟩))
    repeat (first
        | with_reducible refine Ok_g (by first | assumption | omega) ?_
        | with_reducible refine Ok_lt ?_
        | with_reducible refine Ok_t (by first | assumption | omega) ?_
        | with_reducible refine Ok_f (by first | assumption | omega) ?_)
    refine Ok_wr ?_
    rw [rd_upne _ _ _ w 7 _ (by omega)]
    repeat (first
        | with_reducible refine Ok_g (by first | assumption | omega) ?_
        | with_reducible refine Ok_lt ?_
        | with_reducible refine Ok_t (by first | assumption | omega) ?_
        | with_reducible refine Ok_f (by first | assumption | omega) ?_)
    refine Ok_wr ?_
    rw [rd_upne _ _ _ w 7 _ (by omega), rd_upne _ _ _ w 7 _ (by omega)]
    repeat (first
        | with_reducible refine Ok_g (by first | assumption | omega) ?_
        | with_reducible refine Ok_lt ?_
        | with_reducible refine Ok_t (by first | assumption | omega) ?_
        | with_reducible refine Ok_f (by first | assumption | omega) ?_)
    refine Ok_wr (Ok_wr (Ok_ret (.inr ⟨rfl, by omega, ?_, fun q i hq => by rw [mup_n _ (by omega), mup_n _ (by omega), mup_n _ (by omega), mup_n _ (by omega)]⟩)))
    rw [rd_upne _ _ _ w 7 _ (by omega), rd_upne _ _ _ w 7 _ (by omega), rd_upne _ _ _ w 7 _ (by omega)]
    rw [vw_sets (by omega) (by omega) (by omega), vw_set (k := 6) (by decide) (by decide) (by decide) (by omega) (show _ < 8 by omega), vw_set (k := 5) (by omega) (by decide) (by decide) (by omega) (show _ < 8 by omega), vw_set (k := 4) (by omega) (by decide) (by decide) (by omega) (show _ < 8 by omega)]
    unfold adT
    rw [bs.1.2.1, if_pos rfl, ow_n (show w ≠ 137 by omega) (-1)]
    rfl
  · repeat (first
        | with_reducible refine Ok_g (by first | assumption | omega) ?_
        | with_reducible refine Ok_lt ?_
        | with_reducible refine Ok_t (by first | assumption | omega) ?_
        | with_reducible refine Ok_f (by first | assumption | omega) ?_)
    exact Ok_ret (.inl ⟨rfl, rfl, by omega⟩)
