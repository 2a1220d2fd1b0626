/-! what comes -/
def adF (u : US) (s a b : Int) : US := uset (uset (uset (uset u 1 (u 0 3).toNat s) 2 (u 0 3).toNat a) 3 (u 0 3).toNat b) 0 3 (u 0 3 + 1)
def adP (u : US) (k f c : Int) : US := uset (uset (uset (uset (uset u 7 (u 0 12).toNat k) 8 (u 0 12).toNat f) 9 (u 0 12).toNat c) 10 (u 0 12).toNat c) 0 12 (u 0 12 + 1)
def adT (u : US) (v c : Int) : US := uset (uset (uset (uset u 4 (u 0 7).toNat v) 5 (u 0 7).toNat c) 6 (u 0 7).toNat (-1)) 0 7 (u 0 7 + 1)
theorem adF_wf {H : Int} {u : US} (wf : WF H u) {s a b : Int} (hs : 0 ≤ s ∧ s ≤ 6) (ha : 0 ≤ a ∧ a ≤ 9) (hb : 0 ≤ b ∧ b ≤ 9) (h : u 0 3 < 6) : WF H (adF u s a b) := by
  have q := (wF wf).1
  exact WF_set (WF_set (WF_set (WF_set wf 1 _ hs.1 hs.2) 2 _ ha.1 ha.2) 3 _ hb.1 hb.2) 0 3 (by show (0 : Int) ≤ _; omega) (by show _ ≤ (6 : Int); omega)
theorem adP_wf {H : Int} {u : US} (wf : WF H u) {k f c : Int} (hk : 0 ≤ k ∧ k ≤ 7) (hf : 0 ≤ f ∧ f ≤ 9) (hc : 0 ≤ c ∧ c ≤ 23) (h : u 0 12 < 5) : WF H (adP u k f c) := by
  have q := (wF wf).2.2.1
  exact WF_set (WF_set (WF_set (WF_set (WF_set wf 7 _ hk.1 hk.2) 8 _ hf.1 hf.2) 9 _ hc.1 hc.2) 10 _ hc.1 hc.2) 0 12 (by show (0 : Int) ≤ _; omega) (by show _ ≤ (5 : Int); omega)
theorem adT_wf {H : Int} {u : US} (wf : WF H u) {v c : Int} (hv : 0 ≤ v ∧ v ≤ 9) (hc : 0 ≤ c ∧ c ≤ 23) (h : u 0 7 < 8) : WF H (adT u v c) := by
  have q := (wF wf).2.1
  exact WF_set (WF_set (WF_set (WF_set wf 4 _ hv.1 hv.2) 5 _ hc.1 hc.2) 6 _ (Int.le_refl (-1)) (show (-1 : Int) ≤ 4 by decide)) 0 7 (by show (0 : Int) ≤ _; omega) (by show _ ≤ (8 : Int); omega)
theorem e_addFront {n w : Nat} {M : Mem} {H s a b : Int} (hw : w = 0 ∨ w = 22) (wf : WF H (vw M w)) (hs : 0 ≤ s ∧ s ≤ 6) (ha : I32 a) (hb : I32 b) :
    Ok (m_X4_addFront n M w s a b) (fun r M' => (r = 0 ∧ M' = M ∧ ¬ (a ≤ 9 ∧ b ≤ 9 ∧ rd M w 3 < 6)) ∨ (r = 1 ∧ (a ≤ 9 ∧ b ≤ 9 ∧ rd M w 3 < 6) ∧ vw M' w = adF (vw M w) s a b ∧ ∀ q i, (q < w ∨ w + 3 < q) → M' q i = M q i)) := by
  have bs := sW wf
  unfold m_X4_addFront
  refine Ok_g (by omega) ?_
  repeat (first
      | with_reducible refine Ok_g (by first | assumption | omega) ?_
      | with_reducible refine Ok_lt ?_
      | with_reducible refine Ok_t (by first | assumption | omega) ?_
      | with_reducible refine Ok_f (by first | assumption | omega) ?_)
  refine Ok_if (fun c => Ok_ret (.inl ⟨rfl, rfl, by omega⟩)) (fun c => ?_)
  repeat (first
      | with_reducible refine Ok_g (by first | assumption | omega) ?_
      | with_reducible refine Ok_lt ?_
      | with_reducible refine Ok_t (by first | assumption | omega) ?_
      | with_reducible refine Ok_f (by first | assumption | omega) ?_)
  refine Ok_if (fun c2 => Ok_ret (.inl ⟨rfl, rfl, by omega⟩)) (fun c2 => ?_)
  refine Ok_if (fun c3 => ?_) (fun c3 => Ok_ret (.inl ⟨rfl, rfl, by omega⟩))
  repeat (first
      | with_reducible refine Ok_g (by first | assumption | omega) ?_
      | with_reducible refine Ok_lt ?_
      | with_reducible refine Ok_t (by first | assumption | omega) ?_
      | with_reducible refine Ok_f (by first | assumption | omega) ?_)
  refine Ok_wr ?_
  rw [rd_upne _ _ _ w 3 _ (by omega)]
  repeat (first
      | with_reducible refine Ok_g (by first | assumption | omega) ?_
      | with_reducible refine Ok_lt ?_
      | with_reducible refine Ok_t (by first | assumption | omega) ?_
      | with_reducible refine Ok_f (by first | assumption | omega) ?_)
  refine Ok_wr ?_
  rw [rd_upne _ _ _ w 3 _ (by omega), rd_upne _ _ _ w 3 _ (by omega)]
  repeat (first
      | with_reducible refine Ok_g (by first | assumption | omega) ?_
      | with_reducible refine Ok_lt ?_
      | with_reducible refine Ok_t (by first | assumption | omega) ?_
      | with_reducible refine Ok_f (by first | assumption | omega) ?_)
  refine Ok_wr (Ok_wr (Ok_ret (.inr ⟨rfl, by omega, ?_, fun q i hq => by rw [mup_n _ (by omega), mup_n _ (by omega), mup_n _ (by omega), mup_n _ (by omega)]⟩)))
  rw [rd_upne _ _ _ w 3 _ (by omega), rd_upne _ _ _ w 3 _ (by omega), rd_upne _ _ _ w 3 _ (by omega)]
  have l6 : ∀ k, 1 ≤ k → k ≤ 3 → (rd M w 3).toNat < lnk k := by
    intro k h1 h2
    unfold lnk
    rw [if_pos h2]; omega
  rw [vw_sets (by omega) (by omega) (by omega), vw_set (k := 3) (by omega) (by decide) (by decide) (by omega) (l6 3 (by decide) (by decide)), vw_set (k := 2) (by omega) (by decide) (by decide) (by omega) (l6 2 (by decide) (by decide)), vw_set (k := 1) (by omega) (by decide) (by decide) (by omega) (l6 1 (by decide) (by decide))]
  unfold adF
  rw [bs.1.1]
  rfl
theorem e_addPerson {n w : Nat} {M : Mem} {H k f c : Int} (hw : w = 0 ∨ w = 22) (wf : WF H (vw M w)) (hk : 0 ≤ k ∧ k ≤ 7) (hf : 0 ≤ f ∧ f ≤ 9) (hc : I32 c) :
    Ok (m_X4_addPerson n M w k f c) (fun r M' => (r = 0 ∧ M' = M ∧ ¬ ((0 ≤ c ∧ c < 24) ∧ rd M w 12 < 5)) ∨ (r = 1 ∧ ((0 ≤ c ∧ c < 24) ∧ rd M w 12 < 5) ∧ vw M' w = adP (vw M w) k f c ∧ ∀ q i, (q < w ∨ w + 10 < q) → M' q i = M q i)) := by
  have bs := sW wf
  unfold m_X4_addPerson
  refine Ok_g (by omega) ?_
  refine Ok_be (e_isCell hc) ?_
  by_cases hcc : 0 ≤ c ∧ c < 24
  · repeat (first
        | with_reducible refine Ok_g (by first | assumption | omega) ?_
        | with_reducible refine Ok_lt ?_
        | with_reducible refine Ok_t (by first | assumption | omega) ?_
        | with_reducible refine Ok_f (by first | assumption | omega) ?_)
    refine Ok_if (fun c3 => ?_) (fun c3 => Ok_ret (.inl ⟨rfl, rfl, by omega⟩))
    repeat (first
        | with_reducible refine Ok_g (by first | assumption | omega) ?_
        | with_reducible refine Ok_lt ?_
        | with_reducible refine Ok_t (by first | assumption | omega) ?_
        | with_reducible refine Ok_f (by first | assumption | omega) ?_)
    refine Ok_wr ?_
    rw [rd_upne _ _ _ w 12 _ (by omega)]
    repeat (first
        | with_reducible refine Ok_g (by first | assumption | omega) ?_
        | with_reducible refine Ok_lt ?_
        | with_reducible refine Ok_t (by first | assumption | omega) ?_
        | with_reducible refine Ok_f (by first | assumption | omega) ?_)
    refine Ok_wr ?_
    rw [rd_upne _ _ _ w 12 _ (by omega), rd_upne _ _ _ w 12 _ (by omega)]
    repeat (first
        | with_reducible refine Ok_g (by first | assumption | omega) ?_
        | with_reducible refine Ok_lt ?_
        | with_reducible refine Ok_t (by first | assumption | omega) ?_
        | with_reducible refine Ok_f (by first | assumption | omega) ?_)
    refine Ok_wr ?_
    rw [rd_upne _ _ _ w 12 _ (by omega), rd_upne _ _ _ w 12 _ (by omega), rd_upne _ _ _ w 12 _ (by omega)]
    repeat (first
        | with_reducible refine Ok_g (by first | assumption | omega) ?_
        | with_reducible refine Ok_lt ?_
        | with_reducible refine Ok_t (by first | assumption | omega) ?_
        | with_reducible refine Ok_f (by first | assumption | omega) ?_)
    refine Ok_wr (Ok_wr (Ok_ret (.inr ⟨rfl, by omega, ?_, fun q i hq => by rw [mup_n _ (by omega), mup_n _ (by omega), mup_n _ (by omega), mup_n _ (by omega), mup_n _ (by omega)]⟩)))
    rw [rd_upne _ _ _ w 12 _ (by omega), rd_upne _ _ _ w 12 _ (by omega), rd_upne _ _ _ w 12 _ (by omega), rd_upne _ _ _ w 12 _ (by omega)]
    rw [vw_sets (by omega) (by omega) (by omega), vw_set (k := 10) (by omega) (by decide) (by decide) (by omega) (show _ < 5 by omega), vw_set (k := 9) (by omega) (by decide) (by decide) (by omega) (show _ < 5 by omega), vw_set (k := 8) (by omega) (by decide) (by decide) (by omega) (show _ < 5 by omega), vw_set (k := 7) (by omega) (by decide) (by decide) (by omega) (show _ < 5 by omega)]
    unfold adP
    rw [bs.1.2.2.1]
    rfl
  · repeat (first
        | with_reducible refine Ok_g (by first | assumption | omega) ?_
        | with_reducible refine Ok_lt ?_
        | with_reducible refine Ok_t (by first | assumption | omega) ?_
        | with_reducible refine Ok_f (by first | assumption | omega) ?_)
    exact Ok_ret (.inl ⟨rfl, rfl, by omega⟩)
theorem e_addThing {n w : Nat} {M : Mem} {H v c : Int} (hw : w = 0 ∨ w = 22) (wf : WF H (vw M w)) (hv : 0 ≤ v ∧ v ≤ 9) (hc : I32 c) :
    Ok (m_X4_addThing n M w v c) (fun r M' => (r = 0 ∧ M' = M ∧ ¬ ((0 ≤ c ∧ c < 24) ∧ rd M w 7 < 8)) ∨ (r = 1 ∧ ((0 ≤ c ∧ c < 24) ∧ rd M w 7 < 8) ∧ vw M' w = adT (vw M w) v c ∧ ∀ q i, (q < w ∨ w + 10 < q) → M' q i = M q i)) := by
  have bs := sW wf
  unfold m_X4_addThing
  refine Ok_g (by omega) ?_
  refine Ok_be (e_isCell hc) ?_
  by_cases hcc : 0 ≤ c ∧ c < 24
  · repeat (first
        | with_reducible refine Ok_g (by first | assumption | omega) ?_
        | with_reducible refine Ok_lt ?_
        | with_reducible refine Ok_t (by first | assumption | omega) ?_
        | with_reducible refine Ok_f (by first | assumption | omega) ?_)
    refine Ok_if (fun c3 => ?_) (fun c3 => Ok_ret (.inl ⟨rfl, rfl, by omega⟩))
    repeat (first
        | with_reducible refine Ok_g (by first | assumption | omega) ?_
        | with_reducible refine Ok_lt ?_
        | with_reducible refine Ok_t (by first | assumption | omega) ?_
        | with_reducible refine Ok_f (by first | assumption | omega) ?_)
    refine Ok_wr ?_
    rw [rd_upne _ _ _ w 7 _ (by omega)]
    repeat (first
        | with_reducible refine Ok_g (by first | assumption | omega) ?_
        | with_reducible refine Ok_lt ?_
        | with_reducible refine Ok_t (by first | assumption | omega) ?_
        | with_reducible refine Ok_f (by first | assumption | omega) ?_)
    refine Ok_wr ?_
    rw [rd_upne _ _ _ w 7 _ (by omega), rd_upne _ _ _ w 7 _ (by omega)]
    repeat (first
        | with_reducible refine Ok_g (by first | assumption | omega) ?_
        | with_reducible refine Ok_lt ?_
        | with_reducible refine Ok_t (by first | assumption | omega) ?_
        | with_reducible refine Ok_f (by first | assumption | omega) ?_)
    refine Ok_wr (Ok_wr (Ok_ret (.inr ⟨rfl, by omega, ?_, fun q i hq => by rw [mup_n _ (by omega), mup_n _ (by omega), mup_n _ (by omega), mup_n _ (by omega)]⟩)))
    rw [rd_upne _ _ _ w 7 _ (by omega), rd_upne _ _ _ w 7 _ (by omega), rd_upne _ _ _ w 7 _ (by omega)]
    rw [vw_sets (by omega) (by omega) (by omega), vw_set (k := 6) (by decide) (by decide) (by decide) (by omega) (show _ < 8 by omega), vw_set (k := 5) (by omega) (by decide) (by decide) (by omega) (show _ < 8 by omega), vw_set (k := 4) (by omega) (by decide) (by decide) (by omega) (show _ < 8 by omega)]
    unfold adT
    rw [bs.1.2.1, if_pos rfl, ow_n (show w ≠ 137 by omega) (-1)]
    rfl
  · repeat (first
        | with_reducible refine Ok_g (by first | assumption | omega) ?_
        | with_reducible refine Ok_lt ?_
        | with_reducible refine Ok_t (by first | assumption | omega) ?_
        | with_reducible refine Ok_f (by first | assumption | omega) ?_)
    exact Ok_ret (.inl ⟨rfl, rfl, by omega⟩)
def KPs (M M' : Mem) : Prop := ∀ q i, ¬ (138 ≤ q ∧ q ≤ 147) → ¬ (q = 137 ∧ (i = 3 ∨ i = 7 ∨ i = 12 ∨ i = 13 ∨ i = 14)) → M' q i = M q i
theorem r_frontMore {n : Nat} {M : Mem} {H s a b : Int} (wf : WF H (vw M 137)) (hs : 0 ≤ s ∧ s ≤ 6) (ha : I32 a) (hb : I32 b) (h : rd M 137 3 < 6) : Ok (m_X6_isFrontMore n M s a b) (fun _ M' => vw M' 137 = adF (vw M 137) s a b ∧ KPs M M') := by
  have bs := sW wf
  unfold m_X6_isFrontMore
  repeat (first
      | with_reducible refine Ok_g (by first | assumption | omega) ?_
      | with_reducible refine Ok_lt ?_
      | with_reducible refine Ok_t (by first | assumption | omega) ?_
      | with_reducible refine Ok_f (by first | assumption | omega) ?_)
  refine Ok_wr ?_
  rw [rd_upne _ _ _ 137 3 _ (by omega)]
  repeat (first
      | with_reducible refine Ok_g (by first | assumption | omega) ?_
      | with_reducible refine Ok_lt ?_
      | with_reducible refine Ok_t (by first | assumption | omega) ?_
      | with_reducible refine Ok_f (by first | assumption | omega) ?_)
  refine Ok_wr ?_
  rw [rd_upne _ _ _ 137 3 _ (by omega), rd_upne _ _ _ 137 3 _ (by omega)]
  repeat (first
      | with_reducible refine Ok_g (by first | assumption | omega) ?_
      | with_reducible refine Ok_lt ?_
      | with_reducible refine Ok_t (by first | assumption | omega) ?_
      | with_reducible refine Ok_f (by first | assumption | omega) ?_)
  refine Ok_wr (Ok_wr (Ok_ret ⟨?_, fun q i h1 h2 => by rw [mup_n _ (by omega), mup_n _ (by omega), mup_n _ (by omega), mup_n _ (by omega)]⟩))
  rw [rd_upne _ _ _ 137 3 _ (by omega), rd_upne _ _ _ 137 3 _ (by omega), rd_upne _ _ _ 137 3 _ (by omega)]
  have e3 : ∀ M' v i, I32 v → i < 6 → vw (mup M' 140 i v) 137 = uset (vw M' 137) 3 i v := fun M' v i hv hi => vw_set (w := 137) (k := 3) hv (by decide) (by decide) (by decide) (show i < 6 by omega)
  have e2 : ∀ M' v i, I32 v → i < 6 → vw (mup M' 139 i v) 137 = uset (vw M' 137) 2 i v := fun M' v i hv hi => vw_set (w := 137) (k := 2) hv (by decide) (by decide) (by decide) (show i < 6 by omega)
  have e1 : ∀ M' v i, I32 v → i < 6 → vw (mup M' 138 i v) 137 = uset (vw M' 137) 1 i v := fun M' v i hv hi => vw_set (w := 137) (k := 1) hv (by decide) (by decide) (by decide) (show i < 6 by omega)
  rw [vw_sets (by omega) (by omega) (by omega), e3 _ _ _ (by omega) (by omega), e2 _ _ _ (by omega) (by omega), e1 _ _ _ (by omega) (by omega)]
  unfold adF
  rw [bs.1.1]
theorem r_personMore {n : Nat} {M : Mem} {H k f c : Int} (wf : WF H (vw M 137)) (hk : 0 ≤ k ∧ k ≤ 7) (hf : 0 ≤ f ∧ f ≤ 9) (hc : 0 ≤ c ∧ c < 24) (h : rd M 137 12 < 5) : Ok (m_X6_isPersonMore n M k f c) (fun _ M' => vw M' 137 = adP (vw M 137) k f c ∧ KPs M M') := by
  have bs := sW wf
  unfold m_X6_isPersonMore
  repeat (first
      | with_reducible refine Ok_g (by first | assumption | omega) ?_
      | with_reducible refine Ok_lt ?_
      | with_reducible refine Ok_t (by first | assumption | omega) ?_
      | with_reducible refine Ok_f (by first | assumption | omega) ?_)
  refine Ok_wr ?_
  rw [rd_upne _ _ _ 137 12 _ (by omega)]
  repeat (first
      | with_reducible refine Ok_g (by first | assumption | omega) ?_
      | with_reducible refine Ok_lt ?_
      | with_reducible refine Ok_t (by first | assumption | omega) ?_
      | with_reducible refine Ok_f (by first | assumption | omega) ?_)
  refine Ok_wr ?_
  rw [rd_upne _ _ _ 137 12 _ (by omega), rd_upne _ _ _ 137 12 _ (by omega)]
  repeat (first
      | with_reducible refine Ok_g (by first | assumption | omega) ?_
      | with_reducible refine Ok_lt ?_
      | with_reducible refine Ok_t (by first | assumption | omega) ?_
      | with_reducible refine Ok_f (by first | assumption | omega) ?_)
  refine Ok_wr ?_
  rw [rd_upne _ _ _ 137 12 _ (by omega), rd_upne _ _ _ 137 12 _ (by omega), rd_upne _ _ _ 137 12 _ (by omega)]
  repeat (first
      | with_reducible refine Ok_g (by first | assumption | omega) ?_
      | with_reducible refine Ok_lt ?_
      | with_reducible refine Ok_t (by first | assumption | omega) ?_
      | with_reducible refine Ok_f (by first | assumption | omega) ?_)
  refine Ok_wr (Ok_wr (Ok_ret ⟨?_, fun q i h1 h2 => by rw [mup_n _ (by omega), mup_n _ (by omega), mup_n _ (by omega), mup_n _ (by omega), mup_n _ (by omega)]⟩))
  rw [rd_upne _ _ _ 137 12 _ (by omega), rd_upne _ _ _ 137 12 _ (by omega), rd_upne _ _ _ 137 12 _ (by omega), rd_upne _ _ _ 137 12 _ (by omega)]
  have e4 : ∀ M' v i, I32 v → i < 5 → vw (mup M' 147 i v) 137 = uset (vw M' 137) 10 i v := fun M' v i hv hi => vw_set (w := 137) (k := 10) hv (by decide) (by decide) (by decide) (show i < 5 by omega)
  have e3 : ∀ M' v i, I32 v → i < 5 → vw (mup M' 146 i v) 137 = uset (vw M' 137) 9 i v := fun M' v i hv hi => vw_set (w := 137) (k := 9) hv (by decide) (by decide) (by decide) (show i < 5 by omega)
  have e2 : ∀ M' v i, I32 v → i < 5 → vw (mup M' 145 i v) 137 = uset (vw M' 137) 8 i v := fun M' v i hv hi => vw_set (w := 137) (k := 8) hv (by decide) (by decide) (by decide) (show i < 5 by omega)
  have e1 : ∀ M' v i, I32 v → i < 5 → vw (mup M' 144 i v) 137 = uset (vw M' 137) 7 i v := fun M' v i hv hi => vw_set (w := 137) (k := 7) hv (by decide) (by decide) (by decide) (show i < 5 by omega)
  rw [vw_sets (by omega) (by omega) (by omega), e4 _ _ _ (by omega) (by omega), e3 _ _ _ (by omega) (by omega), e2 _ _ _ (by omega) (by omega), e1 _ _ _ (by omega) (by omega)]
  unfold adP
  rw [bs.1.2.2.1]
theorem r_thingMore {n : Nat} {M : Mem} {H v c : Int} (wf : WF H (vw M 137)) (hv : 0 ≤ v ∧ v ≤ 9) (hc : 0 ≤ c ∧ c < 24) (h : rd M 137 7 < 8) : Ok (m_X6_isThingMore n M v c) (fun _ M' => vw M' 137 = adT (vw M 137) v c ∧ KPs M M') := by
  have bs := sW wf
  unfold m_X6_isThingMore
  repeat (first
      | with_reducible refine Ok_g (by first | assumption | omega) ?_
      | with_reducible refine Ok_lt ?_
      | with_reducible refine Ok_t (by first | assumption | omega) ?_
      | with_reducible refine Ok_f (by first | assumption | omega) ?_)
  refine Ok_wr ?_
  rw [rd_upne _ _ _ 137 7 _ (by omega)]
  repeat (first
      | with_reducible refine Ok_g (by first | assumption | omega) ?_
      | with_reducible refine Ok_lt ?_
      | with_reducible refine Ok_t (by first | assumption | omega) ?_
      | with_reducible refine Ok_f (by first | assumption | omega) ?_)
  refine Ok_wr ?_
  rw [rd_upne _ _ _ 137 7 _ (by omega), rd_upne _ _ _ 137 7 _ (by omega)]
  repeat (first
      | with_reducible refine Ok_g (by first | assumption | omega) ?_
      | with_reducible refine Ok_lt ?_
      | with_reducible refine Ok_t (by first | assumption | omega) ?_
      | with_reducible refine Ok_f (by first | assumption | omega) ?_)
  refine Ok_wr (Ok_wr (Ok_ret ⟨?_, fun q i h1 h2 => by rw [mup_n _ (by omega), mup_n _ (by omega), mup_n _ (by omega), mup_n _ (by omega)]⟩))
  rw [rd_upne _ _ _ 137 7 _ (by omega), rd_upne _ _ _ 137 7 _ (by omega), rd_upne _ _ _ 137 7 _ (by omega)]
  have e3 : ∀ M' i, i < 8 → vw (mup M' 143 i (-9)) 137 = uset (vw M' 137) 6 i (-1) := fun M' i hi => vw_set (w := 137) (k := 6) (by decide) (by decide) (by decide) (by decide) (show i < 8 by omega)
  have e2 : ∀ M' v i, I32 v → i < 8 → vw (mup M' 142 i v) 137 = uset (vw M' 137) 5 i v := fun M' v i hv hi => vw_set (w := 137) (k := 5) hv (by decide) (by decide) (by decide) (show i < 8 by omega)
  have e1 : ∀ M' v i, I32 v → i < 8 → vw (mup M' 141 i v) 137 = uset (vw M' 137) 4 i v := fun M' v i hv hi => vw_set (w := 137) (k := 4) hv (by decide) (by decide) (by decide) (show i < 8 by omega)
  rw [vw_sets (by omega) (by omega) (by omega), e3 _ _ (by omega), e2 _ _ _ (by omega) (by omega), e1 _ _ _ (by omega) (by omega)]
  unfold adT
  rw [bs.1.2.1]
/-- a change that can't be taken back -/
theorem sim_new {M Mc Mr : Mem} {u1 : US} (s : Sim M) (wu : WF 999 u1) (c1 : rd Mc 130 4 = 0) (c4 : SkyOk Mc) (c5 : vw Mc 0 = u1) (c6 : ∀ q i, (11 ≤ q ∧ q < 22) ∨ (130 ≤ q ∧ ¬ (q = 130 ∧ i = 4)) → Mc q i = M q i)
    (r1 : rd Mr 137 30 = 0) (r4 : vw Mr 137 = u1) (r5 : ∀ q i, (q < 137 ∨ q = 148 ∨ q = 151 ∨ q = 156 ∨ (q = 137 ∧ (i = 22 ∨ i = 26 ∨ i = 29 ∨ i = 31)) ∨ (q = 155 ∧ i < 68)) → Mr q i = Mc q i) : Sim Mr := by
  obtain ⟨s1, s2, s3, s4, s5, s6, s7, s8, s9⟩ := s
  obtain ⟨b, fb, _, hf8, _, _, h29, _⟩ := s5
  have e0 : vw Mr 0 = u1 := by rw [← c5]; exact vwW_congr (by decide) (fun q i _ _ => r5 q i (by omega))
  refine ⟨by rw [r4, e0], by rw [e0]; exact wu, SkyOk_keep c4 (fun q i _ _ => r5 q i (by omega)), early_keep s4 (fun i => by rw [r5 _ _ (by omega), c6 _ _ (by omega)]), ⟨0, fb, by omega, hf8, by rw [rd_of (r5 _ _ (by omega))]; exact c1, r1, by rw [rd_of (r5 _ _ (by omega)), rd_of (c6 _ _ (by omega))]; exact h29, fun j hj => absurd hj (by omega)⟩, ?_, ?_, ?_, ?_⟩
  · exact img_keep s6 (fun q i g => by rw [r5 q i (by omega), c6 q i (by omega)])
  · exact let_keep s7 (fun q i g => by rw [r5 q i (by omega), c6 q i (by omega)])
  · exact row_keep s8 (fun q i g => by rw [r5 q i (by omega), c6 q i (by omega)])
  · intro i
    rw [r5 148 i (by omega), r5 134 i (by omega), c6 148 i (by omega), c6 134 i (by omega)]
    exact s9 i
theorem sim_b4 {M M1 : Mem} {u1 : US} (s : Sim M) (v : vw M1 0 = u1) (f : ∀ q i, 10 < q → M1 q i = M q i) : rd (mup M1 130 4 0) 130 4 = 0 ∧ SkyOk (mup M1 130 4 0) ∧ vw (mup M1 130 4 0) 0 = u1 ∧ (∀ q i, (11 ≤ q ∧ q < 22) ∨ (130 ≤ q ∧ ¬ (q = 130 ∧ i = 4)) → mup M1 130 4 0 q i = M q i) ∧ ∀ q i, 137 ≤ q → mup M1 130 4 0 q i = M q i := by
  refine ⟨rd_ups _ _ _ (by decide), SkyOk_keep s.2.2.1 (fun q i _ _ => by rw [mup_n _ (by omega), f q i (by omega)]), ?_, fun q i h => by rw [mup_n _ (by omega), f q i (by omega)], fun q i h => by rw [mup_n _ (by omega), f q i (by omega)]⟩
  rw [← v]
  exact vwW_congr (by decide) (fun q i _ _ => mup_n _ (by omega))
theorem vw_30 (M : Mem) (v : Int) : vw (mup M 137 30 v) 137 = vw M 137 := vw_congr (fun i _ => mup_n _ (by omega)) (fun a i _ _ => mup_n _ (by omega)) (fun z => absurd z (by decide)) (fun _ => ⟨mup_n _ (by omega), mup_n _ (by omega)⟩)
theorem q_blows {n : Nat} {M : Mem} {a b c : Int} (hn : 2000 ≤ n) (s : Sim M) (ha : I32 a) (hb : I32 b) (hc : I32 c) : Agr (m_X5_blows n M a b c) (fun M1 => m_X6_blows n M1 a b c) := by
  obtain ⟨wf0, vv0, rf0⟩ := sim_rf s (M1 := M) (fun _ _ _ => rfl)
  have bs := sW s.2.1
  unfold Agr m_X5_blows m_X5_blows_10 m_X5_blows_25
  by_cases h0 : a < 0
  · repeat (first
        | with_reducible refine Ok_g (by first | assumption | omega) ?_
        | with_reducible refine Ok_lt ?_
        | with_reducible refine Ok_t (by first | assumption | omega) ?_
        | with_reducible refine Ok_f (by first | assumption | omega) ?_
        | with_reducible refine Ok_be (e_hasF (by decide) (by assumption)) ?_
        | with_reducible refine Ok_be (e_hasT (by decide) (by assumption)) ?_
        | with_reducible refine Ok_be (e_hasP (by decide) (by assumption)) ?_
        | with_reducible refine Ok_be (e_isCell (by first | assumption | omega)) ?_
        | with_reducible refine Ok_be (e_oor (by assumption) (by decide) (by decide)) ?_
        | with_reducible refine Ok_be (r_isIn (by first | assumption | omega) (by first | decide | omega) (by first | decide | omega)) ?_
        | with_reducible refine Ok_be (r_bound (by assumption) (by decide) (by decide)) ?_
        | with_reducible refine Ok_be (r_isF (by assumption) (by assumption)) ?_
        | with_reducible refine Ok_be (r_isT (by assumption) (by assumption)) ?_
        | with_reducible refine Ok_be (r_isP (by assumption) (by assumption)) ?_
        | with_reducible refine Ok_be (r_isCell (by first | assumption | omega)) ?_)
    refine Ok_be (e_refuse 2 (by omega) (by decide) (by decide)) (Ok_ret ⟨by decide, ?_⟩)
    obtain ⟨wf1, rf1, rf2⟩ := sim_rf s (M1 := bump 134 M 2) (fun q i h => bump_ne (by omega))
    unfold m_X6_blows m_X6_blows_23 m_X6_blows_49 m_X6_blows_55
    repeat (first
        | with_reducible refine Ok_g (by first | assumption | omega) ?_
        | with_reducible refine Ok_lt ?_
        | with_reducible refine Ok_t (by first | assumption | omega) ?_
        | with_reducible refine Ok_f (by first | assumption | omega) ?_
        | with_reducible refine Ok_be (e_hasF (by decide) (by assumption)) ?_
        | with_reducible refine Ok_be (e_hasT (by decide) (by assumption)) ?_
        | with_reducible refine Ok_be (e_hasP (by decide) (by assumption)) ?_
        | with_reducible refine Ok_be (e_isCell (by first | assumption | omega)) ?_
        | with_reducible refine Ok_be (e_oor (by assumption) (by decide) (by decide)) ?_
        | with_reducible refine Ok_be (r_isIn (by first | assumption | omega) (by first | decide | omega) (by first | decide | omega)) ?_
        | with_reducible refine Ok_be (r_bound (by assumption) (by decide) (by decide)) ?_
        | with_reducible refine Ok_be (r_isF (by assumption) (by assumption)) ?_
        | with_reducible refine Ok_be (r_isT (by assumption) (by assumption)) ?_
        | with_reducible refine Ok_be (r_isP (by assumption) (by assumption)) ?_
        | with_reducible refine Ok_be (r_isCell (by first | assumption | omega)) ?_)
    exact Ok_be (r_no 2 (by omega) (by decide) (by decide)) (Ok_ret ⟨rfl, sim_bump s 2⟩)
  by_cases h7 : 7 ≤ a
  · repeat (first
        | with_reducible refine Ok_g (by first | assumption | omega) ?_
        | with_reducible refine Ok_lt ?_
        | with_reducible refine Ok_t (by first | assumption | omega) ?_
        | with_reducible refine Ok_f (by first | assumption | omega) ?_
        | with_reducible refine Ok_be (e_hasF (by decide) (by assumption)) ?_
        | with_reducible refine Ok_be (e_hasT (by decide) (by assumption)) ?_
        | with_reducible refine Ok_be (e_hasP (by decide) (by assumption)) ?_
        | with_reducible refine Ok_be (e_isCell (by first | assumption | omega)) ?_
        | with_reducible refine Ok_be (e_oor (by assumption) (by decide) (by decide)) ?_
        | with_reducible refine Ok_be (r_isIn (by first | assumption | omega) (by first | decide | omega) (by first | decide | omega)) ?_
        | with_reducible refine Ok_be (r_bound (by assumption) (by decide) (by decide)) ?_
        | with_reducible refine Ok_be (r_isF (by assumption) (by assumption)) ?_
        | with_reducible refine Ok_be (r_isT (by assumption) (by assumption)) ?_
        | with_reducible refine Ok_be (r_isP (by assumption) (by assumption)) ?_
        | with_reducible refine Ok_be (r_isCell (by first | assumption | omega)) ?_)
    refine Ok_be (e_refuse 2 (by omega) (by decide) (by decide)) (Ok_ret ⟨by decide, ?_⟩)
    obtain ⟨wf1, rf1, rf2⟩ := sim_rf s (M1 := bump 134 M 2) (fun q i h => bump_ne (by omega))
    unfold m_X6_blows m_X6_blows_23 m_X6_blows_49 m_X6_blows_55
    repeat (first
        | with_reducible refine Ok_g (by first | assumption | omega) ?_
        | with_reducible refine Ok_lt ?_
        | with_reducible refine Ok_t (by first | assumption | omega) ?_
        | with_reducible refine Ok_f (by first | assumption | omega) ?_
        | with_reducible refine Ok_be (e_hasF (by decide) (by assumption)) ?_
        | with_reducible refine Ok_be (e_hasT (by decide) (by assumption)) ?_
        | with_reducible refine Ok_be (e_hasP (by decide) (by assumption)) ?_
        | with_reducible refine Ok_be (e_isCell (by first | assumption | omega)) ?_
        | with_reducible refine Ok_be (e_oor (by assumption) (by decide) (by decide)) ?_
        | with_reducible refine Ok_be (r_isIn (by first | assumption | omega) (by first | decide | omega) (by first | decide | omega)) ?_
        | with_reducible refine Ok_be (r_bound (by assumption) (by decide) (by decide)) ?_
        | with_reducible refine Ok_be (r_isF (by assumption) (by assumption)) ?_
        | with_reducible refine Ok_be (r_isT (by assumption) (by assumption)) ?_
        | with_reducible refine Ok_be (r_isP (by assumption) (by assumption)) ?_
        | with_reducible refine Ok_be (r_isCell (by first | assumption | omega)) ?_)
    exact Ok_be (r_no 2 (by omega) (by decide) (by decide)) (Ok_ret ⟨rfl, sim_bump s 2⟩)
  by_cases hb0 : b < 0
  · repeat (first
        | with_reducible refine Ok_g (by first | assumption | omega) ?_
        | with_reducible refine Ok_lt ?_
        | with_reducible refine Ok_t (by first | assumption | omega) ?_
        | with_reducible refine Ok_f (by first | assumption | omega) ?_
        | with_reducible refine Ok_be (e_hasF (by decide) (by assumption)) ?_
        | with_reducible refine Ok_be (e_hasT (by decide) (by assumption)) ?_
        | with_reducible refine Ok_be (e_hasP (by decide) (by assumption)) ?_
        | with_reducible refine Ok_be (e_isCell (by first | assumption | omega)) ?_
        | with_reducible refine Ok_be (e_oor (by assumption) (by decide) (by decide)) ?_
        | with_reducible refine Ok_be (r_isIn (by first | assumption | omega) (by first | decide | omega) (by first | decide | omega)) ?_
        | with_reducible refine Ok_be (r_bound (by assumption) (by decide) (by decide)) ?_
        | with_reducible refine Ok_be (r_isF (by assumption) (by assumption)) ?_
        | with_reducible refine Ok_be (r_isT (by assumption) (by assumption)) ?_
        | with_reducible refine Ok_be (r_isP (by assumption) (by assumption)) ?_
        | with_reducible refine Ok_be (r_isCell (by first | assumption | omega)) ?_)
    refine Ok_be (e_refuse 4 (by omega) (by decide) (by decide)) (Ok_ret ⟨by decide, ?_⟩)
    obtain ⟨wf1, rf1, rf2⟩ := sim_rf s (M1 := bump 134 M 4) (fun q i h => bump_ne (by omega))
    unfold m_X6_blows m_X6_blows_23 m_X6_blows_49 m_X6_blows_55
    repeat (first
        | with_reducible refine Ok_g (by first | assumption | omega) ?_
        | with_reducible refine Ok_lt ?_
        | with_reducible refine Ok_t (by first | assumption | omega) ?_
        | with_reducible refine Ok_f (by first | assumption | omega) ?_
        | with_reducible refine Ok_be (e_hasF (by decide) (by assumption)) ?_
        | with_reducible refine Ok_be (e_hasT (by decide) (by assumption)) ?_
        | with_reducible refine Ok_be (e_hasP (by decide) (by assumption)) ?_
        | with_reducible refine Ok_be (e_isCell (by first | assumption | omega)) ?_
        | with_reducible refine Ok_be (e_oor (by assumption) (by decide) (by decide)) ?_
        | with_reducible refine Ok_be (r_isIn (by first | assumption | omega) (by first | decide | omega) (by first | decide | omega)) ?_
        | with_reducible refine Ok_be (r_bound (by assumption) (by decide) (by decide)) ?_
        | with_reducible refine Ok_be (r_isF (by assumption) (by assumption)) ?_
        | with_reducible refine Ok_be (r_isT (by assumption) (by assumption)) ?_
        | with_reducible refine Ok_be (r_isP (by assumption) (by assumption)) ?_
        | with_reducible refine Ok_be (r_isCell (by first | assumption | omega)) ?_)
    exact Ok_be (r_no 4 (by omega) (by decide) (by decide)) (Ok_ret ⟨rfl, sim_bump s 4⟩)
  by_cases hc0 : c < 0
  · repeat (first
        | with_reducible refine Ok_g (by first | assumption | omega) ?_
        | with_reducible refine Ok_lt ?_
        | with_reducible refine Ok_t (by first | assumption | omega) ?_
        | with_reducible refine Ok_f (by first | assumption | omega) ?_
        | with_reducible refine Ok_be (e_hasF (by decide) (by assumption)) ?_
        | with_reducible refine Ok_be (e_hasT (by decide) (by assumption)) ?_
        | with_reducible refine Ok_be (e_hasP (by decide) (by assumption)) ?_
        | with_reducible refine Ok_be (e_isCell (by first | assumption | omega)) ?_
        | with_reducible refine Ok_be (e_oor (by assumption) (by decide) (by decide)) ?_
        | with_reducible refine Ok_be (r_isIn (by first | assumption | omega) (by first | decide | omega) (by first | decide | omega)) ?_
        | with_reducible refine Ok_be (r_bound (by assumption) (by decide) (by decide)) ?_
        | with_reducible refine Ok_be (r_isF (by assumption) (by assumption)) ?_
        | with_reducible refine Ok_be (r_isT (by assumption) (by assumption)) ?_
        | with_reducible refine Ok_be (r_isP (by assumption) (by assumption)) ?_
        | with_reducible refine Ok_be (r_isCell (by first | assumption | omega)) ?_)
    refine Ok_be (e_refuse 4 (by omega) (by decide) (by decide)) (Ok_ret ⟨by decide, ?_⟩)
    obtain ⟨wf1, rf1, rf2⟩ := sim_rf s (M1 := bump 134 M 4) (fun q i h => bump_ne (by omega))
    unfold m_X6_blows m_X6_blows_23 m_X6_blows_49 m_X6_blows_55
    repeat (first
        | with_reducible refine Ok_g (by first | assumption | omega) ?_
        | with_reducible refine Ok_lt ?_
        | with_reducible refine Ok_t (by first | assumption | omega) ?_
        | with_reducible refine Ok_f (by first | assumption | omega) ?_
        | with_reducible refine Ok_be (e_hasF (by decide) (by assumption)) ?_
        | with_reducible refine Ok_be (e_hasT (by decide) (by assumption)) ?_
        | with_reducible refine Ok_be (e_hasP (by decide) (by assumption)) ?_
        | with_reducible refine Ok_be (e_isCell (by first | assumption | omega)) ?_
        | with_reducible refine Ok_be (e_oor (by assumption) (by decide) (by decide)) ?_
        | with_reducible refine Ok_be (r_isIn (by first | assumption | omega) (by first | decide | omega) (by first | decide | omega)) ?_
        | with_reducible refine Ok_be (r_bound (by assumption) (by decide) (by decide)) ?_
        | with_reducible refine Ok_be (r_isF (by assumption) (by assumption)) ?_
        | with_reducible refine Ok_be (r_isT (by assumption) (by assumption)) ?_
        | with_reducible refine Ok_be (r_isP (by assumption) (by assumption)) ?_
        | with_reducible refine Ok_be (r_isCell (by first | assumption | omega)) ?_)
    exact Ok_be (r_no 4 (by omega) (by decide) (by decide)) (Ok_ret ⟨rfl, sim_bump s 4⟩)
  repeat (first
      | with_reducible refine Ok_g (by first | assumption | omega) ?_
      | with_reducible refine Ok_lt ?_
      | with_reducible refine Ok_t (by first | assumption | omega) ?_
      | with_reducible refine Ok_f (by first | assumption | omega) ?_
      | with_reducible refine Ok_be (e_hasF (by decide) (by assumption)) ?_
      | with_reducible refine Ok_be (e_hasT (by decide) (by assumption)) ?_
      | with_reducible refine Ok_be (e_hasP (by decide) (by assumption)) ?_
      | with_reducible refine Ok_be (e_isCell (by first | assumption | omega)) ?_
      | with_reducible refine Ok_be (e_oor (by assumption) (by decide) (by decide)) ?_
      | with_reducible refine Ok_be (r_isIn (by first | assumption | omega) (by first | decide | omega) (by first | decide | omega)) ?_
      | with_reducible refine Ok_be (r_bound (by assumption) (by decide) (by decide)) ?_
      | with_reducible refine Ok_be (r_isF (by assumption) (by assumption)) ?_
      | with_reducible refine Ok_be (r_isT (by assumption) (by assumption)) ?_
      | with_reducible refine Ok_be (r_isP (by assumption) (by assumption)) ?_
      | with_reducible refine Ok_be (r_isCell (by first | assumption | omega)) ?_)
  refine Ok_bd (e_addFront (.inl rfl) s.2.1 (by omega) hb hc) ?_
  rintro r M1 (⟨rfl, rfl, hno⟩ | ⟨rfl, hy, v1, f1⟩)
  · repeat (first
        | with_reducible refine Ok_g (by first | assumption | omega) ?_
        | with_reducible refine Ok_lt ?_
        | with_reducible refine Ok_t (by first | assumption | omega) ?_
        | with_reducible refine Ok_f (by first | assumption | omega) ?_)
    refine Ok_be (e_refuse 6 (by omega) (by decide) (by decide)) (Ok_ret ⟨by decide, ?_⟩)
    obtain ⟨wf1, rf1, rf2⟩ := sim_rf s (M1 := bump 134 M1 6) (fun q i h => bump_ne (by omega))
    unfold m_X6_blows m_X6_blows_23 m_X6_blows_49 m_X6_blows_55
    repeat (first
        | with_reducible refine Ok_g (by first | assumption | omega) ?_
        | with_reducible refine Ok_lt ?_
        | with_reducible refine Ok_t (by first | assumption | omega) ?_
        | with_reducible refine Ok_f (by first | assumption | omega) ?_
        | with_reducible refine Ok_be (e_hasF (by decide) (by assumption)) ?_
        | with_reducible refine Ok_be (e_hasT (by decide) (by assumption)) ?_
        | with_reducible refine Ok_be (e_hasP (by decide) (by assumption)) ?_
        | with_reducible refine Ok_be (e_isCell (by first | assumption | omega)) ?_
        | with_reducible refine Ok_be (e_oor (by assumption) (by decide) (by decide)) ?_
        | with_reducible refine Ok_be (r_isIn (by first | assumption | omega) (by first | decide | omega) (by first | decide | omega)) ?_
        | with_reducible refine Ok_be (r_bound (by assumption) (by decide) (by decide)) ?_
        | with_reducible refine Ok_be (r_isF (by assumption) (by assumption)) ?_
        | with_reducible refine Ok_be (r_isT (by assumption) (by assumption)) ?_
        | with_reducible refine Ok_be (r_isP (by assumption) (by assumption)) ?_
        | with_reducible refine Ok_be (r_isCell (by first | assumption | omega)) ?_)
    by_cases g : 9 < b
    · repeat (first
          | with_reducible refine Ok_g (by first | assumption | omega) ?_
          | with_reducible refine Ok_lt ?_
          | with_reducible refine Ok_t (by first | assumption | omega) ?_
          | with_reducible refine Ok_f (by first | assumption | omega) ?_
          | with_reducible refine Ok_be (e_hasF (by decide) (by assumption)) ?_
          | with_reducible refine Ok_be (e_hasT (by decide) (by assumption)) ?_
          | with_reducible refine Ok_be (e_hasP (by decide) (by assumption)) ?_
          | with_reducible refine Ok_be (e_isCell (by first | assumption | omega)) ?_
          | with_reducible refine Ok_be (e_oor (by assumption) (by decide) (by decide)) ?_
          | with_reducible refine Ok_be (r_isIn (by first | assumption | omega) (by first | decide | omega) (by first | decide | omega)) ?_
          | with_reducible refine Ok_be (r_bound (by assumption) (by decide) (by decide)) ?_
          | with_reducible refine Ok_be (r_isF (by assumption) (by assumption)) ?_
          | with_reducible refine Ok_be (r_isT (by assumption) (by assumption)) ?_
          | with_reducible refine Ok_be (r_isP (by assumption) (by assumption)) ?_
          | with_reducible refine Ok_be (r_isCell (by first | assumption | omega)) ?_)
      exact Ok_be (r_no 6 (by omega) (by decide) (by decide)) (Ok_ret ⟨rfl, sim_bump s 6⟩)
    by_cases g1 : 9 < c
    · repeat (first
          | with_reducible refine Ok_g (by first | assumption | omega) ?_
          | with_reducible refine Ok_lt ?_
          | with_reducible refine Ok_t (by first | assumption | omega) ?_
          | with_reducible refine Ok_f (by first | assumption | omega) ?_
          | with_reducible refine Ok_be (e_hasF (by decide) (by assumption)) ?_
          | with_reducible refine Ok_be (e_hasT (by decide) (by assumption)) ?_
          | with_reducible refine Ok_be (e_hasP (by decide) (by assumption)) ?_
          | with_reducible refine Ok_be (e_isCell (by first | assumption | omega)) ?_
          | with_reducible refine Ok_be (e_oor (by assumption) (by decide) (by decide)) ?_
          | with_reducible refine Ok_be (r_isIn (by first | assumption | omega) (by first | decide | omega) (by first | decide | omega)) ?_
          | with_reducible refine Ok_be (r_bound (by assumption) (by decide) (by decide)) ?_
          | with_reducible refine Ok_be (r_isF (by assumption) (by assumption)) ?_
          | with_reducible refine Ok_be (r_isT (by assumption) (by assumption)) ?_
          | with_reducible refine Ok_be (r_isP (by assumption) (by assumption)) ?_
          | with_reducible refine Ok_be (r_isCell (by first | assumption | omega)) ?_)
      exact Ok_be (r_no 6 (by omega) (by decide) (by decide)) (Ok_ret ⟨rfl, sim_bump s 6⟩)
    repeat (first
        | with_reducible refine Ok_g (by first | assumption | omega) ?_
        | with_reducible refine Ok_lt ?_
        | with_reducible refine Ok_t (by first | assumption | omega) ?_
        | with_reducible refine Ok_f (by first | assumption | omega) ?_
        | with_reducible refine Ok_be (e_hasF (by decide) (by assumption)) ?_
        | with_reducible refine Ok_be (e_hasT (by decide) (by assumption)) ?_
        | with_reducible refine Ok_be (e_hasP (by decide) (by assumption)) ?_
        | with_reducible refine Ok_be (e_isCell (by first | assumption | omega)) ?_
        | with_reducible refine Ok_be (e_oor (by assumption) (by decide) (by decide)) ?_
        | with_reducible refine Ok_be (r_isIn (by first | assumption | omega) (by first | decide | omega) (by first | decide | omega)) ?_
        | with_reducible refine Ok_be (r_bound (by assumption) (by decide) (by decide)) ?_
        | with_reducible refine Ok_be (r_isF (by assumption) (by assumption)) ?_
        | with_reducible refine Ok_be (r_isT (by assumption) (by assumption)) ?_
        | with_reducible refine Ok_be (r_isP (by assumption) (by assumption)) ?_
        | with_reducible refine Ok_be (r_isCell (by first | assumption | omega)) ?_)
    exact Ok_be (r_no 6 (by omega) (by decide) (by decide)) (Ok_ret ⟨rfl, sim_bump s 6⟩)
  · repeat (first
        | with_reducible refine Ok_g (by first | assumption | omega) ?_
        | with_reducible refine Ok_lt ?_
        | with_reducible refine Ok_t (by first | assumption | omega) ?_
        | with_reducible refine Ok_f (by first | assumption | omega) ?_)
    refine Ok_wr ?_
    have wu : WF 999 (adF (vw M 0) a b c) := adF_wf s.2.1 (by omega) (by omega) (by omega) (by rw [bs.1.1]; omega)
    obtain ⟨d1, d2, d3, d4, d5⟩ := sim_b4 s v1 (fun q i h => f1 q i (by omega))
    obtain ⟨wf1, rf1, rf2⟩ := sim_rf s d5
    have z3 : rd (mup M1 130 4 0) 0 3 = rd M 0 3 + 1 := by
      rw [← vw_s (w := 0) (by omega), d3, ← bs.1.1]
      exact uset_same _ _ _ _
    refine Ok_ret ⟨by omega, ?_⟩
    unfold m_X6_blows m_X6_blows_23 m_X6_blows_49 m_X6_blows_55
    repeat (first
        | with_reducible refine Ok_g (by first | assumption | omega) ?_
        | with_reducible refine Ok_lt ?_
        | with_reducible refine Ok_t (by first | assumption | omega) ?_
        | with_reducible refine Ok_f (by first | assumption | omega) ?_
        | with_reducible refine Ok_be (e_hasF (by decide) (by assumption)) ?_
        | with_reducible refine Ok_be (e_hasT (by decide) (by assumption)) ?_
        | with_reducible refine Ok_be (e_hasP (by decide) (by assumption)) ?_
        | with_reducible refine Ok_be (e_isCell (by first | assumption | omega)) ?_
        | with_reducible refine Ok_be (e_oor (by assumption) (by decide) (by decide)) ?_
        | with_reducible refine Ok_be (r_isIn (by first | assumption | omega) (by first | decide | omega) (by first | decide | omega)) ?_
        | with_reducible refine Ok_be (r_bound (by assumption) (by decide) (by decide)) ?_
        | with_reducible refine Ok_be (r_isF (by assumption) (by assumption)) ?_
        | with_reducible refine Ok_be (r_isT (by assumption) (by assumption)) ?_
        | with_reducible refine Ok_be (r_isP (by assumption) (by assumption)) ?_
        | with_reducible refine Ok_be (r_isCell (by first | assumption | omega)) ?_)
    refine Ok_bd (r_frontMore wf1 (by omega) hb hc (by omega)) ?_
    rintro _ M2 ⟨v2, f2⟩
    refine Ok_wr (Ok_ret ⟨?_, ?_⟩)
    · rw [rd_upne _ _ _ _ _ _ (by omega), ← vw_s (w := 137) (by omega), v2, rf1, z3, ← bs.1.1]
      unfold adF
      rw [uset_same]
    · exact sim_new s wu d1 d2 d3 d4 (rd_ups _ _ _ (by decide)) (by rw [vw_30, v2, rf1]) (fun q i h => by rw [mup_n _ (by omega), f2 q i (by omega) (by omega)])
theorem q_comes {n : Nat} {M : Mem} {a b c : Int} (hn : 2000 ≤ n) (s : Sim M) (ha : I32 a) (hb : I32 b) (hc : I32 c) : Agr (m_X5_comes n M a b c) (fun M1 => m_X6_comes n M1 a b c) := by
  obtain ⟨wf0, vv0, rf0⟩ := sim_rf s (M1 := M) (fun _ _ _ => rfl)
  have bs := sW s.2.1
  unfold Agr m_X5_comes m_X5_comes_10 m_X5_comes_45
  by_cases h0 : a < 0
  · repeat (first
        | with_reducible refine Ok_g (by first | assumption | omega) ?_
        | with_reducible refine Ok_lt ?_
        | with_reducible refine Ok_t (by first | assumption | omega) ?_
        | with_reducible refine Ok_f (by first | assumption | omega) ?_
        | with_reducible refine Ok_be (e_hasF (by decide) (by assumption)) ?_
        | with_reducible refine Ok_be (e_hasT (by decide) (by assumption)) ?_
        | with_reducible refine Ok_be (e_hasP (by decide) (by assumption)) ?_
        | with_reducible refine Ok_be (e_isCell (by first | assumption | omega)) ?_
        | with_reducible refine Ok_be (e_oor (by assumption) (by decide) (by decide)) ?_
        | with_reducible refine Ok_be (r_isIn (by first | assumption | omega) (by first | decide | omega) (by first | decide | omega)) ?_
        | with_reducible refine Ok_be (r_bound (by assumption) (by decide) (by decide)) ?_
        | with_reducible refine Ok_be (r_isF (by assumption) (by assumption)) ?_
        | with_reducible refine Ok_be (r_isT (by assumption) (by assumption)) ?_
        | with_reducible refine Ok_be (r_isP (by assumption) (by assumption)) ?_
        | with_reducible refine Ok_be (r_isCell (by first | assumption | omega)) ?_)
    refine Ok_be (e_refuse 2 (by omega) (by decide) (by decide)) (Ok_ret ⟨by decide, ?_⟩)
    obtain ⟨wf1, rf1, rf2⟩ := sim_rf s (M1 := bump 134 M 2) (fun q i h => bump_ne (by omega))
    unfold m_X6_comes m_X6_comes_22 m_X6_comes_54 m_X6_comes_56
    repeat (first
        | with_reducible refine Ok_g (by first | assumption | omega) ?_
        | with_reducible refine Ok_lt ?_
        | with_reducible refine Ok_t (by first | assumption | omega) ?_
        | with_reducible refine Ok_f (by first | assumption | omega) ?_
        | with_reducible refine Ok_be (e_hasF (by decide) (by assumption)) ?_
        | with_reducible refine Ok_be (e_hasT (by decide) (by assumption)) ?_
        | with_reducible refine Ok_be (e_hasP (by decide) (by assumption)) ?_
        | with_reducible refine Ok_be (e_isCell (by first | assumption | omega)) ?_
        | with_reducible refine Ok_be (e_oor (by assumption) (by decide) (by decide)) ?_
        | with_reducible refine Ok_be (r_isIn (by first | assumption | omega) (by first | decide | omega) (by first | decide | omega)) ?_
        | with_reducible refine Ok_be (r_bound (by assumption) (by decide) (by decide)) ?_
        | with_reducible refine Ok_be (r_isF (by assumption) (by assumption)) ?_
        | with_reducible refine Ok_be (r_isT (by assumption) (by assumption)) ?_
        | with_reducible refine Ok_be (r_isP (by assumption) (by assumption)) ?_
        | with_reducible refine Ok_be (r_isCell (by first | assumption | omega)) ?_)
    exact Ok_be (r_no 2 (by omega) (by decide) (by decide)) (Ok_ret ⟨rfl, sim_bump s 2⟩)
  by_cases h7 : 8 ≤ a
  · repeat (first
        | with_reducible refine Ok_g (by first | assumption | omega) ?_
        | with_reducible refine Ok_lt ?_
        | with_reducible refine Ok_t (by first | assumption | omega) ?_
        | with_reducible refine Ok_f (by first | assumption | omega) ?_
        | with_reducible refine Ok_be (e_hasF (by decide) (by assumption)) ?_
        | with_reducible refine Ok_be (e_hasT (by decide) (by assumption)) ?_
        | with_reducible refine Ok_be (e_hasP (by decide) (by assumption)) ?_
        | with_reducible refine Ok_be (e_isCell (by first | assumption | omega)) ?_
        | with_reducible refine Ok_be (e_oor (by assumption) (by decide) (by decide)) ?_
        | with_reducible refine Ok_be (r_isIn (by first | assumption | omega) (by first | decide | omega) (by first | decide | omega)) ?_
        | with_reducible refine Ok_be (r_bound (by assumption) (by decide) (by decide)) ?_
        | with_reducible refine Ok_be (r_isF (by assumption) (by assumption)) ?_
        | with_reducible refine Ok_be (r_isT (by assumption) (by assumption)) ?_
        | with_reducible refine Ok_be (r_isP (by assumption) (by assumption)) ?_
        | with_reducible refine Ok_be (r_isCell (by first | assumption | omega)) ?_)
    refine Ok_be (e_refuse 2 (by omega) (by decide) (by decide)) (Ok_ret ⟨by decide, ?_⟩)
    obtain ⟨wf1, rf1, rf2⟩ := sim_rf s (M1 := bump 134 M 2) (fun q i h => bump_ne (by omega))
    unfold m_X6_comes m_X6_comes_22 m_X6_comes_54 m_X6_comes_56
    repeat (first
        | with_reducible refine Ok_g (by first | assumption | omega) ?_
        | with_reducible refine Ok_lt ?_
        | with_reducible refine Ok_t (by first | assumption | omega) ?_
        | with_reducible refine Ok_f (by first | assumption | omega) ?_
        | with_reducible refine Ok_be (e_hasF (by decide) (by assumption)) ?_
        | with_reducible refine Ok_be (e_hasT (by decide) (by assumption)) ?_
        | with_reducible refine Ok_be (e_hasP (by decide) (by assumption)) ?_
        | with_reducible refine Ok_be (e_isCell (by first | assumption | omega)) ?_
        | with_reducible refine Ok_be (e_oor (by assumption) (by decide) (by decide)) ?_
        | with_reducible refine Ok_be (r_isIn (by first | assumption | omega) (by first | decide | omega) (by first | decide | omega)) ?_
        | with_reducible refine Ok_be (r_bound (by assumption) (by decide) (by decide)) ?_
        | with_reducible refine Ok_be (r_isF (by assumption) (by assumption)) ?_
        | with_reducible refine Ok_be (r_isT (by assumption) (by assumption)) ?_
        | with_reducible refine Ok_be (r_isP (by assumption) (by assumption)) ?_
        | with_reducible refine Ok_be (r_isCell (by first | assumption | omega)) ?_)
    exact Ok_be (r_no 2 (by omega) (by decide) (by decide)) (Ok_ret ⟨rfl, sim_bump s 2⟩)
  by_cases hb0 : b < 0
  · repeat (first
        | with_reducible refine Ok_g (by first | assumption | omega) ?_
        | with_reducible refine Ok_lt ?_
        | with_reducible refine Ok_t (by first | assumption | omega) ?_
        | with_reducible refine Ok_f (by first | assumption | omega) ?_
        | with_reducible refine Ok_be (e_hasF (by decide) (by assumption)) ?_
        | with_reducible refine Ok_be (e_hasT (by decide) (by assumption)) ?_
        | with_reducible refine Ok_be (e_hasP (by decide) (by assumption)) ?_
        | with_reducible refine Ok_be (e_isCell (by first | assumption | omega)) ?_
        | with_reducible refine Ok_be (e_oor (by assumption) (by decide) (by decide)) ?_
        | with_reducible refine Ok_be (r_isIn (by first | assumption | omega) (by first | decide | omega) (by first | decide | omega)) ?_
        | with_reducible refine Ok_be (r_bound (by assumption) (by decide) (by decide)) ?_
        | with_reducible refine Ok_be (r_isF (by assumption) (by assumption)) ?_
        | with_reducible refine Ok_be (r_isT (by assumption) (by assumption)) ?_
        | with_reducible refine Ok_be (r_isP (by assumption) (by assumption)) ?_
        | with_reducible refine Ok_be (r_isCell (by first | assumption | omega)) ?_)
    refine Ok_be (e_refuse 4 (by omega) (by decide) (by decide)) (Ok_ret ⟨by decide, ?_⟩)
    obtain ⟨wf1, rf1, rf2⟩ := sim_rf s (M1 := bump 134 M 4) (fun q i h => bump_ne (by omega))
    unfold m_X6_comes m_X6_comes_22 m_X6_comes_54 m_X6_comes_56
    repeat (first
        | with_reducible refine Ok_g (by first | assumption | omega) ?_
        | with_reducible refine Ok_lt ?_
        | with_reducible refine Ok_t (by first | assumption | omega) ?_
        | with_reducible refine Ok_f (by first | assumption | omega) ?_
        | with_reducible refine Ok_be (e_hasF (by decide) (by assumption)) ?_
        | with_reducible refine Ok_be (e_hasT (by decide) (by assumption)) ?_
        | with_reducible refine Ok_be (e_hasP (by decide) (by assumption)) ?_
        | with_reducible refine Ok_be (e_isCell (by first | assumption | omega)) ?_
        | with_reducible refine Ok_be (e_oor (by assumption) (by decide) (by decide)) ?_
        | with_reducible refine Ok_be (r_isIn (by first | assumption | omega) (by first | decide | omega) (by first | decide | omega)) ?_
        | with_reducible refine Ok_be (r_bound (by assumption) (by decide) (by decide)) ?_
        | with_reducible refine Ok_be (r_isF (by assumption) (by assumption)) ?_
        | with_reducible refine Ok_be (r_isT (by assumption) (by assumption)) ?_
        | with_reducible refine Ok_be (r_isP (by assumption) (by assumption)) ?_
        | with_reducible refine Ok_be (r_isCell (by first | assumption | omega)) ?_)
    exact Ok_be (r_no 4 (by omega) (by decide) (by decide)) (Ok_ret ⟨rfl, sim_bump s 4⟩)
  by_cases hb9 : 9 < b
  · repeat (first
        | with_reducible refine Ok_g (by first | assumption | omega) ?_
        | with_reducible refine Ok_lt ?_
        | with_reducible refine Ok_t (by first | assumption | omega) ?_
        | with_reducible refine Ok_f (by first | assumption | omega) ?_
        | with_reducible refine Ok_be (e_hasF (by decide) (by assumption)) ?_
        | with_reducible refine Ok_be (e_hasT (by decide) (by assumption)) ?_
        | with_reducible refine Ok_be (e_hasP (by decide) (by assumption)) ?_
        | with_reducible refine Ok_be (e_isCell (by first | assumption | omega)) ?_
        | with_reducible refine Ok_be (e_oor (by assumption) (by decide) (by decide)) ?_
        | with_reducible refine Ok_be (r_isIn (by first | assumption | omega) (by first | decide | omega) (by first | decide | omega)) ?_
        | with_reducible refine Ok_be (r_bound (by assumption) (by decide) (by decide)) ?_
        | with_reducible refine Ok_be (r_isF (by assumption) (by assumption)) ?_
        | with_reducible refine Ok_be (r_isT (by assumption) (by assumption)) ?_
        | with_reducible refine Ok_be (r_isP (by assumption) (by assumption)) ?_
        | with_reducible refine Ok_be (r_isCell (by first | assumption | omega)) ?_)
    refine Ok_be (e_refuse 6 (by omega) (by decide) (by decide)) (Ok_ret ⟨by decide, ?_⟩)
    obtain ⟨wf1, rf1, rf2⟩ := sim_rf s (M1 := bump 134 M 6) (fun q i h => bump_ne (by omega))
    unfold m_X6_comes m_X6_comes_22 m_X6_comes_54 m_X6_comes_56
    repeat (first
        | with_reducible refine Ok_g (by first | assumption | omega) ?_
        | with_reducible refine Ok_lt ?_
        | with_reducible refine Ok_t (by first | assumption | omega) ?_
        | with_reducible refine Ok_f (by first | assumption | omega) ?_
        | with_reducible refine Ok_be (e_hasF (by decide) (by assumption)) ?_
        | with_reducible refine Ok_be (e_hasT (by decide) (by assumption)) ?_
        | with_reducible refine Ok_be (e_hasP (by decide) (by assumption)) ?_
        | with_reducible refine Ok_be (e_isCell (by first | assumption | omega)) ?_
        | with_reducible refine Ok_be (e_oor (by assumption) (by decide) (by decide)) ?_
        | with_reducible refine Ok_be (r_isIn (by first | assumption | omega) (by first | decide | omega) (by first | decide | omega)) ?_
        | with_reducible refine Ok_be (r_bound (by assumption) (by decide) (by decide)) ?_
        | with_reducible refine Ok_be (r_isF (by assumption) (by assumption)) ?_
        | with_reducible refine Ok_be (r_isT (by assumption) (by assumption)) ?_
        | with_reducible refine Ok_be (r_isP (by assumption) (by assumption)) ?_
        | with_reducible refine Ok_be (r_isCell (by first | assumption | omega)) ?_)
    exact Ok_be (r_no 6 (by omega) (by decide) (by decide)) (Ok_ret ⟨rfl, sim_bump s 6⟩)
  by_cases hp : 5 ≤ rd M 0 12
  · repeat (first
        | with_reducible refine Ok_g (by first | assumption | omega) ?_
        | with_reducible refine Ok_lt ?_
        | with_reducible refine Ok_t (by first | assumption | omega) ?_
        | with_reducible refine Ok_f (by first | assumption | omega) ?_
        | with_reducible refine Ok_be (e_hasF (by decide) (by assumption)) ?_
        | with_reducible refine Ok_be (e_hasT (by decide) (by assumption)) ?_
        | with_reducible refine Ok_be (e_hasP (by decide) (by assumption)) ?_
        | with_reducible refine Ok_be (e_isCell (by first | assumption | omega)) ?_
        | with_reducible refine Ok_be (e_oor (by assumption) (by decide) (by decide)) ?_
        | with_reducible refine Ok_be (r_isIn (by first | assumption | omega) (by first | decide | omega) (by first | decide | omega)) ?_
        | with_reducible refine Ok_be (r_bound (by assumption) (by decide) (by decide)) ?_
        | with_reducible refine Ok_be (r_isF (by assumption) (by assumption)) ?_
        | with_reducible refine Ok_be (r_isT (by assumption) (by assumption)) ?_
        | with_reducible refine Ok_be (r_isP (by assumption) (by assumption)) ?_
        | with_reducible refine Ok_be (r_isCell (by first | assumption | omega)) ?_)
    refine Ok_be (e_refuse 6 (by omega) (by decide) (by decide)) (Ok_ret ⟨by decide, ?_⟩)
    obtain ⟨wf1, rf1, rf2⟩ := sim_rf s (M1 := bump 134 M 6) (fun q i h => bump_ne (by omega))
    unfold m_X6_comes m_X6_comes_22 m_X6_comes_54 m_X6_comes_56
    repeat (first
        | with_reducible refine Ok_g (by first | assumption | omega) ?_
        | with_reducible refine Ok_lt ?_
        | with_reducible refine Ok_t (by first | assumption | omega) ?_
        | with_reducible refine Ok_f (by first | assumption | omega) ?_
        | with_reducible refine Ok_be (e_hasF (by decide) (by assumption)) ?_
        | with_reducible refine Ok_be (e_hasT (by decide) (by assumption)) ?_
        | with_reducible refine Ok_be (e_hasP (by decide) (by assumption)) ?_
        | with_reducible refine Ok_be (e_isCell (by first | assumption | omega)) ?_
        | with_reducible refine Ok_be (e_oor (by assumption) (by decide) (by decide)) ?_
        | with_reducible refine Ok_be (r_isIn (by first | assumption | omega) (by first | decide | omega) (by first | decide | omega)) ?_
        | with_reducible refine Ok_be (r_bound (by assumption) (by decide) (by decide)) ?_
        | with_reducible refine Ok_be (r_isF (by assumption) (by assumption)) ?_
        | with_reducible refine Ok_be (r_isT (by assumption) (by assumption)) ?_
        | with_reducible refine Ok_be (r_isP (by assumption) (by assumption)) ?_
        | with_reducible refine Ok_be (r_isCell (by first | assumption | omega)) ?_)
    exact Ok_be (r_no 6 (by omega) (by decide) (by decide)) (Ok_ret ⟨rfl, sim_bump s 6⟩)
  repeat (first
      | with_reducible refine Ok_g (by first | assumption | omega) ?_
      | with_reducible refine Ok_lt ?_
      | with_reducible refine Ok_t (by first | assumption | omega) ?_
      | with_reducible refine Ok_f (by first | assumption | omega) ?_
      | with_reducible refine Ok_be (e_hasF (by decide) (by assumption)) ?_
      | with_reducible refine Ok_be (e_hasT (by decide) (by assumption)) ?_
      | with_reducible refine Ok_be (e_hasP (by decide) (by assumption)) ?_
      | with_reducible refine Ok_be (e_isCell (by first | assumption | omega)) ?_
      | with_reducible refine Ok_be (e_oor (by assumption) (by decide) (by decide)) ?_
      | with_reducible refine Ok_be (r_isIn (by first | assumption | omega) (by first | decide | omega) (by first | decide | omega)) ?_
      | with_reducible refine Ok_be (r_bound (by assumption) (by decide) (by decide)) ?_
      | with_reducible refine Ok_be (r_isF (by assumption) (by assumption)) ?_
      | with_reducible refine Ok_be (r_isT (by assumption) (by assumption)) ?_
      | with_reducible refine Ok_be (r_isP (by assumption) (by assumption)) ?_
      | with_reducible refine Ok_be (r_isCell (by first | assumption | omega)) ?_)
  refine Ok_bd (e_addPerson (.inl rfl) s.2.1 (by omega) (by omega) hc) ?_
  rintro r M1 (⟨rfl, rfl, hno⟩ | ⟨rfl, hy, v1, f1⟩)
  · repeat (first
        | with_reducible refine Ok_g (by first | assumption | omega) ?_
        | with_reducible refine Ok_lt ?_
        | with_reducible refine Ok_t (by first | assumption | omega) ?_
        | with_reducible refine Ok_f (by first | assumption | omega) ?_)
    refine Ok_be (e_refuse 1 (by omega) (by decide) (by decide)) (Ok_ret ⟨by decide, ?_⟩)
    obtain ⟨wf1, rf1, rf2⟩ := sim_rf s (M1 := bump 134 M1 1) (fun q i h => bump_ne (by omega))
    unfold m_X6_comes m_X6_comes_22 m_X6_comes_54 m_X6_comes_56
    repeat (first
        | with_reducible refine Ok_g (by first | assumption | omega) ?_
        | with_reducible refine Ok_lt ?_
        | with_reducible refine Ok_t (by first | assumption | omega) ?_
        | with_reducible refine Ok_f (by first | assumption | omega) ?_
        | with_reducible refine Ok_be (e_hasF (by decide) (by assumption)) ?_
        | with_reducible refine Ok_be (e_hasT (by decide) (by assumption)) ?_
        | with_reducible refine Ok_be (e_hasP (by decide) (by assumption)) ?_
        | with_reducible refine Ok_be (e_isCell (by first | assumption | omega)) ?_
        | with_reducible refine Ok_be (e_oor (by assumption) (by decide) (by decide)) ?_
        | with_reducible refine Ok_be (r_isIn (by first | assumption | omega) (by first | decide | omega) (by first | decide | omega)) ?_
        | with_reducible refine Ok_be (r_bound (by assumption) (by decide) (by decide)) ?_
        | with_reducible refine Ok_be (r_isF (by assumption) (by assumption)) ?_
        | with_reducible refine Ok_be (r_isT (by assumption) (by assumption)) ?_
        | with_reducible refine Ok_be (r_isP (by assumption) (by assumption)) ?_
        | with_reducible refine Ok_be (r_isCell (by first | assumption | omega)) ?_)
    exact Ok_be (r_no 1 (by omega) (by decide) (by decide)) (Ok_ret ⟨rfl, sim_bump s 1⟩)
  · repeat (first
        | with_reducible refine Ok_g (by first | assumption | omega) ?_
        | with_reducible refine Ok_lt ?_
        | with_reducible refine Ok_t (by first | assumption | omega) ?_
        | with_reducible refine Ok_f (by first | assumption | omega) ?_)
    refine Ok_wr ?_
    have wu : WF 999 (adP (vw M 0) a b c) := adP_wf s.2.1 (by omega) (by omega) (by omega) (by rw [bs.1.2.2.1]; omega)
    obtain ⟨d1, d2, d3, d4, d5⟩ := sim_b4 s v1 (fun q i h => f1 q i (by omega))
    obtain ⟨wf1, rf1, rf2⟩ := sim_rf s d5
    have z3 : rd (mup M1 130 4 0) 0 12 = rd M 0 12 + 1 := by
      rw [← vw_s (w := 0) (by omega), d3, ← bs.1.2.2.1]
      exact uset_same _ _ _ _
    refine Ok_ret ⟨by omega, ?_⟩
    unfold m_X6_comes m_X6_comes_22 m_X6_comes_54 m_X6_comes_56
    repeat (first
        | with_reducible refine Ok_g (by first | assumption | omega) ?_
        | with_reducible refine Ok_lt ?_
        | with_reducible refine Ok_t (by first | assumption | omega) ?_
        | with_reducible refine Ok_f (by first | assumption | omega) ?_
        | with_reducible refine Ok_be (e_hasF (by decide) (by assumption)) ?_
        | with_reducible refine Ok_be (e_hasT (by decide) (by assumption)) ?_
        | with_reducible refine Ok_be (e_hasP (by decide) (by assumption)) ?_
        | with_reducible refine Ok_be (e_isCell (by first | assumption | omega)) ?_
        | with_reducible refine Ok_be (e_oor (by assumption) (by decide) (by decide)) ?_
        | with_reducible refine Ok_be (r_isIn (by first | assumption | omega) (by first | decide | omega) (by first | decide | omega)) ?_
        | with_reducible refine Ok_be (r_bound (by assumption) (by decide) (by decide)) ?_
        | with_reducible refine Ok_be (r_isF (by assumption) (by assumption)) ?_
        | with_reducible refine Ok_be (r_isT (by assumption) (by assumption)) ?_
        | with_reducible refine Ok_be (r_isP (by assumption) (by assumption)) ?_
        | with_reducible refine Ok_be (r_isCell (by first | assumption | omega)) ?_)
    refine Ok_bd (r_personMore wf1 (by omega) (by omega) (by omega) (by omega)) ?_
    rintro _ M2 ⟨v2, f2⟩
    refine Ok_wr (Ok_ret ⟨?_, ?_⟩)
    · rw [rd_upne _ _ _ _ _ _ (by omega), ← vw_s (w := 137) (by omega), v2, rf1, z3, ← bs.1.2.2.1]
      unfold adP
      rw [uset_same]
    · exact sim_new s wu d1 d2 d3 d4 (rd_ups _ _ _ (by decide)) (by rw [vw_30, v2, rf1]) (fun q i h => by rw [mup_n _ (by omega), f2 q i (by omega) (by omega)])
theorem q_lies {n : Nat} {M : Mem} {a b : Int} (hn : 2000 ≤ n) (s : Sim M) (ha : I32 a) (hb : I32 b) : Agr (m_X5_lies n M a b) (fun M1 => m_X6_lies n M1 a b) := by
  obtain ⟨wf0, vv0, rf0⟩ := sim_rf s (M1 := M) (fun _ _ _ => rfl)
  have bs := sW s.2.1
  unfold Agr m_X5_lies m_X5_lies_29
  by_cases h0 : a < 0
  · repeat (first
        | with_reducible refine Ok_g (by first | assumption | omega) ?_
        | with_reducible refine Ok_lt ?_
        | with_reducible refine Ok_t (by first | assumption | omega) ?_
        | with_reducible refine Ok_f (by first | assumption | omega) ?_
        | with_reducible refine Ok_be (e_hasF (by decide) (by assumption)) ?_
        | with_reducible refine Ok_be (e_hasT (by decide) (by assumption)) ?_
        | with_reducible refine Ok_be (e_hasP (by decide) (by assumption)) ?_
        | with_reducible refine Ok_be (e_isCell (by first | assumption | omega)) ?_
        | with_reducible refine Ok_be (e_oor (by assumption) (by decide) (by decide)) ?_
        | with_reducible refine Ok_be (r_isIn (by first | assumption | omega) (by first | decide | omega) (by first | decide | omega)) ?_
        | with_reducible refine Ok_be (r_bound (by assumption) (by decide) (by decide)) ?_
        | with_reducible refine Ok_be (r_isF (by assumption) (by assumption)) ?_
        | with_reducible refine Ok_be (r_isT (by assumption) (by assumption)) ?_
        | with_reducible refine Ok_be (r_isP (by assumption) (by assumption)) ?_
        | with_reducible refine Ok_be (r_isCell (by first | assumption | omega)) ?_)
    refine Ok_be (e_refuse 4 (by omega) (by decide) (by decide)) (Ok_ret ⟨by decide, ?_⟩)
    obtain ⟨wf1, rf1, rf2⟩ := sim_rf s (M1 := bump 134 M 4) (fun q i h => bump_ne (by omega))
    unfold m_X6_lies m_X6_lies_38 m_X6_lies_39
    repeat (first
        | with_reducible refine Ok_g (by first | assumption | omega) ?_
        | with_reducible refine Ok_lt ?_
        | with_reducible refine Ok_t (by first | assumption | omega) ?_
        | with_reducible refine Ok_f (by first | assumption | omega) ?_
        | with_reducible refine Ok_be (e_hasF (by decide) (by assumption)) ?_
        | with_reducible refine Ok_be (e_hasT (by decide) (by assumption)) ?_
        | with_reducible refine Ok_be (e_hasP (by decide) (by assumption)) ?_
        | with_reducible refine Ok_be (e_isCell (by first | assumption | omega)) ?_
        | with_reducible refine Ok_be (e_oor (by assumption) (by decide) (by decide)) ?_
        | with_reducible refine Ok_be (r_isIn (by first | assumption | omega) (by first | decide | omega) (by first | decide | omega)) ?_
        | with_reducible refine Ok_be (r_bound (by assumption) (by decide) (by decide)) ?_
        | with_reducible refine Ok_be (r_isF (by assumption) (by assumption)) ?_
        | with_reducible refine Ok_be (r_isT (by assumption) (by assumption)) ?_
        | with_reducible refine Ok_be (r_isP (by assumption) (by assumption)) ?_
        | with_reducible refine Ok_be (r_isCell (by first | assumption | omega)) ?_)
    exact Ok_be (r_no 4 (by omega) (by decide) (by decide)) (Ok_ret ⟨rfl, sim_bump s 4⟩)
  by_cases h9 : 9 < a
  · repeat (first
        | with_reducible refine Ok_g (by first | assumption | omega) ?_
        | with_reducible refine Ok_lt ?_
        | with_reducible refine Ok_t (by first | assumption | omega) ?_
        | with_reducible refine Ok_f (by first | assumption | omega) ?_
        | with_reducible refine Ok_be (e_hasF (by decide) (by assumption)) ?_
        | with_reducible refine Ok_be (e_hasT (by decide) (by assumption)) ?_
        | with_reducible refine Ok_be (e_hasP (by decide) (by assumption)) ?_
        | with_reducible refine Ok_be (e_isCell (by first | assumption | omega)) ?_
        | with_reducible refine Ok_be (e_oor (by assumption) (by decide) (by decide)) ?_
        | with_reducible refine Ok_be (r_isIn (by first | assumption | omega) (by first | decide | omega) (by first | decide | omega)) ?_
        | with_reducible refine Ok_be (r_bound (by assumption) (by decide) (by decide)) ?_
        | with_reducible refine Ok_be (r_isF (by assumption) (by assumption)) ?_
        | with_reducible refine Ok_be (r_isT (by assumption) (by assumption)) ?_
        | with_reducible refine Ok_be (r_isP (by assumption) (by assumption)) ?_
        | with_reducible refine Ok_be (r_isCell (by first | assumption | omega)) ?_)
    refine Ok_be (e_refuse 6 (by omega) (by decide) (by decide)) (Ok_ret ⟨by decide, ?_⟩)
    obtain ⟨wf1, rf1, rf2⟩ := sim_rf s (M1 := bump 134 M 6) (fun q i h => bump_ne (by omega))
    unfold m_X6_lies m_X6_lies_38 m_X6_lies_39
    repeat (first
        | with_reducible refine Ok_g (by first | assumption | omega) ?_
        | with_reducible refine Ok_lt ?_
        | with_reducible refine Ok_t (by first | assumption | omega) ?_
        | with_reducible refine Ok_f (by first | assumption | omega) ?_
        | with_reducible refine Ok_be (e_hasF (by decide) (by assumption)) ?_
        | with_reducible refine Ok_be (e_hasT (by decide) (by assumption)) ?_
        | with_reducible refine Ok_be (e_hasP (by decide) (by assumption)) ?_
        | with_reducible refine Ok_be (e_isCell (by first | assumption | omega)) ?_
        | with_reducible refine Ok_be (e_oor (by assumption) (by decide) (by decide)) ?_
        | with_reducible refine Ok_be (r_isIn (by first | assumption | omega) (by first | decide | omega) (by first | decide | omega)) ?_
        | with_reducible refine Ok_be (r_bound (by assumption) (by decide) (by decide)) ?_
        | with_reducible refine Ok_be (r_isF (by assumption) (by assumption)) ?_
        | with_reducible refine Ok_be (r_isT (by assumption) (by assumption)) ?_
        | with_reducible refine Ok_be (r_isP (by assumption) (by assumption)) ?_
        | with_reducible refine Ok_be (r_isCell (by first | assumption | omega)) ?_)
    exact Ok_be (r_no 6 (by omega) (by decide) (by decide)) (Ok_ret ⟨rfl, sim_bump s 6⟩)
  by_cases hp : 8 ≤ rd M 0 7
  · repeat (first
        | with_reducible refine Ok_g (by first | assumption | omega) ?_
        | with_reducible refine Ok_lt ?_
        | with_reducible refine Ok_t (by first | assumption | omega) ?_
        | with_reducible refine Ok_f (by first | assumption | omega) ?_
        | with_reducible refine Ok_be (e_hasF (by decide) (by assumption)) ?_
        | with_reducible refine Ok_be (e_hasT (by decide) (by assumption)) ?_
        | with_reducible refine Ok_be (e_hasP (by decide) (by assumption)) ?_
        | with_reducible refine Ok_be (e_isCell (by first | assumption | omega)) ?_
        | with_reducible refine Ok_be (e_oor (by assumption) (by decide) (by decide)) ?_
        | with_reducible refine Ok_be (r_isIn (by first | assumption | omega) (by first | decide | omega) (by first | decide | omega)) ?_
        | with_reducible refine Ok_be (r_bound (by assumption) (by decide) (by decide)) ?_
        | with_reducible refine Ok_be (r_isF (by assumption) (by assumption)) ?_
        | with_reducible refine Ok_be (r_isT (by assumption) (by assumption)) ?_
        | with_reducible refine Ok_be (r_isP (by assumption) (by assumption)) ?_
        | with_reducible refine Ok_be (r_isCell (by first | assumption | omega)) ?_)
    refine Ok_be (e_refuse 6 (by omega) (by decide) (by decide)) (Ok_ret ⟨by decide, ?_⟩)
    obtain ⟨wf1, rf1, rf2⟩ := sim_rf s (M1 := bump 134 M 6) (fun q i h => bump_ne (by omega))
    unfold m_X6_lies m_X6_lies_38 m_X6_lies_39
    repeat (first
        | with_reducible refine Ok_g (by first | assumption | omega) ?_
        | with_reducible refine Ok_lt ?_
        | with_reducible refine Ok_t (by first | assumption | omega) ?_
        | with_reducible refine Ok_f (by first | assumption | omega) ?_
        | with_reducible refine Ok_be (e_hasF (by decide) (by assumption)) ?_
        | with_reducible refine Ok_be (e_hasT (by decide) (by assumption)) ?_
        | with_reducible refine Ok_be (e_hasP (by decide) (by assumption)) ?_
        | with_reducible refine Ok_be (e_isCell (by first | assumption | omega)) ?_
        | with_reducible refine Ok_be (e_oor (by assumption) (by decide) (by decide)) ?_
        | with_reducible refine Ok_be (r_isIn (by first | assumption | omega) (by first | decide | omega) (by first | decide | omega)) ?_
        | with_reducible refine Ok_be (r_bound (by assumption) (by decide) (by decide)) ?_
        | with_reducible refine Ok_be (r_isF (by assumption) (by assumption)) ?_
        | with_reducible refine Ok_be (r_isT (by assumption) (by assumption)) ?_
        | with_reducible refine Ok_be (r_isP (by assumption) (by assumption)) ?_
        | with_reducible refine Ok_be (r_isCell (by first | assumption | omega)) ?_)
    exact Ok_be (r_no 6 (by omega) (by decide) (by decide)) (Ok_ret ⟨rfl, sim_bump s 6⟩)
  repeat (first
      | with_reducible refine Ok_g (by first | assumption | omega) ?_
      | with_reducible refine Ok_lt ?_
      | with_reducible refine Ok_t (by first | assumption | omega) ?_
      | with_reducible refine Ok_f (by first | assumption | omega) ?_
      | with_reducible refine Ok_be (e_hasF (by decide) (by assumption)) ?_
      | with_reducible refine Ok_be (e_hasT (by decide) (by assumption)) ?_
      | with_reducible refine Ok_be (e_hasP (by decide) (by assumption)) ?_
      | with_reducible refine Ok_be (e_isCell (by first | assumption | omega)) ?_
      | with_reducible refine Ok_be (e_oor (by assumption) (by decide) (by decide)) ?_
      | with_reducible refine Ok_be (r_isIn (by first | assumption | omega) (by first | decide | omega) (by first | decide | omega)) ?_
      | with_reducible refine Ok_be (r_bound (by assumption) (by decide) (by decide)) ?_
      | with_reducible refine Ok_be (r_isF (by assumption) (by assumption)) ?_
      | with_reducible refine Ok_be (r_isT (by assumption) (by assumption)) ?_
      | with_reducible refine Ok_be (r_isP (by assumption) (by assumption)) ?_
      | with_reducible refine Ok_be (r_isCell (by first | assumption | omega)) ?_)
  refine Ok_bd (e_addThing (.inl rfl) s.2.1 (by omega) hb) ?_
  rintro r M1 (⟨rfl, rfl, hno⟩ | ⟨rfl, hy, v1, f1⟩)
  · repeat (first
        | with_reducible refine Ok_g (by first | assumption | omega) ?_
        | with_reducible refine Ok_lt ?_
        | with_reducible refine Ok_t (by first | assumption | omega) ?_
        | with_reducible refine Ok_f (by first | assumption | omega) ?_)
    refine Ok_be (e_refuse 1 (by omega) (by decide) (by decide)) (Ok_ret ⟨by decide, ?_⟩)
    obtain ⟨wf1, rf1, rf2⟩ := sim_rf s (M1 := bump 134 M1 1) (fun q i h => bump_ne (by omega))
    unfold m_X6_lies m_X6_lies_38 m_X6_lies_39
    repeat (first
        | with_reducible refine Ok_g (by first | assumption | omega) ?_
        | with_reducible refine Ok_lt ?_
        | with_reducible refine Ok_t (by first | assumption | omega) ?_
        | with_reducible refine Ok_f (by first | assumption | omega) ?_
        | with_reducible refine Ok_be (e_hasF (by decide) (by assumption)) ?_
        | with_reducible refine Ok_be (e_hasT (by decide) (by assumption)) ?_
        | with_reducible refine Ok_be (e_hasP (by decide) (by assumption)) ?_
        | with_reducible refine Ok_be (e_isCell (by first | assumption | omega)) ?_
        | with_reducible refine Ok_be (e_oor (by assumption) (by decide) (by decide)) ?_
        | with_reducible refine Ok_be (r_isIn (by first | assumption | omega) (by first | decide | omega) (by first | decide | omega)) ?_
        | with_reducible refine Ok_be (r_bound (by assumption) (by decide) (by decide)) ?_
        | with_reducible refine Ok_be (r_isF (by assumption) (by assumption)) ?_
        | with_reducible refine Ok_be (r_isT (by assumption) (by assumption)) ?_
        | with_reducible refine Ok_be (r_isP (by assumption) (by assumption)) ?_
        | with_reducible refine Ok_be (r_isCell (by first | assumption | omega)) ?_)
    exact Ok_be (r_no 1 (by omega) (by decide) (by decide)) (Ok_ret ⟨rfl, sim_bump s 1⟩)
  · repeat (first
        | with_reducible refine Ok_g (by first | assumption | omega) ?_
        | with_reducible refine Ok_lt ?_
        | with_reducible refine Ok_t (by first | assumption | omega) ?_
        | with_reducible refine Ok_f (by first | assumption | omega) ?_)
    refine Ok_wr ?_
    have wu : WF 999 (adT (vw M 0) a b) := adT_wf s.2.1 (by omega) (by omega) (by rw [bs.1.2.1]; omega)
    obtain ⟨d1, d2, d3, d4, d5⟩ := sim_b4 s v1 (fun q i h => f1 q i (by omega))
    obtain ⟨wf1, rf1, rf2⟩ := sim_rf s d5
    have z3 : rd (mup M1 130 4 0) 0 7 = rd M 0 7 + 1 := by
      rw [← vw_s (w := 0) (by omega), d3, ← bs.1.2.1]
      exact uset_same _ _ _ _
    refine Ok_ret ⟨by omega, ?_⟩
    unfold m_X6_lies m_X6_lies_38 m_X6_lies_39
    repeat (first
        | with_reducible refine Ok_g (by first | assumption | omega) ?_
        | with_reducible refine Ok_lt ?_
        | with_reducible refine Ok_t (by first | assumption | omega) ?_
        | with_reducible refine Ok_f (by first | assumption | omega) ?_
        | with_reducible refine Ok_be (e_hasF (by decide) (by assumption)) ?_
        | with_reducible refine Ok_be (e_hasT (by decide) (by assumption)) ?_
        | with_reducible refine Ok_be (e_hasP (by decide) (by assumption)) ?_
        | with_reducible refine Ok_be (e_isCell (by first | assumption | omega)) ?_
        | with_reducible refine Ok_be (e_oor (by assumption) (by decide) (by decide)) ?_
        | with_reducible refine Ok_be (r_isIn (by first | assumption | omega) (by first | decide | omega) (by first | decide | omega)) ?_
        | with_reducible refine Ok_be (r_bound (by assumption) (by decide) (by decide)) ?_
        | with_reducible refine Ok_be (r_isF (by assumption) (by assumption)) ?_
        | with_reducible refine Ok_be (r_isT (by assumption) (by assumption)) ?_
        | with_reducible refine Ok_be (r_isP (by assumption) (by assumption)) ?_
        | with_reducible refine Ok_be (r_isCell (by first | assumption | omega)) ?_)
    refine Ok_bd (r_thingMore wf1 (by omega) (by omega) (by omega)) ?_
    rintro _ M2 ⟨v2, f2⟩
    refine Ok_wr (Ok_ret ⟨?_, ?_⟩)
    · rw [rd_upne _ _ _ _ _ _ (by omega), ← vw_s (w := 137) (by omega), v2, rf1, z3, ← bs.1.2.1]
      unfold adT
      rw [uset_same]
    · exact sim_new s wu d1 d2 d3 d4 (rd_ups _ _ _ (by decide)) (by rw [vw_30, v2, rf1]) (fun q i h => by rw [mup_n _ (by omega), f2 q i (by omega) (by omega)])
