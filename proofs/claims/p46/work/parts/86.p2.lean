/-! what an hour does -/
theorem cn_le_of {C D : Nat → Bool} {k i : Nat} (h : ∀ j, i ≤ j → j < i + k → C j = true → D j = true) : cn C k i ≤ cn D k i := cn_sub k i h
theorem cn_zero {C : Nat → Bool} : ∀ k i, (∀ j, i ≤ j → j < i + k → C j = false) → cn C k i = 0
  | 0, _, _ => rfl
  | k + 1, i, h => by
    show (if C i then 1 else 0) + cn C k (i + 1) = 0
    rw [h i (by omega) (by omega), cn_zero k (i + 1) (fun j a b => h j (by omega) (by omega))]
    rfl
/-- what a grab does -/
theorem grab_k (p : Nat) : ∀ k t left (u : US) {a b : Nat}, a ≠ 6 → grabS p k t left u a b = u a b
  | 0, _, _, _, _, _, _ => rfl
  | k + 1, t, left, u, a, b, h => by
    show (if left ≤ 0 then u else if mayS u p t then grabS p k (t + 1) (left - 1) (uset u 6 t p) else grabS p k (t + 1) left u) a b = _
    by_cases c : left ≤ 0
    · rw [if_pos c]
    · rw [if_neg c]
      by_cases d : mayS u p t
      · rw [if_pos d, grab_k p k _ _ _ h, uset_nk _ _ h]
      · rw [if_neg d, grab_k p k _ _ _ h]
theorem grab_t (p : Nat) : ∀ k t left (u : US) (j : Nat), grabS p k t left u 6 j = u 6 j ∨ (t ≤ j ∧ j < t + k ∧ grabS p k t left u 6 j = (p : Int) ∧ u 5 j = u 10 p ∧ 1 ≤ left)
  | 0, _, _, _, _ => .inl rfl
  | k + 1, t, left, u, j => by
    show (if left ≤ 0 then u else if mayS u p t then grabS p k (t + 1) (left - 1) (uset u 6 t p) else grabS p k (t + 1) left u) 6 j = u 6 j ∨ (t ≤ j ∧ j < t + (k + 1) ∧ (if left ≤ 0 then u else if mayS u p t then grabS p k (t + 1) (left - 1) (uset u 6 t p) else grabS p k (t + 1) left u) 6 j = (p : Int) ∧ u 5 j = u 10 p ∧ 1 ≤ left)
    by_cases c : left ≤ 0
    · rw [if_pos c]; exact .inl rfl
    · rw [if_neg c]
      by_cases d : mayS u p t
      · rw [if_pos d]
        have e5 : ∀ x, uset u 6 t p 5 x = u 5 x := fun x => uset_nk _ _ (by decide)
        have e10 : ∀ x, uset u 6 t p 10 x = u 10 x := fun x => uset_nk _ _ (by decide)
        rcases grab_t p k (t + 1) (left - 1) (uset u 6 t p) j with h | ⟨h1, h2, h3, h4, h5⟩
        · rw [h]
          by_cases e : j = t
          · subst e
            rw [uset_same]
            exact .inr ⟨by omega, by omega, rfl, d.1, by omega⟩
          · rw [uset_ni _ _ e]
            exact .inl rfl
        · rw [e5, e10] at h4
          exact .inr ⟨by omega, by omega, h3, h4, by omega⟩
      · rw [if_neg d]
        rcases grab_t p k (t + 1) left u j with h | ⟨h1, h2, h3, h4, h5⟩
        · exact .inl h
        · exact .inr ⟨by omega, by omega, h3, h4, h5⟩
theorem grab_n (p : Nat) : ∀ k t left (u : US), cn (fun j => decide (grabS p k t left u 6 j = (p : Int) ∧ u 6 j ≠ (p : Int))) k t ≤ left.toNat
  | 0, _, _, _ => Nat.zero_le _
  | k + 1, t, left, u => by
    by_cases c : left ≤ 0
    · have e : grabS p (k + 1) t left u = u := if_pos c
      rw [e, cn_zero (k + 1) t (fun j _ _ => decide_eq_false (fun h => h.2 h.1))]
      exact Nat.zero_le _
    · by_cases d : mayS u p t
      · have e : grabS p (k + 1) t left u = grabS p k (t + 1) (left - 1) (uset u 6 t p) := (if_neg c).trans (if_pos d)
        rw [e]
        have ih := grab_n p k (t + 1) (left - 1) (uset u 6 t p)
        have h1 : cn (fun j => decide (grabS p k (t + 1) (left - 1) (uset u 6 t p) 6 j = (p : Int) ∧ u 6 j ≠ (p : Int))) k (t + 1) ≤ cn (fun j => decide (grabS p k (t + 1) (left - 1) (uset u 6 t p) 6 j = (p : Int) ∧ uset u 6 t p 6 j ≠ (p : Int))) k (t + 1) := by
          refine cn_le_of (fun j a b h => ?_)
          rw [uset_ni _ _ (by omega)]
          exact h
        show (if decide (grabS p k (t + 1) (left - 1) (uset u 6 t p) 6 t = (p : Int) ∧ u 6 t ≠ (p : Int)) = true then 1 else 0) + cn _ k (t + 1) ≤ left.toNat
        have h2 : ∀ x : Bool, (if x = true then 1 else 0) ≤ 1 := by intro x; cases x <;> decide
        have := h2 (decide (grabS p k (t + 1) (left - 1) (uset u 6 t p) 6 t = (p : Int) ∧ u 6 t ≠ (p : Int)))
        omega
      · have e : grabS p (k + 1) t left u = grabS p k (t + 1) left u := (if_neg c).trans (if_neg d)
        rw [e]
        have ih := grab_n p k (t + 1) left u
        have e2 : grabS p k (t + 1) left u 6 t = u 6 t := by
          rcases grab_t p k (t + 1) left u t with h | h
          · exact h
          · omega
        show (if decide (grabS p k (t + 1) left u 6 t = (p : Int) ∧ u 6 t ≠ (p : Int)) = true then 1 else 0) + cn _ k (t + 1) ≤ left.toNat
        rw [decide_eq_false (fun h => h.2 (e2.symm.trans h.1))]
        simp only [Bool.false_eq_true, if_false]
        omega
/-! steps -/
def Btw (a x b : Int) : Prop := (a ≤ x ∧ x ≤ b) ∨ (b ≤ x ∧ x ≤ a)
theorem step_b {c to : Int} (hc : 0 ≤ c ∧ c ≤ 23) (ht : 0 ≤ to ∧ to ≤ 23) : (0 ≤ stepS c to ∧ stepS c to ≤ 23) ∧ Btw (c / 6) (stepS c to / 6) (to / 6) ∧ Btw (c % 6) (stepS c to % 6) (to % 6) ∧ farS to (stepS c to) = (if c = to then 0 else farS to c - 1) := by
  unfold stepS Btw farS ab
  omega
theorem far_0 {a b : Int} (ha : 0 ≤ a ∧ a ≤ 23) (hb : 0 ≤ b ∧ b ≤ 23) : 0 ≤ farS a b ∧ (farS a b = 0 ↔ a = b) := by
  unfold farS ab
  omega
theorem walk_b {to : Int} (ht : 0 ≤ to ∧ to ≤ 23) : ∀ k c, 0 ≤ c ∧ c ≤ 23 → (0 ≤ walkS to k c ∧ walkS to k c ≤ 23) ∧ Btw (c / 6) (walkS to k c / 6) (to / 6) ∧ Btw (c % 6) (walkS to k c % 6) (to % 6) ∧ farS to (walkS to k c) = (if farS to c ≤ k then 0 else farS to c - k)
  | 0, c, hc => by
    have := far_0 ht hc
    show (0 ≤ c ∧ c ≤ 23) ∧ Btw (c / 6) (c / 6) (to / 6) ∧ Btw (c % 6) (c % 6) (to % 6) ∧ farS to c = _
    unfold Btw
    omega
  | k + 1, c, hc => by
    obtain ⟨s1, s2, s3, s4⟩ := step_b hc ht
    obtain ⟨w1, w2, w3, w4⟩ := walk_b ht k (stepS c to) s1
    have h1 := far_0 ht hc
    show (0 ≤ walkS to k (stepS c to) ∧ walkS to k (stepS c to) ≤ 23) ∧ Btw (c / 6) (walkS to k (stepS c to) / 6) (to / 6) ∧ Btw (c % 6) (walkS to k (stepS c to) % 6) (to % 6) ∧ farS to (walkS to k (stepS c to)) = _
    refine ⟨w1, ?_, ?_, ?_⟩
    · unfold Btw at *; omega
    · unfold Btw at *; omega
    · rw [w4]
      by_cases e : c = to
      · rw [if_pos e] at s4
        have h2 := h1.2.mpr e.symm
        omega
      · rw [if_neg e] at s4
        omega
theorem btw_far {a x b : Int} (h1 : Btw (a / 6) (x / 6) (b / 6)) (h2 : Btw (a % 6) (x % 6) (b % 6)) : farS b a = farS b x + farS x a := by
  unfold Btw at *
  unfold farS ab
  omega
theorem walk_far {to : Int} (ht : 0 ≤ to ∧ to ≤ 23) (k : Nat) {c : Int} (hc : 0 ≤ c ∧ c ≤ 23) : farS (walkS to k c) c = (if farS to c ≤ k then farS to c else k) ∧ farS (walkS to k c) c ≤ k := by
  obtain ⟨w1, w2, w3, w4⟩ := walk_b ht k c hc
  have := btw_far w2 w3
  have := far_0 ht hc
  omega
/-! the persons one by one -/
def Rel (T : Nat) (d : US) (p : Nat) (v : US) : Prop :=
  (∀ a b, a ≠ 6 → a ≠ 10 → v a b = d a b) ∧ (∀ q, p ≤ q → v 10 q = d 10 q) ∧
  (∀ t, v 6 t = d 6 t ∨ ∃ q, q < p ∧ t < T ∧ v 6 t = (q : Int) ∧ d 5 t = v 10 q ∧ 1 ≤ grabsS (d 7 q) (d 8 q)) ∧
  (∀ q, q < p → cn (fun t => decide (v 6 t = (q : Int) ∧ d 6 t ≠ (q : Int))) T 0 ≤ (grabsS (d 7 q) (d 8 q)).toNat) ∧
  (∀ q t, p ≤ q → v 6 t = (q : Int) → d 6 t = (q : Int)) ∧
  (∀ q, q < p → farS (v 10 q) (d 10 q) ≤ paceS (d 7 q) (d 8 q) ∧ 0 ≤ v 10 q ∧ v 10 q ≤ 23) ∧
  (0 < p → v 10 0 = walkS (goalS d 0 (d 0 13)) (paceS (d 7 0) (d 8 0)).toNat (d 10 0)) ∧
  (p = 0 → v = d)
theorem rel_0 (T : Nat) (d : US) : Rel T d 0 d :=
  ⟨fun _ _ _ _ => rfl, fun _ _ => rfl, fun _ => .inl rfl, fun q h => absurd h (by omega), fun _ _ _ h => h, fun q h => absurd h (by omega), fun h => absurd h (by omega), fun _ => rfl⟩
theorem rel_s {T : Nat} {d v : US} {H : Int} {p : Nat} (wf : WF H v) (hT : d 0 7 = T) (h : Rel T d p v) : Rel T d (p + 1) (personS p v) := by
  obtain ⟨r1, r2, r3, r4, r5, r6, r7, r8⟩ := h
  have e7 : v 7 p = d 7 p := r1 7 p (by decide) (by decide)
  have e8 : v 8 p = d 8 p := r1 8 p (by decide) (by decide)
  have e10 : v 10 p = d 10 p := r2 p (Nat.le_refl _)
  have wp := wFp wf p
  have pb := paceS_b (k := v 7 p) wp.2.1
  have gb := goalS_b wf p (v 0 13)
  have wfar := walk_far gb (paceS (v 7 p) (v 8 p)).toNat wp.2.2.2
  have wb := (walk_b gb (paceS (v 7 p) (v 8 p)).toNat _ wp.2.2.2).1
  obtain ⟨x, hx⟩ : ∃ x, walkS (goalS v p (v 0 13)) (paceS (v 7 p) (v 8 p)).toNat (v 10 p) = x := ⟨_, rfl⟩
  obtain ⟨u1, hu1⟩ : ∃ u1, uset v 10 p x = u1 := ⟨_, rfl⟩
  have a1 : ∀ a b, a ≠ 10 → u1 a b = v a b := fun a b h => by rw [← hu1, uset_nk _ _ h]
  have a2 : u1 10 p = x := by rw [← hu1, uset_same]
  have a3 : ∀ q, q ≠ p → u1 10 q = v 10 q := fun q h => by rw [← hu1, uset_ni _ _ h]
  have eT : (u1 0 7).toNat = T := by rw [a1 0 7 (by decide), r1 0 7 (by decide) (by decide), hT]; omega
  have eg : grabsS (u1 7 p) (u1 8 p) = grabsS (d 7 p) (d 8 p) := by rw [a1 7 p (by decide), a1 8 p (by decide), e7, e8]
  have eS : personS p v = if u1 0 14 ≤ fogS u1 (u1 10 p) then grabS p T 0 (grabsS (d 7 p) (d 8 p)) u1 else u1 := by
    rw [← eT, ← eg, ← hu1, ← hx]
    rfl
  have main : ∀ w : US, (∀ a b, a ≠ 6 → w a b = u1 a b) → (∀ t, w 6 t = u1 6 t ∨ (t < T ∧ w 6 t = (p : Int) ∧ u1 5 t = u1 10 p ∧ 1 ≤ grabsS (d 7 p) (d 8 p))) → (cn (fun t => decide (w 6 t = (p : Int) ∧ u1 6 t ≠ (p : Int))) T 0 ≤ (grabsS (d 7 p) (d 8 p)).toNat) → Rel T d (p + 1) w := by
    intro w h1 h2 h3
    have w10 : ∀ q, q ≠ p → w 10 q = v 10 q := fun q h => by rw [h1 10 q (by decide), a3 q h]
    have w10p : w 10 p = x := by rw [h1 10 p (by decide), a2]
    have w6 : ∀ t, w 6 t = v 6 t ∨ (t < T ∧ w 6 t = (p : Int) ∧ d 5 t = w 10 p ∧ 1 ≤ grabsS (d 7 p) (d 8 p)) := by
      intro t
      rcases h2 t with c | ⟨c1, c2, c3, c4⟩
      · exact .inl (c.trans (a1 6 t (by decide)))
      · refine .inr ⟨c1, c2, ?_, c4⟩
        rw [w10p, ← a2, ← c3, a1 5 t (by decide), r1 5 t (by decide) (by decide)]
    refine ⟨fun a b h6 h10 => by rw [h1 a b h6, a1 a b h10, r1 a b h6 h10], fun q hq => by rw [w10 q (by omega)]; exact r2 q (by omega), fun t => ?_, fun q hq => ?_, fun q t hq hw => ?_, fun q hq => ?_, fun _ => ?_, fun h => absurd h (by omega)⟩
    · rcases w6 t with c | ⟨c1, c2, c3, c4⟩
      · rcases r3 t with d1 | ⟨q, d1, d2, d3, d4, d5⟩
        · exact .inl (c.trans d1)
        · exact .inr ⟨q, by omega, d2, c.trans d3, by rw [w10 q (by omega)]; exact d4, d5⟩
      · exact .inr ⟨p, by omega, c1, c2, c3, c4⟩
    · by_cases e : q = p
      · subst e
        refine Nat.le_trans (cn_le_of (fun t _ _ ht => ?_)) h3
        have ht := of_decide_eq_true ht
        refine decide_eq_true ⟨ht.1, fun c => ht.2 (r5 q t (Nat.le_refl _) ?_)⟩
        rw [← a1 6 t (by decide)]; exact c
      · refine Nat.le_trans (cn_le_of (fun t _ _ ht => ?_)) (r4 q (by omega))
        have ht := of_decide_eq_true ht
        refine decide_eq_true ⟨?_, ht.2⟩
        rcases w6 t with c | ⟨_, c2, _⟩
        · rw [← c]; exact ht.1
        · have := ht.1; omega
    · rcases w6 t with c | ⟨_, c2, _⟩
      · exact r5 q t (by omega) (c.symm.trans hw)
      · omega
    · by_cases e : q = p
      · subst e
        rw [w10p, ← e10, ← e7, ← e8, ← hx]
        omega
      · rw [w10 q e]
        exact r6 q (by omega)
    · by_cases e : p = 0
      · subst e
        rw [w10p, ← hx, r8 rfl]
      · rw [w10 0 (by omega)]
        exact r7 (by omega)
  rw [eS]
  by_cases f : u1 0 14 ≤ fogS u1 (u1 10 p)
  · rw [if_pos f]
    refine main _ (fun a b h => grab_k p _ _ _ _ h) (fun t => ?_) (grab_n p _ _ _ _)
    rcases grab_t p T 0 (grabsS (d 7 p) (d 8 p)) u1 t with c | ⟨_, c1, c2, c3, c4⟩
    · exact .inl c
    · exact .inr ⟨by omega, c2, c3, c4⟩
  · rw [if_neg f]
    refine main _ (fun a b _ => rfl) (fun t => .inl rfl) ?_
    rw [cn_zero T 0 (fun j _ _ => decide_eq_false (fun h => h.2 h.1))]
    exact Nat.zero_le _
theorem rel_all {T : Nat} {d : US} {H : Int} (hT : d 0 7 = T) : ∀ k p (v : US), p + k ≤ 5 → WF H v → Rel T d p v → Rel T d (p + k) (frm (fun p u => personS p u) k p v)
  | 0, p, v, _, _, h => h
  | k + 1, p, v, hp, wf, h => by
    have := rel_all hT k (p + 1) (personS p v) (by omega) (personS_wf wf (by omega)) (rel_s wf hT h)
    rw [show p + (k + 1) = p + 1 + k by omega]
    exact this
theorem drop_6 : ∀ k i (u : US) (t : Nat), frm (fun t u => if u 0 14 ≤ fogS u (u 5 t) then u else uset u 6 t (-1)) k i u 6 t = u 6 t ∨ frm (fun t u => if u 0 14 ≤ fogS u (u 5 t) then u else uset u 6 t (-1)) k i u 6 t = -1
  | 0, _, _, _ => .inl rfl
  | k + 1, i, u, t => by
    show frm _ k (i + 1) (if u 0 14 ≤ fogS u (u 5 i) then u else uset u 6 i (-1)) 6 t = u 6 t ∨ frm _ k (i + 1) (if u 0 14 ≤ fogS u (u 5 i) then u else uset u 6 i (-1)) 6 t = -1
    by_cases c : u 0 14 ≤ fogS u (u 5 i)
    · rw [if_pos c]; exact drop_6 k (i + 1) u t
    · rw [if_neg c]
      rcases drop_6 k (i + 1) (uset u 6 i (-1)) t with h | h
      · by_cases e : t = i
        · subst e
          rw [uset_same] at h
          exact .inr h
        · rw [uset_ni _ _ e] at h
          exact .inl h
      · exact .inr h
/-- things are somebody's of those who are there -/
def OwnOk (u : US) : Prop := ∀ t : Nat, (t : Int) < u 0 7 → u 6 t < u 0 12
/-- an hour, as the law asks of it -/
theorem hour_law {u : US} (wf : WF 999 u) (ow : OwnOk u) :
    (∀ a b, a ≠ 6 → a ≠ 10 → ¬ (a = 0 ∧ b = 13) → hourS u a b = u a b) ∧ hourS u 0 13 = u 0 13 + 1 ∧
    (∀ t, hourS u 6 t = u 6 t ∨ hourS u 6 t = -1 ∨ ∃ q : Nat, (q : Int) < u 0 12 ∧ hourS u 6 t = (q : Int) ∧ u 5 t = hourS u 10 q ∧ 1 ≤ grabsS (u 7 q) (u 8 q)) ∧
    (∀ q : Nat, (q : Int) < u 0 12 → cn (fun t => decide (hourS u 6 t = (q : Int) ∧ u 6 t ≠ (q : Int))) (u 0 7).toNat 0 ≤ (grabsS (u 7 q) (u 8 q)).toNat) ∧
    (∀ q : Nat, (q : Int) < u 0 12 → farS (hourS u 10 q) (u 10 q) ≤ paceS (u 7 q) (u 8 q) ∧ 0 ≤ hourS u 10 q ∧ hourS u 10 q ≤ 23) ∧
    (0 < u 0 12 → u 7 0 ≠ 1 → u 7 0 ≠ 2 → u 7 0 ≠ 7 → farS (hourS u 10 0) (u 10 0) = (if paceS (u 7 0) (u 8 0) < farS (goalS u 0 (u 0 13 + 1)) (u 10 0) then paceS (u 7 0) (u 8 0) else farS (goalS u 0 (u 0 13 + 1)) (u 10 0))) ∧
    OwnOk (hourS u) := by
  have b := wF wf
  have w1 : WF 1000 (uset u 0 13 (u 0 13 + 1)) := WF_set (WF_le wf (by omega)) 0 13 (by show (0 : Int) ≤ _; omega) (by show _ ≤ (1000 : Int); omega)
  obtain ⟨d, hd⟩ : ∃ d, dropS (uset u 0 13 (u 0 13 + 1)) = d := ⟨_, rfl⟩
  have wd : WF 1000 d := by rw [← hd]; exact dropS_wf w1
  have d1 : ∀ a b, a ≠ 6 → d a b = uset u 0 13 (u 0 13 + 1) a b := fun a b h => by rw [← hd]; exact dropS_o _ h
  have d0 : ∀ a b, a ≠ 6 → ¬ (a = 0 ∧ b = 13) → d a b = u a b := by
    intro a b h h'
    rw [d1 a b h]
    show (if a = 0 ∧ b = 13 then _ else _) = _
    rw [if_neg h']
  have d13 : d 0 13 = u 0 13 + 1 := by rw [d1 0 13 (by decide), uset_same]
  have d6 : ∀ t, d 6 t = u 6 t ∨ d 6 t = -1 := by
    intro t
    have := drop_6 (uset u 0 13 (u 0 13 + 1) 0 7).toNat 0 (uset u 0 13 (u 0 13 + 1)) t
    rw [uset_nk u (u 0 13 + 1) (show 6 ≠ 0 by decide)] at this
    rw [← hd]
    exact this
  have eT : d 0 7 = ((u 0 7).toNat : Int) := by rw [d0 0 7 (by decide) (by decide)]; omega
  have eP : (uset u 0 13 (u 0 13 + 1) 0 12).toNat = (u 0 12).toNat := by rw [uset_ni _ _ (by decide)]
  have eH : hourS u = frm (fun p u => personS p u) (u 0 12).toNat 0 d := by
    rw [← hd, ← eP]
    show frm _ (u 0 12).toNat 0 _ = _
    rw [eP]
  have RA := rel_all (H := 1000) eT (u 0 12).toNat 0 d (by omega) wd (rel_0 _ d)
  rw [← eH, Nat.zero_add] at RA
  obtain ⟨r1, r2, r3, r4, r5, r6, r7, r8⟩ := RA
  have k7 : ∀ q, d 7 q = u 7 q := fun q => d0 7 q (by decide) (by omega)
  have k8 : ∀ q, d 8 q = u 8 q := fun q => d0 8 q (by decide) (by omega)
  have k10 : ∀ q, d 10 q = u 10 q := fun q => d0 10 q (by decide) (by omega)
  have k5 : ∀ q, d 5 q = u 5 q := fun q => d0 5 q (by decide) (by omega)
  refine ⟨fun a b h6 h10 h13 => hourS_o u h6 h10 h13, ?_, fun t => ?_, fun q hq => ?_, fun q hq => ?_, fun h0 n1 n2 n7 => ?_, fun t ht => ?_⟩
  · rw [r1 0 13 (by decide) (by decide), d13]
  · rcases r3 t with c | ⟨q, c1, c2, c3, c4, c5⟩
    · rcases d6 t with e | e
      · exact .inl (c.trans e)
      · exact .inr (.inl (c.trans e))
    · exact .inr (.inr ⟨q, by omega, c3, by rw [← k5]; exact c4, by rw [← k7, ← k8]; exact c5⟩)
  · refine Nat.le_trans (cn_le_of (fun t _ _ ht => ?_)) (by rw [← k7, ← k8]; exact r4 q (by omega))
    have ht := of_decide_eq_true ht
    refine decide_eq_true ⟨ht.1, fun c => ?_⟩
    rcases d6 t with e | e
    · exact ht.2 (e.symm.trans c)
    · omega
  · have := r6 q (by omega)
    rw [k10, k7, k8] at this
    exact this
  · have e := r7 (by omega)
    rw [e, k10, k7, k8]
    have wp := wFp wf 0
    have pb := paceS_b (k := u 7 0) wp.2.1
    have gb := goalS_b wd 0 (d 0 13)
    have wf2 := (walk_far gb (paceS (u 7 0) (u 8 0)).toNat wp.2.2.2).1
    rw [wf2]
    have eg : goalS d 0 (d 0 13) = goalS u 0 (u 0 13 + 1) := by
      rw [d13]
      unfold goalS
      rw [k7]
      have ea : ∀ h, airyS d h = airyS u h := by
        intro h
        have e21 : d 0 21 = u 0 21 := d0 0 21 (by decide) (by decide)
        have e2 : ∀ c h, airS d c h = airS u c h := fun c h => airS_c c h (d0 0 3 (by decide) (by decide)) (fun i _ => d0 1 i (by decide) (by omega)) (fun i _ => d0 2 i (by decide) (by omega)) (fun i _ => d0 3 i (by decide) (by omega))
        unfold airyS airOS
        simp only [e21, e2]
      rw [if_neg n1, if_neg n2, if_neg n1, if_neg n2, if_neg n7, if_neg n7, ea, d0 9 0 (by decide) (by decide)]
    rw [eg]
    have fb := far_0 (goalS_b wf 0 (u 0 13 + 1)) wp.2.2.2
    omega
  · rw [show hourS u 0 12 = u 0 12 from hourS_o u (by decide) (by decide) (by decide)]
    rw [show hourS u 0 7 = u 0 7 from hourS_o u (by decide) (by decide) (by decide)] at ht
    have := ow t ht
    rcases r3 t with c | ⟨q, c1, c2, c3, c4, c5⟩
    · rw [c]
      rcases d6 t with e | e
      · rw [e]; exact this
      · have := wd 0 12
        have w := wd 6 t
        have := (wF wf).2.2.1
        omega
    · omega
