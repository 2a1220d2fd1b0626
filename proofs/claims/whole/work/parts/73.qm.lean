/-! a statement read -/
theorem r_one {n len D tl s q : Nat} {M : Mem} {L : Nat → Int} (hn : 2000 ≤ n) (hl : len ≤ 96) (hD : D ≤ 2) (hD1 : 1 ≤ D) (htl : tl < 99) (hts : 3 * s ≤ tl) (hB : ∀ i, 0 ≤ L i ∧ L i ≤ 255) (hL : ∀ i, i < len → rd M 151 i = L i) (h22 : rd M 137 22 = len) (h23 : rd M 137 23 = q) (hq : q ≤ len) (h25 : rd M 137 25 = tl) :
    Ok (m_X6_readsDigits n M (D : Int)) (fun r M' => KS M M' s ∧ (match chk L len D q with
      | some x => r = 0 ∧ rd M' 137 23 = x
      | none => r = 1 ∧ rd M' 137 23 = ((q + D : Nat) : Int) ∧ rd M' 137 25 = ((tl + 1 : Nat) : Int) ∧ rd M' 154 tl = vaS L D q 0 ∧ ∀ j, j ≠ tl → M' 154 j = M 154 j)) := by
  have iv : I32 (vaS L D q 0) := by
    have a := hB q
    have b := hB (q + 1)
    have : D = 1 ∨ D = 2 := by omega
    rcases this with rfl | rfl
    · show I32 (10 * 0 + L q - 48)
      omega
    · show I32 (10 * (10 * 0 + L q - 48) + L (q + 1) - 48)
      omega
  unfold m_X6_readsDigits
  refine Ok_mono (r_digits_4 (n := n) (s := s) hl (by omega) htl hts D n 0 q 0 M (by omega) (by omega) hL h22 h23 hq h25 iv) ?_
  rintro r M' ⟨h1, _, h2⟩
  exact ⟨h1, h2⟩
/-- what was read -/
def Tld (L : Nat → Int) (M : Mem) (p s : Nat) : Prop := rd M 154 (3 * s) = nuX L p ∧ (1 < dgN (L p) → L p ≠ 104 → rd M 154 (3 * s + 1) = nuY L p) ∧ (L p = 102 ∨ L p = 112 → rd M 154 (3 * s + 2) = nuZ L p)
def RaP (L : Nat → Int) (len p s : Nat) (M : Mem) (r : Int) (M' : Mem) : Prop := KS M M' s ∧ (match chk L len (dgN (L p)) (p + 1) with
  | some x => r = 0 ∧ rd M' 137 23 = x
  | none => r = 1 ∧ rd M' 137 23 = ((p + dgN (L p) + 1 : Nat) : Int) ∧ Tld L M' p s)
theorem KS_o {M M' : Mem} {s : Nat} (h : KS M M' s) : (∀ i, rd M' 151 i = rd M 151 i) ∧ rd M' 137 22 = rd M 137 22 := ⟨fun i => rd_of (h _ _ (by omega) (by omega) trivial), rd_of (h _ _ (by omega) (by omega) trivial)⟩
theorem r_all_102 {n len p s : Nat} {M : Mem} {L : Nat → Int} (hn : 2000 ≤ n) (hl : len ≤ 96) (hs : s < 33) (hB : ∀ i, 0 ≤ L i ∧ L i ≤ 255) (hL : ∀ i, i < len → rd M 151 i = L i) (h22 : rd M 137 22 = len) (h23 : rd M 137 23 = ((p + 1 : Nat) : Int)) (hq : p + 1 ≤ len) (h25 : rd M 137 25 = ((3 * s : Nat) : Int)) (hC : L p = 102) :
    Ok (m_X6_readsAll n M 102) (fun r M' => RaP L len p s M r M') := by
  have hd : dgN (L p) = 3 := by rw [hC]; decide
  unfold m_X6_readsAll m_X6_readsAll_136 m_X6_readsAll_186
  repeat (first
      | with_reducible refine Ok_g (by first | assumption | omega) ?_
      | with_reducible refine Ok_lt ?_
      | with_reducible refine Ok_t (by first | assumption | omega) ?_
      | with_reducible refine Ok_f (by first | assumption | omega) ?_)
  unfold RaP
  rw [hd]
  refine Ok_bd (r_one (D := 1) (s := s) (q := p + 1 + 0) (tl := 3 * s + 0) hn hl (by decide) (by decide) (by omega) (by omega) hB hL h22 h23 hq h25) ?_
  rintro r M1 ⟨k1, a1⟩
  have e1 := chk_add (L := L) (len := len) 1 2 (p + 1 + 0)
  cases c1 : chk L len 1 (p + 1 + 0) with
  | some x =>
    rw [c1] at a1
    obtain ⟨b1, b2⟩ := a1
    have ch : chk L len 3 (p + 1) = some x := by
      have q0 : chk L len 3 (p + 1) = chk L len 3 (p + 1 + 0) := rfl
      rw [q0]
      rw [show chk L len 3 (p + 1 + 0) = _ from e1, c1]
    repeat (first
        | with_reducible refine Ok_g (by first | assumption | omega) ?_
        | with_reducible refine Ok_lt ?_
        | with_reducible refine Ok_t (by first | assumption | omega) ?_
        | with_reducible refine Ok_f (by first | assumption | omega) ?_)
    refine Ok_ret ⟨k1, ?_⟩
    try rw [ch]
    exact ⟨by first | rfl | exact b1, b2⟩
  | none =>
    rw [c1] at a1
    obtain ⟨r1, s1, t1, v1, w1⟩ := a1
    have o1 := KS_o k1
    have hL1 : ∀ i, i < len → rd M1 151 i = L i := fun i hi => by rw [o1.1]; exact hL i hi
    repeat (first
        | with_reducible refine Ok_g (by first | assumption | omega) ?_
        | with_reducible refine Ok_lt ?_
        | with_reducible refine Ok_t (by first | assumption | omega) ?_
        | with_reducible refine Ok_f (by first | assumption | omega) ?_)
    refine Ok_bd (r_one (D := 1) (s := s) (q := p + 1 + 1) (tl := 3 * s + 1) hn hl (by decide) (by decide) (by omega) (by omega) hB hL1 (by rw [o1.2]; exact h22) (by rw [s1]; try omega) (by have := chk_none _ _ c1 0 (by decide); omega) (by rw [t1]; try omega)) ?_
    rintro r M2 ⟨k2, a2⟩
    have e2 := chk_add (L := L) (len := len) 1 1 (p + 1 + 1)
    cases c2 : chk L len 1 (p + 1 + 1) with
    | some x =>
      rw [c2] at a2
      obtain ⟨b1, b2⟩ := a2
      have ch : chk L len 3 (p + 1) = some x := by
        have q0 : chk L len 3 (p + 1) = chk L len 3 (p + 1 + 0) := rfl
        rw [q0]
        rw [show chk L len 3 (p + 1 + 0) = _ from e1, c1]
        show chk L len 2 (p + 1 + 1) = some x
        rw [show chk L len 2 (p + 1 + 1) = _ from e2, c2]
      repeat (first
          | with_reducible refine Ok_g (by first | assumption | omega) ?_
          | with_reducible refine Ok_lt ?_
          | with_reducible refine Ok_t (by first | assumption | omega) ?_
          | with_reducible refine Ok_f (by first | assumption | omega) ?_)
      refine Ok_ret ⟨(KS_trans k1 k2), ?_⟩
      try rw [ch]
      exact ⟨by first | rfl | exact b1, b2⟩
    | none =>
      rw [c2] at a2
      obtain ⟨r2, s2, t2, v2, w2⟩ := a2
      have o2 := KS_o k2
      have hL2 : ∀ i, i < len → rd M2 151 i = L i := fun i hi => by rw [o2.1]; exact hL1 i hi
      repeat (first
          | with_reducible refine Ok_g (by first | assumption | omega) ?_
          | with_reducible refine Ok_lt ?_
          | with_reducible refine Ok_t (by first | assumption | omega) ?_
          | with_reducible refine Ok_f (by first | assumption | omega) ?_)
      refine Ok_bd (r_one (D := 1) (s := s) (q := p + 1 + 2) (tl := 3 * s + 2) hn hl (by decide) (by decide) (by omega) (by omega) hB hL2 (by rw [o2.2]; exact (by rw [o1.2]; exact h22)) (by rw [s2]; try omega) (by have := chk_none _ _ c2 0 (by decide); omega) (by rw [t2]; try omega)) ?_
      rintro r M3 ⟨k3, a3⟩
      cases c3 : chk L len 1 (p + 1 + 2) with
      | some x =>
        rw [c3] at a3
        obtain ⟨b1, b2⟩ := a3
        have ch : chk L len 3 (p + 1) = some x := by
          have q0 : chk L len 3 (p + 1) = chk L len 3 (p + 1 + 0) := rfl
          rw [q0]
          rw [show chk L len 3 (p + 1 + 0) = _ from e1, c1]
          show chk L len 2 (p + 1 + 1) = some x
          rw [show chk L len 2 (p + 1 + 1) = _ from e2, c2]
          show chk L len 1 (p + 1 + 2) = some x
          rw [c3]
        repeat (first
            | with_reducible refine Ok_g (by first | assumption | omega) ?_
            | with_reducible refine Ok_lt ?_
            | with_reducible refine Ok_t (by first | assumption | omega) ?_
            | with_reducible refine Ok_f (by first | assumption | omega) ?_)
        refine Ok_ret ⟨(KS_trans (KS_trans k1 k2) k3), ?_⟩
        try rw [ch]
        exact ⟨by first | rfl | exact b1, b2⟩
      | none =>
        rw [c3] at a3
        obtain ⟨r3, s3, t3, v3, w3⟩ := a3
        have o3 := KS_o k3
        have hL3 : ∀ i, i < len → rd M3 151 i = L i := fun i hi => by rw [o3.1]; exact hL2 i hi
        have ch : chk L len 3 (p + 1) = none := by
          have q0 : chk L len 3 (p + 1) = chk L len 3 (p + 1 + 0) := rfl
          rw [q0]
          rw [show chk L len 3 (p + 1 + 0) = _ from e1, c1]
          show chk L len 2 (p + 1 + 1) = none
          rw [show chk L len 2 (p + 1 + 1) = _ from e2, c2]
          show chk L len 1 (p + 1 + 2) = none
          rw [c3]
        repeat (first
            | with_reducible refine Ok_g (by first | assumption | omega) ?_
            | with_reducible refine Ok_lt ?_
            | with_reducible refine Ok_t (by first | assumption | omega) ?_
            | with_reducible refine Ok_f (by first | assumption | omega) ?_)
        refine Ok_ret ⟨(KS_trans (KS_trans k1 k2) k3), ?_⟩
        try rw [ch]
        refine ⟨by first | rfl | exact r3, by (rw [s3]; try omega), ?_, ?_, ?_⟩
        · show rd M3 154 (3 * s + 0) = _
          rw [rd_of (w3 _ (by omega)), rd_of (w2 _ (by omega)), v1]
          unfold nuX
          rw [hC]
          show 10 * 0 + L (p + 1 + 0) - 48 = if (102 : Int) = 104 then _ else _
          rw [if_neg (by decide)]
          show 10 * 0 + L (p + 1) - 48 = _
          omega
        · intro _ _
          rw [rd_of (w3 _ (by omega)), v2]
          unfold nuY
          rw [hC]
          rw [if_neg (by decide)]
          show 10 * 0 + L (p + 2) - 48 = _
          omega
        · intro _
          rw [v3]
          unfold nuZ
          rw [hC]
          rw [if_neg (by decide)]
          show 10 * 0 + L (p + 3) - 48 = _
          omega
theorem r_all_104 {n len p s : Nat} {M : Mem} {L : Nat → Int} (hn : 2000 ≤ n) (hl : len ≤ 96) (hs : s < 33) (hB : ∀ i, 0 ≤ L i ∧ L i ≤ 255) (hL : ∀ i, i < len → rd M 151 i = L i) (h22 : rd M 137 22 = len) (h23 : rd M 137 23 = ((p + 1 : Nat) : Int)) (hq : p + 1 ≤ len) (h25 : rd M 137 25 = ((3 * s : Nat) : Int)) (hC : L p = 104) :
    Ok (m_X6_readsAll n M 104) (fun r M' => RaP L len p s M r M') := by
  have hd : dgN (L p) = 2 := by rw [hC]; decide
  unfold m_X6_readsAll m_X6_readsAll_136 m_X6_readsAll_186
  repeat (first
      | with_reducible refine Ok_g (by first | assumption | omega) ?_
      | with_reducible refine Ok_lt ?_
      | with_reducible refine Ok_t (by first | assumption | omega) ?_
      | with_reducible refine Ok_f (by first | assumption | omega) ?_)
  unfold RaP
  rw [hd]
  refine Ok_bd (r_one (D := 2) (s := s) (q := p + 1 + 0) (tl := 3 * s + 0) hn hl (by decide) (by decide) (by omega) (by omega) hB hL h22 h23 hq h25) ?_
  rintro r M1 ⟨k1, a1⟩
  cases c1 : chk L len 2 (p + 1 + 0) with
  | some x =>
    rw [c1] at a1
    obtain ⟨b1, b2⟩ := a1
    have ch : chk L len 2 (p + 1) = some x := by
      have q0 : chk L len 2 (p + 1) = chk L len 2 (p + 1 + 0) := rfl
      rw [q0]
      rw [c1]
    repeat (first
        | with_reducible refine Ok_g (by first | assumption | omega) ?_
        | with_reducible refine Ok_lt ?_
        | with_reducible refine Ok_t (by first | assumption | omega) ?_
        | with_reducible refine Ok_f (by first | assumption | omega) ?_)
    refine Ok_ret ⟨k1, ?_⟩
    try rw [ch]
    exact ⟨b1, b2⟩
  | none =>
    rw [c1] at a1
    obtain ⟨r1, s1, t1, v1, w1⟩ := a1
    have o1 := KS_o k1
    have hL1 : ∀ i, i < len → rd M1 151 i = L i := fun i hi => by rw [o1.1]; exact hL i hi
    have ch : chk L len 2 (p + 1) = none := by
      have q0 : chk L len 2 (p + 1) = chk L len 2 (p + 1 + 0) := rfl
      rw [q0]
      rw [c1]
    repeat (first
        | with_reducible refine Ok_g (by first | assumption | omega) ?_
        | with_reducible refine Ok_lt ?_
        | with_reducible refine Ok_t (by first | assumption | omega) ?_
        | with_reducible refine Ok_f (by first | assumption | omega) ?_)
    refine Ok_ret ⟨k1, ?_⟩
    try rw [ch]
    refine ⟨by first | rfl | exact r1, by (rw [s1]; try omega), ?_, ?_, ?_⟩
    · show rd M1 154 (3 * s + 0) = _
      rw [v1]
      unfold nuX
      rw [hC]
      show 10 * (10 * 0 + L (p + 1 + 0) - 48) + L (p + 1 + 0 + 1) - 48 = if (104 : Int) = 104 then _ else _
      rw [if_pos rfl]
      show 10 * (10 * 0 + L (p + 1) - 48) + L (p + 2) - 48 = _
      omega
    · intro g1 g2
      exact absurd hC g2
    · intro g1
      rw [hC] at g1
      exact absurd g1 (by decide)
theorem r_all_107 {n len p s : Nat} {M : Mem} {L : Nat → Int} (hn : 2000 ≤ n) (hl : len ≤ 96) (hs : s < 33) (hB : ∀ i, 0 ≤ L i ∧ L i ≤ 255) (hL : ∀ i, i < len → rd M 151 i = L i) (h22 : rd M 137 22 = len) (h23 : rd M 137 23 = ((p + 1 : Nat) : Int)) (hq : p + 1 ≤ len) (h25 : rd M 137 25 = ((3 * s : Nat) : Int)) (hC : L p = 107) :
    Ok (m_X6_readsAll n M 107) (fun r M' => RaP L len p s M r M') := by
  have hd : dgN (L p) = 1 := by rw [hC]; decide
  unfold m_X6_readsAll m_X6_readsAll_136 m_X6_readsAll_186
  repeat (first
      | with_reducible refine Ok_g (by first | assumption | omega) ?_
      | with_reducible refine Ok_lt ?_
      | with_reducible refine Ok_t (by first | assumption | omega) ?_
      | with_reducible refine Ok_f (by first | assumption | omega) ?_)
  unfold RaP
  rw [hd]
  refine Ok_bd (r_one (D := 1) (s := s) (q := p + 1 + 0) (tl := 3 * s + 0) hn hl (by decide) (by decide) (by omega) (by omega) hB hL h22 h23 hq h25) ?_
  rintro r M1 ⟨k1, a1⟩
  cases c1 : chk L len 1 (p + 1 + 0) with
  | some x =>
    rw [c1] at a1
    obtain ⟨b1, b2⟩ := a1
    have ch : chk L len 1 (p + 1) = some x := by
      have q0 : chk L len 1 (p + 1) = chk L len 1 (p + 1 + 0) := rfl
      rw [q0]
      rw [c1]
    repeat (first
        | with_reducible refine Ok_g (by first | assumption | omega) ?_
        | with_reducible refine Ok_lt ?_
        | with_reducible refine Ok_t (by first | assumption | omega) ?_
        | with_reducible refine Ok_f (by first | assumption | omega) ?_)
    refine Ok_ret ⟨k1, ?_⟩
    try rw [ch]
    exact ⟨b1, b2⟩
  | none =>
    rw [c1] at a1
    obtain ⟨r1, s1, t1, v1, w1⟩ := a1
    have o1 := KS_o k1
    have hL1 : ∀ i, i < len → rd M1 151 i = L i := fun i hi => by rw [o1.1]; exact hL i hi
    have ch : chk L len 1 (p + 1) = none := by
      have q0 : chk L len 1 (p + 1) = chk L len 1 (p + 1 + 0) := rfl
      rw [q0]
      rw [c1]
    repeat (first
        | with_reducible refine Ok_g (by first | assumption | omega) ?_
        | with_reducible refine Ok_lt ?_
        | with_reducible refine Ok_t (by first | assumption | omega) ?_
        | with_reducible refine Ok_f (by first | assumption | omega) ?_)
    refine Ok_ret ⟨k1, ?_⟩
    try rw [ch]
    refine ⟨by first | rfl | exact r1, by (rw [s1]; try omega), ?_, ?_, ?_⟩
    · show rd M1 154 (3 * s + 0) = _
      rw [v1]
      unfold nuX
      rw [hC]
      show 10 * 0 + L (p + 1 + 0) - 48 = if (107 : Int) = 104 then _ else _
      rw [if_neg (by decide)]
      show 10 * 0 + L (p + 1) - 48 = _
      omega
    · intro g1 g2
      rw [hC] at g1
      exact absurd g1 (by decide)
    · intro g1
      rw [hC] at g1
      exact absurd g1 (by decide)
theorem r_all_109 {n len p s : Nat} {M : Mem} {L : Nat → Int} (hn : 2000 ≤ n) (hl : len ≤ 96) (hs : s < 33) (hB : ∀ i, 0 ≤ L i ∧ L i ≤ 255) (hL : ∀ i, i < len → rd M 151 i = L i) (h22 : rd M 137 22 = len) (h23 : rd M 137 23 = ((p + 1 : Nat) : Int)) (hq : p + 1 ≤ len) (h25 : rd M 137 25 = ((3 * s : Nat) : Int)) (hC : L p = 109) :
    Ok (m_X6_readsAll n M 109) (fun r M' => RaP L len p s M r M') := by
  have hd : dgN (L p) = 3 := by rw [hC]; decide
  unfold m_X6_readsAll m_X6_readsAll_136 m_X6_readsAll_186
  repeat (first
      | with_reducible refine Ok_g (by first | assumption | omega) ?_
      | with_reducible refine Ok_lt ?_
      | with_reducible refine Ok_t (by first | assumption | omega) ?_
      | with_reducible refine Ok_f (by first | assumption | omega) ?_)
  unfold RaP
  rw [hd]
  refine Ok_bd (r_one (D := 1) (s := s) (q := p + 1 + 0) (tl := 3 * s + 0) hn hl (by decide) (by decide) (by omega) (by omega) hB hL h22 h23 hq h25) ?_
  rintro r M1 ⟨k1, a1⟩
  have e1 := chk_add (L := L) (len := len) 1 2 (p + 1 + 0)
  cases c1 : chk L len 1 (p + 1 + 0) with
  | some x =>
    rw [c1] at a1
    obtain ⟨b1, b2⟩ := a1
    have ch : chk L len 3 (p + 1) = some x := by
      have q0 : chk L len 3 (p + 1) = chk L len 3 (p + 1 + 0) := rfl
      rw [q0]
      rw [show chk L len 3 (p + 1 + 0) = _ from e1, c1]
    repeat (first
        | with_reducible refine Ok_g (by first | assumption | omega) ?_
        | with_reducible refine Ok_lt ?_
        | with_reducible refine Ok_t (by first | assumption | omega) ?_
        | with_reducible refine Ok_f (by first | assumption | omega) ?_)
    refine Ok_ret ⟨k1, ?_⟩
    try rw [ch]
    exact ⟨by first | rfl | exact b1, b2⟩
  | none =>
    rw [c1] at a1
    obtain ⟨r1, s1, t1, v1, w1⟩ := a1
    have o1 := KS_o k1
    have hL1 : ∀ i, i < len → rd M1 151 i = L i := fun i hi => by rw [o1.1]; exact hL i hi
    repeat (first
        | with_reducible refine Ok_g (by first | assumption | omega) ?_
        | with_reducible refine Ok_lt ?_
        | with_reducible refine Ok_t (by first | assumption | omega) ?_
        | with_reducible refine Ok_f (by first | assumption | omega) ?_)
    refine Ok_bd (r_one (D := 2) (s := s) (q := p + 1 + 1) (tl := 3 * s + 1) hn hl (by decide) (by decide) (by omega) (by omega) hB hL1 (by rw [o1.2]; exact h22) (by rw [s1]; try omega) (by have := chk_none _ _ c1 0 (by decide); omega) (by rw [t1]; try omega)) ?_
    rintro r M2 ⟨k2, a2⟩
    cases c2 : chk L len 2 (p + 1 + 1) with
    | some x =>
      rw [c2] at a2
      obtain ⟨b1, b2⟩ := a2
      have ch : chk L len 3 (p + 1) = some x := by
        have q0 : chk L len 3 (p + 1) = chk L len 3 (p + 1 + 0) := rfl
        rw [q0]
        rw [show chk L len 3 (p + 1 + 0) = _ from e1, c1]
        show chk L len 2 (p + 1 + 1) = some x
        rw [c2]
      repeat (first
          | with_reducible refine Ok_g (by first | assumption | omega) ?_
          | with_reducible refine Ok_lt ?_
          | with_reducible refine Ok_t (by first | assumption | omega) ?_
          | with_reducible refine Ok_f (by first | assumption | omega) ?_)
      refine Ok_ret ⟨(KS_trans k1 k2), ?_⟩
      try rw [ch]
      exact ⟨by first | rfl | exact b1, b2⟩
    | none =>
      rw [c2] at a2
      obtain ⟨r2, s2, t2, v2, w2⟩ := a2
      have o2 := KS_o k2
      have hL2 : ∀ i, i < len → rd M2 151 i = L i := fun i hi => by rw [o2.1]; exact hL1 i hi
      have ch : chk L len 3 (p + 1) = none := by
        have q0 : chk L len 3 (p + 1) = chk L len 3 (p + 1 + 0) := rfl
        rw [q0]
        rw [show chk L len 3 (p + 1 + 0) = _ from e1, c1]
        show chk L len 2 (p + 1 + 1) = none
        rw [c2]
      repeat (first
          | with_reducible refine Ok_g (by first | assumption | omega) ?_
          | with_reducible refine Ok_lt ?_
          | with_reducible refine Ok_t (by first | assumption | omega) ?_
          | with_reducible refine Ok_f (by first | assumption | omega) ?_)
      refine Ok_ret ⟨(KS_trans k1 k2), ?_⟩
      try rw [ch]
      refine ⟨by first | rfl | exact r2, by (rw [s2]; try omega), ?_, ?_, ?_⟩
      · show rd M2 154 (3 * s + 0) = _
        rw [rd_of (w2 _ (by omega)), v1]
        unfold nuX
        rw [hC]
        show 10 * 0 + L (p + 1 + 0) - 48 = if (109 : Int) = 104 then _ else _
        rw [if_neg (by decide)]
        show 10 * 0 + L (p + 1) - 48 = _
        omega
      · intro _ _
        rw [v2]
        unfold nuY
        rw [hC]
        rw [if_pos (by decide)]
        show 10 * (10 * 0 + L (p + 2) - 48) + L (p + 3) - 48 = _
        omega
      · intro g1
        rw [hC] at g1
        exact absurd g1 (by decide)
theorem r_all_111 {n len p s : Nat} {M : Mem} {L : Nat → Int} (hn : 2000 ≤ n) (hl : len ≤ 96) (hs : s < 33) (hB : ∀ i, 0 ≤ L i ∧ L i ≤ 255) (hL : ∀ i, i < len → rd M 151 i = L i) (h22 : rd M 137 22 = len) (h23 : rd M 137 23 = ((p + 1 : Nat) : Int)) (hq : p + 1 ≤ len) (h25 : rd M 137 25 = ((3 * s : Nat) : Int)) (hC : L p = 111) :
    Ok (m_X6_readsAll n M 111) (fun r M' => RaP L len p s M r M') := by
  have hd : dgN (L p) = 2 := by rw [hC]; decide
  unfold m_X6_readsAll m_X6_readsAll_136 m_X6_readsAll_186
  repeat (first
      | with_reducible refine Ok_g (by first | assumption | omega) ?_
      | with_reducible refine Ok_lt ?_
      | with_reducible refine Ok_t (by first | assumption | omega) ?_
      | with_reducible refine Ok_f (by first | assumption | omega) ?_)
  unfold RaP
  rw [hd]
  refine Ok_bd (r_one (D := 1) (s := s) (q := p + 1 + 0) (tl := 3 * s + 0) hn hl (by decide) (by decide) (by omega) (by omega) hB hL h22 h23 hq h25) ?_
  rintro r M1 ⟨k1, a1⟩
  have e1 := chk_add (L := L) (len := len) 1 1 (p + 1 + 0)
  cases c1 : chk L len 1 (p + 1 + 0) with
  | some x =>
    rw [c1] at a1
    obtain ⟨b1, b2⟩ := a1
    have ch : chk L len 2 (p + 1) = some x := by
      have q0 : chk L len 2 (p + 1) = chk L len 2 (p + 1 + 0) := rfl
      rw [q0]
      rw [show chk L len 2 (p + 1 + 0) = _ from e1, c1]
    repeat (first
        | with_reducible refine Ok_g (by first | assumption | omega) ?_
        | with_reducible refine Ok_lt ?_
        | with_reducible refine Ok_t (by first | assumption | omega) ?_
        | with_reducible refine Ok_f (by first | assumption | omega) ?_)
    refine Ok_ret ⟨k1, ?_⟩
    try rw [ch]
    exact ⟨by first | rfl | exact b1, b2⟩
  | none =>
    rw [c1] at a1
    obtain ⟨r1, s1, t1, v1, w1⟩ := a1
    have o1 := KS_o k1
    have hL1 : ∀ i, i < len → rd M1 151 i = L i := fun i hi => by rw [o1.1]; exact hL i hi
    repeat (first
        | with_reducible refine Ok_g (by first | assumption | omega) ?_
        | with_reducible refine Ok_lt ?_
        | with_reducible refine Ok_t (by first | assumption | omega) ?_
        | with_reducible refine Ok_f (by first | assumption | omega) ?_)
    refine Ok_bd (r_one (D := 1) (s := s) (q := p + 1 + 1) (tl := 3 * s + 1) hn hl (by decide) (by decide) (by omega) (by omega) hB hL1 (by rw [o1.2]; exact h22) (by rw [s1]; try omega) (by have := chk_none _ _ c1 0 (by decide); omega) (by rw [t1]; try omega)) ?_
    rintro r M2 ⟨k2, a2⟩
    cases c2 : chk L len 1 (p + 1 + 1) with
    | some x =>
      rw [c2] at a2
      obtain ⟨b1, b2⟩ := a2
      have ch : chk L len 2 (p + 1) = some x := by
        have q0 : chk L len 2 (p + 1) = chk L len 2 (p + 1 + 0) := rfl
        rw [q0]
        rw [show chk L len 2 (p + 1 + 0) = _ from e1, c1]
        show chk L len 1 (p + 1 + 1) = some x
        rw [c2]
      repeat (first
          | with_reducible refine Ok_g (by first | assumption | omega) ?_
          | with_reducible refine Ok_lt ?_
          | with_reducible refine Ok_t (by first | assumption | omega) ?_
          | with_reducible refine Ok_f (by first | assumption | omega) ?_)
      refine Ok_ret ⟨(KS_trans k1 k2), ?_⟩
      try rw [ch]
      exact ⟨by first | rfl | exact b1, b2⟩
    | none =>
      rw [c2] at a2
      obtain ⟨r2, s2, t2, v2, w2⟩ := a2
      have o2 := KS_o k2
      have hL2 : ∀ i, i < len → rd M2 151 i = L i := fun i hi => by rw [o2.1]; exact hL1 i hi
      have ch : chk L len 2 (p + 1) = none := by
        have q0 : chk L len 2 (p + 1) = chk L len 2 (p + 1 + 0) := rfl
        rw [q0]
        rw [show chk L len 2 (p + 1 + 0) = _ from e1, c1]
        show chk L len 1 (p + 1 + 1) = none
        rw [c2]
      repeat (first
          | with_reducible refine Ok_g (by first | assumption | omega) ?_
          | with_reducible refine Ok_lt ?_
          | with_reducible refine Ok_t (by first | assumption | omega) ?_
          | with_reducible refine Ok_f (by first | assumption | omega) ?_)
      refine Ok_ret ⟨(KS_trans k1 k2), ?_⟩
      try rw [ch]
      refine ⟨by first | rfl | exact r2, by (rw [s2]; try omega), ?_, ?_, ?_⟩
      · show rd M2 154 (3 * s + 0) = _
        rw [rd_of (w2 _ (by omega)), v1]
        unfold nuX
        rw [hC]
        show 10 * 0 + L (p + 1 + 0) - 48 = if (111 : Int) = 104 then _ else _
        rw [if_neg (by decide)]
        show 10 * 0 + L (p + 1) - 48 = _
        omega
      · intro _ _
        rw [v2]
        unfold nuY
        rw [hC]
        rw [if_neg (by decide)]
        show 10 * 0 + L (p + 2) - 48 = _
        omega
      · intro g1
        rw [hC] at g1
        exact absurd g1 (by decide)
theorem r_all_112 {n len p s : Nat} {M : Mem} {L : Nat → Int} (hn : 2000 ≤ n) (hl : len ≤ 96) (hs : s < 33) (hB : ∀ i, 0 ≤ L i ∧ L i ≤ 255) (hL : ∀ i, i < len → rd M 151 i = L i) (h22 : rd M 137 22 = len) (h23 : rd M 137 23 = ((p + 1 : Nat) : Int)) (hq : p + 1 ≤ len) (h25 : rd M 137 25 = ((3 * s : Nat) : Int)) (hC : L p = 112) :
    Ok (m_X6_readsAll n M 112) (fun r M' => RaP L len p s M r M') := by
  have hd : dgN (L p) = 4 := by rw [hC]; decide
  unfold m_X6_readsAll m_X6_readsAll_136 m_X6_readsAll_186
  repeat (first
      | with_reducible refine Ok_g (by first | assumption | omega) ?_
      | with_reducible refine Ok_lt ?_
      | with_reducible refine Ok_t (by first | assumption | omega) ?_
      | with_reducible refine Ok_f (by first | assumption | omega) ?_)
  unfold RaP
  rw [hd]
  refine Ok_bd (r_one (D := 1) (s := s) (q := p + 1 + 0) (tl := 3 * s + 0) hn hl (by decide) (by decide) (by omega) (by omega) hB hL h22 h23 hq h25) ?_
  rintro r M1 ⟨k1, a1⟩
  have e1 := chk_add (L := L) (len := len) 1 3 (p + 1 + 0)
  cases c1 : chk L len 1 (p + 1 + 0) with
  | some x =>
    rw [c1] at a1
    obtain ⟨b1, b2⟩ := a1
    have ch : chk L len 4 (p + 1) = some x := by
      have q0 : chk L len 4 (p + 1) = chk L len 4 (p + 1 + 0) := rfl
      rw [q0]
      rw [show chk L len 4 (p + 1 + 0) = _ from e1, c1]
    repeat (first
        | with_reducible refine Ok_g (by first | assumption | omega) ?_
        | with_reducible refine Ok_lt ?_
        | with_reducible refine Ok_t (by first | assumption | omega) ?_
        | with_reducible refine Ok_f (by first | assumption | omega) ?_)
    refine Ok_ret ⟨k1, ?_⟩
    try rw [ch]
    exact ⟨by first | rfl | exact b1, b2⟩
  | none =>
    rw [c1] at a1
    obtain ⟨r1, s1, t1, v1, w1⟩ := a1
    have o1 := KS_o k1
    have hL1 : ∀ i, i < len → rd M1 151 i = L i := fun i hi => by rw [o1.1]; exact hL i hi
    repeat (first
        | with_reducible refine Ok_g (by first | assumption | omega) ?_
        | with_reducible refine Ok_lt ?_
        | with_reducible refine Ok_t (by first | assumption | omega) ?_
        | with_reducible refine Ok_f (by first | assumption | omega) ?_)
    refine Ok_bd (r_one (D := 1) (s := s) (q := p + 1 + 1) (tl := 3 * s + 1) hn hl (by decide) (by decide) (by omega) (by omega) hB hL1 (by rw [o1.2]; exact h22) (by rw [s1]; try omega) (by have := chk_none _ _ c1 0 (by decide); omega) (by rw [t1]; try omega)) ?_
    rintro r M2 ⟨k2, a2⟩
    have e2 := chk_add (L := L) (len := len) 1 2 (p + 1 + 1)
    cases c2 : chk L len 1 (p + 1 + 1) with
    | some x =>
      rw [c2] at a2
      obtain ⟨b1, b2⟩ := a2
      have ch : chk L len 4 (p + 1) = some x := by
        have q0 : chk L len 4 (p + 1) = chk L len 4 (p + 1 + 0) := rfl
        rw [q0]
        rw [show chk L len 4 (p + 1 + 0) = _ from e1, c1]
        show chk L len 3 (p + 1 + 1) = some x
        rw [show chk L len 3 (p + 1 + 1) = _ from e2, c2]
      repeat (first
          | with_reducible refine Ok_g (by first | assumption | omega) ?_
          | with_reducible refine Ok_lt ?_
          | with_reducible refine Ok_t (by first | assumption | omega) ?_
          | with_reducible refine Ok_f (by first | assumption | omega) ?_)
      refine Ok_ret ⟨(KS_trans k1 k2), ?_⟩
      try rw [ch]
      exact ⟨by first | rfl | exact b1, b2⟩
    | none =>
      rw [c2] at a2
      obtain ⟨r2, s2, t2, v2, w2⟩ := a2
      have o2 := KS_o k2
      have hL2 : ∀ i, i < len → rd M2 151 i = L i := fun i hi => by rw [o2.1]; exact hL1 i hi
      repeat (first
          | with_reducible refine Ok_g (by first | assumption | omega) ?_
          | with_reducible refine Ok_lt ?_
          | with_reducible refine Ok_t (by first | assumption | omega) ?_
          | with_reducible refine Ok_f (by first | assumption | omega) ?_)
      refine Ok_bd (r_one (D := 2) (s := s) (q := p + 1 + 2) (tl := 3 * s + 2) hn hl (by decide) (by decide) (by omega) (by omega) hB hL2 (by rw [o2.2]; exact (by rw [o1.2]; exact h22)) (by rw [s2]; try omega) (by have := chk_none _ _ c2 0 (by decide); omega) (by rw [t2]; try omega)) ?_
      rintro r M3 ⟨k3, a3⟩
      cases c3 : chk L len 2 (p + 1 + 2) with
      | some x =>
        rw [c3] at a3
        obtain ⟨b1, b2⟩ := a3
        have ch : chk L len 4 (p + 1) = some x := by
          have q0 : chk L len 4 (p + 1) = chk L len 4 (p + 1 + 0) := rfl
          rw [q0]
          rw [show chk L len 4 (p + 1 + 0) = _ from e1, c1]
          show chk L len 3 (p + 1 + 1) = some x
          rw [show chk L len 3 (p + 1 + 1) = _ from e2, c2]
          show chk L len 2 (p + 1 + 2) = some x
          rw [c3]
        repeat (first
            | with_reducible refine Ok_g (by first | assumption | omega) ?_
            | with_reducible refine Ok_lt ?_
            | with_reducible refine Ok_t (by first | assumption | omega) ?_
            | with_reducible refine Ok_f (by first | assumption | omega) ?_)
        refine Ok_ret ⟨(KS_trans (KS_trans k1 k2) k3), ?_⟩
        try rw [ch]
        exact ⟨by first | rfl | exact b1, b2⟩
      | none =>
        rw [c3] at a3
        obtain ⟨r3, s3, t3, v3, w3⟩ := a3
        have o3 := KS_o k3
        have hL3 : ∀ i, i < len → rd M3 151 i = L i := fun i hi => by rw [o3.1]; exact hL2 i hi
        have ch : chk L len 4 (p + 1) = none := by
          have q0 : chk L len 4 (p + 1) = chk L len 4 (p + 1 + 0) := rfl
          rw [q0]
          rw [show chk L len 4 (p + 1 + 0) = _ from e1, c1]
          show chk L len 3 (p + 1 + 1) = none
          rw [show chk L len 3 (p + 1 + 1) = _ from e2, c2]
          show chk L len 2 (p + 1 + 2) = none
          rw [c3]
        repeat (first
            | with_reducible refine Ok_g (by first | assumption | omega) ?_
            | with_reducible refine Ok_lt ?_
            | with_reducible refine Ok_t (by first | assumption | omega) ?_
            | with_reducible refine Ok_f (by first | assumption | omega) ?_)
        refine Ok_ret ⟨(KS_trans (KS_trans k1 k2) k3), ?_⟩
        try rw [ch]
        refine ⟨by first | rfl | exact r3, by (rw [s3]; try omega), ?_, ?_, ?_⟩
        · show rd M3 154 (3 * s + 0) = _
          rw [rd_of (w3 _ (by omega)), rd_of (w2 _ (by omega)), v1]
          unfold nuX
          rw [hC]
          show 10 * 0 + L (p + 1 + 0) - 48 = if (112 : Int) = 104 then _ else _
          rw [if_neg (by decide)]
          show 10 * 0 + L (p + 1) - 48 = _
          omega
        · intro _ _
          rw [rd_of (w3 _ (by omega)), v2]
          unfold nuY
          rw [hC]
          rw [if_neg (by decide)]
          show 10 * 0 + L (p + 2) - 48 = _
          omega
        · intro _
          rw [v3]
          unfold nuZ
          rw [hC]
          rw [if_pos rfl]
          show 10 * (10 * 0 + L (p + 3) - 48) + L (p + 4) - 48 = _
          omega
theorem r_all_116 {n len p s : Nat} {M : Mem} {L : Nat → Int} (hn : 2000 ≤ n) (hl : len ≤ 96) (hs : s < 33) (hB : ∀ i, 0 ≤ L i ∧ L i ≤ 255) (hL : ∀ i, i < len → rd M 151 i = L i) (h22 : rd M 137 22 = len) (h23 : rd M 137 23 = ((p + 1 : Nat) : Int)) (hq : p + 1 ≤ len) (h25 : rd M 137 25 = ((3 * s : Nat) : Int)) (hC : L p = 116) :
    Ok (m_X6_readsAll n M 116) (fun r M' => RaP L len p s M r M') := by
  have hd : dgN (L p) = 3 := by rw [hC]; decide
  unfold m_X6_readsAll m_X6_readsAll_136 m_X6_readsAll_186
  repeat (first
      | with_reducible refine Ok_g (by first | assumption | omega) ?_
      | with_reducible refine Ok_lt ?_
      | with_reducible refine Ok_t (by first | assumption | omega) ?_
      | with_reducible refine Ok_f (by first | assumption | omega) ?_)
  unfold RaP
  rw [hd]
  refine Ok_bd (r_one (D := 1) (s := s) (q := p + 1 + 0) (tl := 3 * s + 0) hn hl (by decide) (by decide) (by omega) (by omega) hB hL h22 h23 hq h25) ?_
  rintro r M1 ⟨k1, a1⟩
  have e1 := chk_add (L := L) (len := len) 1 2 (p + 1 + 0)
  cases c1 : chk L len 1 (p + 1 + 0) with
  | some x =>
    rw [c1] at a1
    obtain ⟨b1, b2⟩ := a1
    have ch : chk L len 3 (p + 1) = some x := by
      have q0 : chk L len 3 (p + 1) = chk L len 3 (p + 1 + 0) := rfl
      rw [q0]
      rw [show chk L len 3 (p + 1 + 0) = _ from e1, c1]
    repeat (first
        | with_reducible refine Ok_g (by first | assumption | omega) ?_
        | with_reducible refine Ok_lt ?_
        | with_reducible refine Ok_t (by first | assumption | omega) ?_
        | with_reducible refine Ok_f (by first | assumption | omega) ?_)
    refine Ok_ret ⟨k1, ?_⟩
    try rw [ch]
    exact ⟨by first | rfl | exact b1, b2⟩
  | none =>
    rw [c1] at a1
    obtain ⟨r1, s1, t1, v1, w1⟩ := a1
    have o1 := KS_o k1
    have hL1 : ∀ i, i < len → rd M1 151 i = L i := fun i hi => by rw [o1.1]; exact hL i hi
    repeat (first
        | with_reducible refine Ok_g (by first | assumption | omega) ?_
        | with_reducible refine Ok_lt ?_
        | with_reducible refine Ok_t (by first | assumption | omega) ?_
        | with_reducible refine Ok_f (by first | assumption | omega) ?_)
    refine Ok_bd (r_one (D := 2) (s := s) (q := p + 1 + 1) (tl := 3 * s + 1) hn hl (by decide) (by decide) (by omega) (by omega) hB hL1 (by rw [o1.2]; exact h22) (by rw [s1]; try omega) (by have := chk_none _ _ c1 0 (by decide); omega) (by rw [t1]; try omega)) ?_
    rintro r M2 ⟨k2, a2⟩
    cases c2 : chk L len 2 (p + 1 + 1) with
    | some x =>
      rw [c2] at a2
      obtain ⟨b1, b2⟩ := a2
      have ch : chk L len 3 (p + 1) = some x := by
        have q0 : chk L len 3 (p + 1) = chk L len 3 (p + 1 + 0) := rfl
        rw [q0]
        rw [show chk L len 3 (p + 1 + 0) = _ from e1, c1]
        show chk L len 2 (p + 1 + 1) = some x
        rw [c2]
      repeat (first
          | with_reducible refine Ok_g (by first | assumption | omega) ?_
          | with_reducible refine Ok_lt ?_
          | with_reducible refine Ok_t (by first | assumption | omega) ?_
          | with_reducible refine Ok_f (by first | assumption | omega) ?_)
      refine Ok_ret ⟨(KS_trans k1 k2), ?_⟩
      try rw [ch]
      exact ⟨by first | rfl | exact b1, b2⟩
    | none =>
      rw [c2] at a2
      obtain ⟨r2, s2, t2, v2, w2⟩ := a2
      have o2 := KS_o k2
      have hL2 : ∀ i, i < len → rd M2 151 i = L i := fun i hi => by rw [o2.1]; exact hL1 i hi
      have ch : chk L len 3 (p + 1) = none := by
        have q0 : chk L len 3 (p + 1) = chk L len 3 (p + 1 + 0) := rfl
        rw [q0]
        rw [show chk L len 3 (p + 1 + 0) = _ from e1, c1]
        show chk L len 2 (p + 1 + 1) = none
        rw [c2]
      repeat (first
          | with_reducible refine Ok_g (by first | assumption | omega) ?_
          | with_reducible refine Ok_lt ?_
          | with_reducible refine Ok_t (by first | assumption | omega) ?_
          | with_reducible refine Ok_f (by first | assumption | omega) ?_)
      refine Ok_ret ⟨(KS_trans k1 k2), ?_⟩
      try rw [ch]
      refine ⟨by first | rfl | exact r2, by (rw [s2]; try omega), ?_, ?_, ?_⟩
      · show rd M2 154 (3 * s + 0) = _
        rw [rd_of (w2 _ (by omega)), v1]
        unfold nuX
        rw [hC]
        show 10 * 0 + L (p + 1 + 0) - 48 = if (116 : Int) = 104 then _ else _
        rw [if_neg (by decide)]
        show 10 * 0 + L (p + 1) - 48 = _
        omega
      · intro _ _
        rw [v2]
        unfold nuY
        rw [hC]
        rw [if_pos (by decide)]
        show 10 * (10 * 0 + L (p + 2) - 48) + L (p + 3) - 48 = _
        omega
      · intro g1
        rw [hC] at g1
        exact absurd g1 (by decide)
