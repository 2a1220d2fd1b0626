/-! what both sides have alike between calls -/
def kv (M : Mem) (s : Nat) : US := fun k i =>
  if k = 0 then (if i = 3 then rd M 155 (68 * s + 62) else if i = 7 then rd M 155 (68 * s + 63) else if i = 12 then rd M 155 (68 * s + 64) else if i = 14 then rd M 155 (68 * s + 65) else if i = 13 then rd M 155 (68 * s + 66) else if i = 20 then -1 else 0)
  else if k = 6 then (if i < 8 then ow 137 (rd M 155 (68 * s + 34 + i)) else 0)
  else if i < lnk k then rd M 155 (68 * s + offk k + i) else 0
theorem lnk_le {k i : Nat} (h : i < lnk k) : k ≤ 10 := by
  unfold lnk at h
  by_cases q : k ≤ 10
  · exact q
  · rw [if_neg (by omega), if_neg (by omega), if_neg q] at h; omega
theorem kv_congr {M M' : Mem} {s : Nat} (h : ∀ b, 68 * s ≤ b → b < 68 * s + 67 → M' 155 b = M 155 b) : kv M' s = kv M s := by
  funext k i
  unfold kv
  rw [rd_of (h (68 * s + 62) (by omega) (by omega)), rd_of (h (68 * s + 63) (by omega) (by omega)), rd_of (h (68 * s + 64) (by omega) (by omega)), rd_of (h (68 * s + 65) (by omega) (by omega)), rd_of (h (68 * s + 66) (by omega) (by omega))]
  by_cases k0 : k = 0
  · rw [if_pos k0, if_pos k0]
  · rw [if_neg k0, if_neg k0]
    by_cases k6 : k = 6
    · rw [if_pos k6, if_pos k6]
      by_cases c : i < 8
      · rw [if_pos c, if_pos c, rd_of (h _ (by omega) (by omega))]
      · rw [if_neg c, if_neg c]
    · rw [if_neg k6, if_neg k6]
      by_cases c : i < lnk k
      · have := off_s (k := k) (by omega) (lnk_le c)
        rw [if_pos c, if_pos c, rd_of (h _ (by omega) (by omega))]
      · rw [if_neg c, if_neg c]
theorem rd_of' {M M' : Mem} {q i a b : Nat} (h : M' q i = M a b) : rd M' q i = rd M a b := congrArg Int32.toInt h
theorem r_keepv {n s : Nat} {M : Mem} (hn : 2000 ≤ n) (hs : s ≤ 10) (hk : vw M 137 0 20 = -1) (hy : vw M 137 0 21 = 0) : Ok (m_X6_passesAll n M (s : Int) 1) (fun _ M' => kv M' s = vw M 137 ∧ (∀ a b, ¬ (a = 155 ∧ 68 * s ≤ b ∧ b < 68 * s + 67) → ¬ (a = 137 ∧ (b = 27 ∨ b = 28)) → M' a b = M a b)) := by
  refine Ok_mono (r_keeps hn hs) ?_
  rintro _ M' ⟨h1, ⟨h2, h3, h4, h5, h6⟩, h7⟩
  refine ⟨?_, h7⟩
  funext k i
  unfold kv
  by_cases k0 : k = 0
  · subst k0
    rw [if_pos rfl, rd_of' h2, rd_of' h3, rd_of' h4, rd_of' h5, rd_of' h6]
    by_cases c : i = 3 ∨ i = 7 ∨ i = 12 ∨ i = 13 ∨ i = 14
    · rw [vw_s c]
      rcases c with rfl | rfl | rfl | rfl | rfl <;> rfl
    · by_cases c1 : i = 20
      · subst c1; exact hk.symm
      · by_cases c2 : i = 21
        · subst c2; exact hy.symm
        · rw [if_neg (by omega), if_neg (by omega), if_neg (by omega), if_neg (by omega), if_neg (by omega), if_neg c1]
          show 0 = vs M 137 i
          unfold vs
          rw [if_neg c, if_neg c1, if_neg c2]
  · rw [if_neg k0]
    by_cases k6 : k = 6
    · subst k6
      rw [if_pos rfl]
      show _ = (if i < 8 then ow 137 (rd M 143 i) else 0)
      by_cases c : i < 8
      · rw [if_pos c, if_pos c, show rd M' 155 (68 * s + 34 + i) = rd M 143 i from rd_of' (h1 6 i (by decide) (by decide) c)]
      · rw [if_neg c, if_neg c]
    · rw [if_neg k6]
      by_cases c : i < lnk k
      · rw [if_pos c, vw_a k0 k6 c, rd_of' (h1 k i (by omega) (lnk_le c) c)]
      · unfold vw
        rw [if_neg c, if_neg k0, if_neg k6, if_neg c]
theorem r_givev {n s : Nat} {M : Mem} (hn : 2000 ≤ n) (hs : s ≤ 10) : Ok (m_X6_passesAll n M (s : Int) 0) (fun _ M' => (∀ k i, ¬ (k = 0 ∧ (i = 20 ∨ i = 21)) → vw M' 137 k i = kv M s k i) ∧ (∀ a b, ¬ (138 ≤ a ∧ a ≤ 147) → ¬ (a = 137 ∧ (b = 3 ∨ b = 7 ∨ b = 12 ∨ b = 13 ∨ b = 14 ∨ b = 27 ∨ b = 28)) → M' a b = M a b)) := by
  refine Ok_mono (r_gives hn hs) ?_
  rintro _ M' ⟨h1, ⟨h2, h3, h4, h5, h6⟩, h7⟩
  refine ⟨?_, fun a b g1 g2 => h7 a b (fun z => g1 ⟨z.1, z.2.1⟩) g2⟩
  intro k i hki
  unfold kv
  by_cases k0 : k = 0
  · subst k0
    rw [if_pos rfl]
    by_cases c : i = 3 ∨ i = 7 ∨ i = 12 ∨ i = 13 ∨ i = 14
    · rw [vw_s c]
      rcases c with rfl | rfl | rfl | rfl | rfl
      · exact rd_of' h2
      · exact rd_of' h3
      · exact rd_of' h4
      · exact rd_of' h6
      · exact rd_of' h5
    · rw [if_neg (by omega), if_neg (by omega), if_neg (by omega), if_neg (by omega), if_neg (by omega), if_neg (by omega)]
      show vs M' 137 i = 0
      unfold vs
      rw [if_neg c, if_neg (by omega), if_neg (by omega)]
  · rw [if_neg k0]
    by_cases k6 : k = 6
    · subst k6
      rw [if_pos rfl]
      show (if i < 8 then ow 137 (rd M' 143 i) else 0) = _
      by_cases c : i < 8
      · rw [if_pos c, if_pos c, show rd M' 143 i = _ from rd_of' (h1 6 i (by decide) (by decide) c)]; rfl
      · rw [if_neg c, if_neg c]
    · rw [if_neg k6]
      by_cases c : i < lnk k
      · rw [if_pos c, vw_a k0 k6 c]; exact rd_of' (h1 k i (by omega) (lnk_le c) c)
      · unfold vw
        rw [if_neg c, if_neg k0, if_neg k6, if_neg c]
def ea (M : Mem) (j : Nat) : Nat := (rd M 131 j).toNat
/-- the rows of coasts that can be taken back to -/
def EarlyOk (M : Mem) : Prop := (∀ j, j < 8 → 33 ≤ rd M 131 j ∧ rd M 131 j ≤ 110 ∧ rd M 131 j % 11 = 0) ∧ ∀ i j, i < 8 → j < 8 → i ≠ j → rd M 131 i ≠ rd M 131 j
def BackOk (M : Mem) : Prop := ∃ b fb : Nat, b ≤ 8 ∧ fb < 8 ∧ rd M 130 4 = b ∧ rd M 137 30 = b ∧ rd M 137 29 = fb ∧ ∀ j, j < b → vw M (ea M j) = kv M (3 + (fb + j) % 8) ∧ WF 999 (vw M (ea M j))
def ImgOk (M : Mem) : Prop := rd M 137 26 = rd M 130 2 ∧ (rd M 130 2 = 0 ∨ rd M 130 2 = 1 ∧ vw M 11 = kv M 0 ∧ WF 999 (vw M 11))
def LetOk (M : Mem) : Prop := rd M 137 22 = rd M 130 6 ∧ 0 ≤ rd M 130 6 ∧ rd M 130 6 ≤ 96 ∧ ∀ i : Nat, (i : Int) < rd M 130 6 → rd M 151 i = rd M 132 i ∧ 0 ≤ rd M 132 i ∧ rd M 132 i ≤ 255
def RowOk (M : Mem) : Prop := rd M 137 31 = rd M 130 8 ∧ 0 ≤ rd M 130 8 ∧ rd M 130 8 ≤ 12 ∧ ∀ i : Nat, (i : Int) < rd M 130 8 → rd M 156 i = rd M 133 i ∧ 0 ≤ rd M 133 i ∧ rd M 133 i ≤ 99
def Sim (M : Mem) : Prop := vw M 137 = vw M 0 ∧ WF 999 (vw M 0) ∧ SkyOk M ∧ EarlyOk M ∧ BackOk M ∧ ImgOk M ∧ LetOk M ∧ RowOk M ∧ ∀ i, M 148 i = M 134 i
/-- what must stay -/
def Kp (q i : Nat) : Prop := q < 22 ∨ (32 < q ∧ q < 121) ∨ q = 130 ∨ (131 ≤ q ∧ q ≤ 133) ∨ (q = 137 ∧ (i = 22 ∨ i = 26 ∨ i = 29 ∨ i = 30 ∨ i = 31)) ∨ q = 151 ∨ q = 156 ∨ (q = 155 ∧ (i < 68 ∨ 204 ≤ i))
theorem vwW_congr {M M' : Mem} {w : Nat} (hw : w < 110 ∧ w ≠ 22) (h : ∀ q i, w ≤ q → q ≤ w + 10 → M' q i = M q i) : vw M' w = vw M w :=
  vw_congr (fun i _ => h w i (by omega) (by omega)) (fun k i _ _ => h (w + k) i (by omega) (by omega)) (fun z => absurd z hw.2) (fun z => by omega)
theorem vwE_congr {M M' : Mem} {w : Nat} (hw : w ≤ 110 ∧ w ≠ 22) (h : ∀ q i, w ≤ q → q ≤ w + 10 → M' q i = M q i) : vw M' w = vw M w :=
  vw_congr (fun i _ => h w i (by omega) (by omega)) (fun k i _ _ => h (w + k) i (by omega) (by omega)) (fun z => absurd z hw.2) (fun z => by omega)
theorem early_keep {M M' : Mem} (h : EarlyOk M) (k : ∀ i, M' 131 i = M 131 i) : EarlyOk M' := by
  refine ⟨fun j hj => ?_, fun i j hi hj hij => ?_⟩
  · rw [rd_of (k j)]; exact h.1 j hj
  · rw [rd_of (k i), rd_of (k j)]; exact h.2 i j hi hj hij
theorem back_keep {M M' : Mem} (e : EarlyOk M) (h : BackOk M) (k : ∀ q i, (32 < q ∧ q < 121) ∨ (q = 130 ∧ i = 4) ∨ q = 131 ∨ (q = 137 ∧ (i = 29 ∨ i = 30)) ∨ (q = 155 ∧ 204 ≤ i) → M' q i = M q i) : BackOk M' := by
  obtain ⟨b, fb, h1, h2, h3, h4, h5, h6⟩ := h
  refine ⟨b, fb, h1, h2, ?_, ?_, ?_, ?_⟩
  · rw [rd_of (k _ _ (by omega))]; exact h3
  · rw [rd_of (k _ _ (by omega))]; exact h4
  · rw [rd_of (k _ _ (by omega))]; exact h5
  · intro j hj
    have ee := e.1 j (by omega)
    have e1 : ea M' j = ea M j := by unfold ea; rw [rd_of (k _ _ (by omega))]
    have e2 : vw M' (ea M j) = vw M (ea M j) := vwE_congr (by unfold ea; omega) (fun q i g1 g2 => k q i (by unfold ea at g1 g2; omega))
    rw [e1, e2, kv_congr (M := M) (fun b' g1 g2 => k _ _ (by omega))]
    exact h6 j hj
theorem img_keep {M M' : Mem} (h : ImgOk M) (k : ∀ q i, (11 ≤ q ∧ q < 22) ∨ (q = 130 ∧ i = 2) ∨ (q = 137 ∧ i = 26) ∨ (q = 155 ∧ i < 68) → M' q i = M q i) : ImgOk M' := by
  unfold ImgOk
  rw [rd_of (k 137 26 (by omega)), rd_of (k 130 2 (by omega)), vwW_congr (M := M) (w := 11) (by decide) (fun q i g1 g2 => k q i (by omega)), kv_congr (M := M) (s := 0) (fun b g1 g2 => k _ _ (by omega))]
  exact h
theorem let_keep {M M' : Mem} (h : LetOk M) (k : ∀ q i, (q = 130 ∧ i = 6) ∨ (q = 137 ∧ i = 22) ∨ q = 151 ∨ q = 132 → M' q i = M q i) : LetOk M' := by
  unfold LetOk
  rw [rd_of (k 137 22 (by omega)), rd_of (k 130 6 (by omega))]
  refine ⟨h.1, h.2.1, h.2.2.1, fun i hi => ?_⟩
  rw [rd_of (k 151 i (by omega)), rd_of (k 132 i (by omega))]
  exact h.2.2.2 i hi
theorem row_keep {M M' : Mem} (h : RowOk M) (k : ∀ q i, (q = 130 ∧ i = 8) ∨ (q = 137 ∧ i = 31) ∨ q = 156 ∨ q = 133 → M' q i = M q i) : RowOk M' := by
  unfold RowOk
  rw [rd_of (k 137 31 (by omega)), rd_of (k 130 8 (by omega))]
  refine ⟨h.1, h.2.1, h.2.2.1, fun i hi => ?_⟩
  rw [rd_of (k 156 i (by omega)), rd_of (k 133 i (by omega))]
  exact h.2.2.2 i hi
theorem sim_keep {M M' : Mem} (s : Sim M) (sk : SkyOk M') (hv : vw M' 137 = vw M 137) (h8 : ∀ i, M' 148 i = M' 134 i) (k : ∀ q i, Kp q i → M' q i = M q i) : Sim M' := by
  obtain ⟨s1, s2, s3, s4, s5, s6, s7, s8, s9⟩ := s
  have e0 : vw M' 0 = vw M 0 := vwW_congr (by decide) (fun q i _ g2 => k q i (by unfold Kp; omega))
  refine ⟨by rw [hv, e0, s1], by rw [e0]; exact s2, sk, early_keep s4 (fun i => k _ _ (by unfold Kp; omega)), back_keep s4 s5 (fun q i g => k q i (by unfold Kp; omega)), img_keep s6 (fun q i g => k q i (by unfold Kp; omega)), let_keep s7 (fun q i g => k q i (by unfold Kp; omega)), row_keep s8 (fun q i g => k q i (by unfold Kp; omega)), h8⟩
/-- scratch of the first side -/
def KM (M M' : Mem) : Prop := ∀ q i, (q < 22 ∨ (32 < q ∧ q < 121) ∨ (129 < q ∧ q ≠ 135 ∧ q ≠ 136)) → M' q i = M q i
theorem KM_refl (M : Mem) : KM M M := fun _ _ _ => rfl
theorem KM_trans {M M1 M2 : Mem} (h : KM M M1) (h' : KM M1 M2) : KM M M2 := fun q i g => by rw [h' q i g, h q i g]
theorem KM_up {M : Mem} {q i : Nat} {v : Int} (h : (22 ≤ q ∧ q ≤ 32) ∨ (121 ≤ q ∧ q ≤ 129) ∨ q = 135 ∨ q = 136) : KM M (mup M q i v) := fun a b g => mup_n _ (by omega)
theorem sim_KM {M M' : Mem} (s : Sim M) (sk : SkyOk M') (k : KM M M') : Sim M' := by
  refine sim_keep s sk ?_ ?_ (fun q i g => k q i (by unfold Kp at g; omega))
  · exact vw_congr (fun i _ => k _ _ (by omega)) (fun a i _ _ => k _ _ (by omega)) (fun z => absurd z (by decide)) (fun _ => ⟨k _ _ (by omega), k _ _ (by omega)⟩)
  · intro i
    rw [k 148 i (by omega), k 134 i (by omega)]
    exact s.2.2.2.2.2.2.2.2 i
theorem vw0_KM {M M' : Mem} (k : KM M M') : vw M' 0 = vw M 0 := vwW_congr (by decide) (fun q i _ _ => k q i (by omega))
/-- scratch of the second side -/
def KR (M M' : Mem) : Prop := ∀ q i, ¬ (138 ≤ q ∧ q ≤ 147) → q ≠ 149 → q ≠ 150 → q ≠ 157 → ¬ (q = 155 ∧ 136 ≤ i ∧ i < 204) → ¬ (q = 137 ∧ (i = 3 ∨ i = 7 ∨ i = 12 ∨ i = 13 ∨ i = 14 ∨ i = 20 ∨ i = 21 ∨ i = 23 ∨ i = 24 ∨ i = 25 ∨ i = 27 ∨ i = 28 ∨ i = 32)) → M' q i = M q i
theorem sim_KR {M M' : Mem} (s : Sim M) (k : KR M M') (hv : vw M' 137 = vw M 137) : Sim M' := by
  refine sim_keep s (SkyOk_keep s.2.2.1 (fun q i _ _ => k q i (by omega) (by omega) (by omega) (by omega) (by omega) (by omega))) hv ?_ (fun q i g => k q i (by unfold Kp at g; omega) (by unfold Kp at g; omega) (by unfold Kp at g; omega) (by unfold Kp at g; omega) (by unfold Kp at g; omega) (by unfold Kp at g; omega))
  intro i
  rw [k 148 i (by omega) (by omega) (by omega) (by omega) (by omega) (by omega), k 134 i (by omega) (by omega) (by omega) (by omega) (by omega) (by omega)]
  exact s.2.2.2.2.2.2.2.2 i
theorem sim_bump {M : Mem} (s : Sim M) (k : Nat) : Sim (bump 148 (bump 134 M k) k) := by
  have fr : ∀ q i, q ≠ 148 → q ≠ 134 → bump 148 (bump 134 M k) k q i = M q i := by
    intro q i h1 h2
    unfold bump
    rw [mup_ne _ h1, mup_ne _ h2]
  refine sim_keep s (SkyOk_keep s.2.2.1 (fun q i _ _ => fr q i (by omega) (by omega))) ?_ ?_ (fun q i g => fr q i (by unfold Kp at g; omega) (by unfold Kp at g; omega))
  · exact vw_congr (fun i _ => fr _ _ (by omega) (by omega)) (fun a i _ _ => fr _ _ (by omega) (by omega)) (fun z => absurd z (by decide)) (fun _ => ⟨fr _ _ (by omega) (by omega), fr _ _ (by omega) (by omega)⟩)
  · intro i
    have e := s.2.2.2.2.2.2.2.2
    unfold bump
    rw [mup_n (q := 148) _ (by omega : ¬ (134 = 148 ∧ i = k))]
    by_cases c : i = k
    · subst c
      show (if 148 = 148 ∧ i = i then Int32.ofInt (rd (mup M 134 i (rd M 134 i + 1)) 148 i + 1) else _) = (if 134 = 134 ∧ i = i then Int32.ofInt (rd M 134 i + 1) else _)
      rw [if_pos ⟨rfl, rfl⟩, if_pos ⟨rfl, rfl⟩, rd_upne _ _ _ _ _ _ (by omega), rd_of' (e i)]
    · rw [mup_n _ (by omega), mup_n _ (by omega), mup_n _ (by omega)]
      exact e i
/-- what the second side finds -/
theorem sim_rf {M M1 : Mem} (s : Sim M) (h : ∀ q i, 137 ≤ q → M1 q i = M q i) : WF 999 (vw M1 137) ∧ vw M1 137 = vw M 0 ∧ (rd M1 137 3 = rd M 0 3 ∧ rd M1 137 7 = rd M 0 7 ∧ rd M1 137 12 = rd M 0 12 ∧ rd M1 137 13 = rd M 0 13 ∧ rd M1 137 14 = rd M 0 14) ∧ (0 ≤ rd M 0 3 ∧ rd M 0 3 ≤ 6) ∧ (0 ≤ rd M 0 7 ∧ rd M 0 7 ≤ 8) ∧ (0 ≤ rd M 0 12 ∧ rd M 0 12 ≤ 5) ∧ (0 ≤ rd M 0 13 ∧ rd M 0 13 ≤ 999) ∧ (0 ≤ rd M 0 14 ∧ rd M 0 14 ≤ 9) := by
  have e : vw M1 137 = vw M 137 := vw_congr (fun i _ => h _ _ (by omega)) (fun a i _ _ => h _ _ (by omega)) (fun z => absurd z (by decide)) (fun _ => ⟨h _ _ (by omega), h _ _ (by omega)⟩)
  have e2 := e.trans s.1
  have b := sW s.2.1
  have c : ∀ i, i = 3 ∨ i = 7 ∨ i = 12 ∨ i = 13 ∨ i = 14 → rd M1 137 i = rd M 0 i := by
    intro i hi
    have := congrFun (congrFun e2 0) i
    rw [vw_s hi, vw_s hi] at this
    exact this
  exact ⟨by rw [e2]; exact s.2.1, e2, ⟨c 3 (by omega), c 7 (by omega), c 12 (by omega), c 13 (by omega), c 14 (by omega)⟩, b.2⟩
theorem sim_t {M : Mem} (s : Sim M) {i : Nat} (h : i < 8) : rd M 141 i = rd M 4 i ∧ rd M 142 i = rd M 5 i ∧ rd M 143 i = (if rd M 6 i = -1 then -9 else rd M 6 i) := by
  have e4 := congrFun (congrFun s.1 4) i
  have e5 := congrFun (congrFun s.1 5) i
  have e6 := congrFun (congrFun s.1 6) i
  rw [vw_4 M 137 h, vw_4 M 0 h] at e4
  rw [vw_5 M 137 h, vw_5 M 0 h] at e5
  have a := tW (w := 0) (by decide) s.2.1 h
  have b := tR (H := 999) (M := M) (by rw [s.1]; exact s.2.1) h
  simp only [Nat.reduceAdd] at *
  exact ⟨e4, e5, by omega⟩
theorem sim_p {M : Mem} (s : Sim M) {i : Nat} (h : i < 5) : rd M 144 i = rd M 7 i ∧ rd M 145 i = rd M 8 i ∧ rd M 146 i = rd M 9 i ∧ rd M 147 i = rd M 10 i := by
  have e7 := congrFun (congrFun s.1 7) i
  have e8 := congrFun (congrFun s.1 8) i
  have e9 := congrFun (congrFun s.1 9) i
  have e10 := congrFun (congrFun s.1 10) i
  rw [vw_7 M 137 h, vw_7 M 0 h] at e7
  rw [vw_8 M 137 h, vw_8 M 0 h] at e8
  rw [vw_9 M 137 h, vw_9 M 0 h] at e9
  rw [vw_10 M 137 h, vw_10 M 0 h] at e10
  simp only [Nat.reduceAdd] at *
  exact ⟨e7, e8, e9, e10⟩
theorem sim_f {M : Mem} (s : Sim M) {i : Nat} (h : i < 6) : rd M 138 i = rd M 1 i ∧ rd M 139 i = rd M 2 i ∧ rd M 140 i = rd M 3 i := by
  have e1 := congrFun (congrFun s.1 1) i
  have e2 := congrFun (congrFun s.1 2) i
  have e3 := congrFun (congrFun s.1 3) i
  rw [vw_1 M 137 h, vw_1 M 0 h] at e1
  rw [vw_2 M 137 h, vw_2 M 0 h] at e2
  rw [vw_3 M 137 h, vw_3 M 0 h] at e3
  simp only [Nat.reduceAdd] at *
  exact ⟨e1, e2, e3⟩
def Agr (m : Rs) (g : Mem → Rs) : Prop := Ok m (fun r M1 => I32 r ∧ Ok (g M1) (fun r' M2 => r' = r ∧ Sim M2))
def AgrL (m : Rs) (g : Mem → Rs) : Prop := Ok m (fun r M1 => I64 r ∧ Ok (g M1) (fun r' M2 => r' = r ∧ Sim M2))
/-! coasts gone on, thought of -/
theorem e_thinkOn {n : Nat} {M : Mem} {N : Int} (hn : 2000 ≤ n) (s : Sim M) (hN : 0 ≤ N ∧ N ≤ 100) : Ok (m_X5_thinkOn n M N) (fun _ M' => vw M' 22 = hoursS N.toNat (vw M 0) ∧ WF 1200 (vw M' 22) ∧ SkyOk M' ∧ Lk M' ∧ KM M M') := by
  unfold m_X5_thinkOn
  refine Ok_bd (e_begin hn s.2.2.1 s.2.1 (by decide)) ?_
  rintro _ M1 ⟨v1, k1, l1, f1⟩
  refine Ok_bd (e_goOn (H := 999) hn ⟨hN.1, by omega⟩ (by omega) k1 (by rw [v1]; exact s.2.1)) ?_
  rintro _ M2 ⟨v2, k2, l2, f2⟩
  refine Ok_ret ⟨by rw [v2, v1], ?_, k2, l2, ?_⟩
  · rw [v2, v1]
    exact WF_le (hoursS_wf N.toNat 0 _ s.2.1) (by omega)
  · intro q i hq
    rw [f2 q i (by omega) (by omega), f1 q i (by omega)]
/-- between minds and forgets -/
def KX (M M' : Mem) : Prop := ∀ q i, ¬ (138 ≤ q ∧ q ≤ 147) → q ≠ 149 → q ≠ 150 → q ≠ 157 → ¬ (q = 137 ∧ (i = 3 ∨ i = 7 ∨ i = 12 ∨ i = 13 ∨ i = 14 ∨ i = 20 ∨ i = 21 ∨ i = 32)) → M' q i = M q i
theorem KX_refl (M : Mem) : KX M M := fun _ _ _ _ _ _ _ => rfl
theorem KX_trans {M M1 M2 : Mem} (h : KX M M1) (h' : KX M1 M2) : KX M M2 := fun q i a b c d e => by rw [h' q i a b c d e, h q i a b c d e]
theorem KX_G {M M' : Mem} (h : KG M M') : KX M M' := fun q i a b c d e => h q i (by omega) (by omega) b c (by omega)
theorem KX_A {M M' : Mem} (h : KA M M') : KX M M' := KX_G (KG_A h)
theorem KX_up {M : Mem} {q i : Nat} {v : Int} (h : (138 ≤ q ∧ q ≤ 147) ∨ q = 157 ∨ (q = 137 ∧ (i = 3 ∨ i = 7 ∨ i = 12 ∨ i = 13 ∨ i = 14 ∨ i = 20 ∨ i = 21 ∨ i = 32))) : KX M (mup M q i v) := fun a b g1 g2 g3 g4 g5 => mup_n _ (by omega)
def Md (M M' : Mem) : Prop := kv M' 2 = vw M 137 ∧ KR M M'
theorem r_minds {n : Nat} {M : Mem} (hn : 2000 ≤ n) (s : Sim M) : Ok (m_X6_minds n M) (fun _ M' => vw M' 137 = vw M 137 ∧ Md M M' ∧ ∀ q i, q ≠ 155 → ¬ (q = 137 ∧ (i = 27 ∨ i = 28)) → M' q i = M q i) := by
  unfold m_X6_minds
  have hk : vw M 137 0 20 = -1 := by rw [s.1]; rfl
  have hy : vw M 137 0 21 = 0 := by rw [s.1]; rfl
  refine Ok_bd (r_keepv (s := 2) hn (by decide) hk hy) ?_
  rintro _ M1 ⟨h1, h2⟩
  refine Ok_ret ⟨?_, ⟨h1, fun q i a b c d e f => h2 q i (by omega) (by omega)⟩, fun q i a b => h2 q i (by omega) (by omega)⟩
  exact vw_congr (fun i _ => h2 _ _ (by omega) (by omega)) (fun a i _ _ => h2 _ _ (by omega) (by omega)) (fun z => absurd z (by decide)) (fun _ => ⟨h2 _ _ (by omega) (by omega), h2 _ _ (by omega) (by omega)⟩)
theorem r_forgets {n : Nat} {M M1 M2 : Mem} (hn : 2000 ≤ n) (s : Sim M) (md : Md M M1) (kx : KX M1 M2) : Ok (m_X6_forgets n M2) (fun _ M' => Sim M' ∧ vw M' 137 = vw M 137 ∧ KR M M' ∧ M' 157 = M2 157 ∧ M' 137 32 = M2 137 32) := by
  unfold m_X6_forgets
  have hk : vw M 137 0 20 = -1 := by rw [s.1]; rfl
  have hy : vw M 137 0 21 = 0 := by rw [s.1]; rfl
  refine Ok_bd (r_givev (s := 2) hn (by decide)) ?_
  rintro _ M3 ⟨h1, h2⟩
  refine Ok_wr (Ok_wr (Ok_ret ?_))
  have k2 : kv M2 2 = vw M 137 := by rw [kv_congr (M := M1) (fun b _ _ => kx _ _ (by omega) (by omega) (by omega) (by omega) (by omega))]; exact md.1
  have fr : ∀ q i, ¬ (138 ≤ q ∧ q ≤ 147) → ¬ (q = 137 ∧ (i = 3 ∨ i = 7 ∨ i = 12 ∨ i = 13 ∨ i = 14 ∨ i = 20 ∨ i = 21 ∨ i = 27 ∨ i = 28)) → mup (mup M3 137 20 (-9)) 137 21 0 q i = M2 q i := by
    intro q i a b
    rw [mup_n _ (by omega), mup_n _ (by omega), h2 q i a (by omega)]
  have kr : KR M (mup (mup M3 137 20 (-9)) 137 21 0) := by
    intro q i a b c d e f
    rw [fr q i a (by omega), kx q i a b c d (by omega), md.2 q i a b c d e f]
  have v : vw (mup (mup M3 137 20 (-9)) 137 21 0) 137 = vw M 137 := by
    funext k i
    by_cases c : k = 0 ∧ (i = 20 ∨ i = 21)
    · obtain ⟨rfl, c | c⟩ := c
      · subst c
        rw [v137k, hk, rd_upne _ _ _ _ _ _ (by omega), rd_ups _ _ _ (by decide)]; decide
      · subst c
        rw [v137s, hy, rd_ups _ _ _ (by decide)]
    · rw [← k2, ← h1 k i c]
      unfold vw
      by_cases k0 : k = 0
      · rw [if_pos k0, if_pos k0]
        unfold vs
        by_cases g : i = 3 ∨ i = 7 ∨ i = 12 ∨ i = 13 ∨ i = 14
        · rw [if_pos g, if_pos g, rd_upne _ _ _ _ _ _ (by omega), rd_upne _ _ _ _ _ _ (by omega)]
        · rw [if_neg g, if_neg g, if_neg (by omega), if_neg (by omega), if_neg (by omega), if_neg (by omega)]
      · rw [if_neg k0, if_neg k0]
        by_cases k6 : k = 6
        · rw [if_pos k6, if_pos k6, rd_upne _ _ _ _ _ _ (by omega), rd_upne _ _ _ _ _ _ (by omega)]
        · rw [if_neg k6, if_neg k6, rd_upne _ _ _ _ _ _ (by omega), rd_upne _ _ _ _ _ _ (by omega)]
  refine ⟨sim_KR s kr v, v, kr, ?_, fr 137 32 (by omega) (by omega)⟩
  funext i
  exact fr 157 i (by omega) (by omega)
