theorem lnk_le {k i : Nat} (h : i < lnk k) : k ≤ 10 := by
  unfold lnk at h
  by_cases q : k ≤ 10
  · exact q
  · rw [if_neg (by omega), if_neg (by omega), if_neg q] at h; omega
theorem rd_of' {M M' : Mem} {q i a b : Nat} (h : M' q i = M a b) : rd M' q i = rd M a b := congrArg Int32.toInt h
def ea (M : Mem) (j : Nat) : Nat := (rd M 131 j).toNat
/-- the rows of coasts that can be taken back to -/
def EarlyOk (M : Mem) : Prop := (∀ j, j < 8 → 33 ≤ rd M 131 j ∧ rd M 131 j ≤ 110 ∧ rd M 131 j % 11 = 0) ∧ ∀ i j, i < 8 → j < 8 → i ≠ j → rd M 131 i ≠ rd M 131 j
theorem vwW_congr {M M' : Mem} {w : Nat} (hw : w < 110 ∧ w ≠ 22) (h : ∀ q i, w ≤ q → q ≤ w + 10 → M' q i = M q i) : vw M' w = vw M w :=
  vw_congr (fun i _ => h w i (by omega) (by omega)) (fun k i _ _ => h (w + k) i (by omega) (by omega)) (fun z => absurd z hw.2) (fun z => by omega)
theorem vwE_congr {M M' : Mem} {w : Nat} (hw : w ≤ 110 ∧ w ≠ 22) (h : ∀ q i, w ≤ q → q ≤ w + 10 → M' q i = M q i) : vw M' w = vw M w :=
  vw_congr (fun i _ => h w i (by omega) (by omega)) (fun k i _ _ => h (w + k) i (by omega) (by omega)) (fun z => absurd z hw.2) (fun z => by omega)
theorem early_keep {M M' : Mem} (h : EarlyOk M) (k : ∀ i, M' 131 i = M 131 i) : EarlyOk M' := by
  refine ⟨fun j hj => ?_, fun i j hi hj hij => ?_⟩
  · rw [rd_of (k j)]; exact h.1 j hj
  · rw [rd_of (k i), rd_of (k j)]; exact h.2 i j hi hj hij
/-- scratch of the first side -/
def KM (M M' : Mem) : Prop := ∀ q i, (q < 22 ∨ (32 < q ∧ q < 121) ∨ (129 < q ∧ q ≠ 135 ∧ q ≠ 136)) → M' q i = M q i
theorem KM_refl (M : Mem) : KM M M := fun _ _ _ => rfl
theorem KM_trans {M M1 M2 : Mem} (h : KM M M1) (h' : KM M1 M2) : KM M M2 := fun q i g => by rw [h' q i g, h q i g]
theorem KM_up {M : Mem} {q i : Nat} {v : Int} (h : (22 ≤ q ∧ q ≤ 32) ∨ (121 ≤ q ∧ q ≤ 129) ∨ q = 135 ∨ q = 136) : KM M (mup M q i v) := fun a b g => mup_n _ (by omega)
theorem vw0_KM {M M' : Mem} (k : KM M M') : vw M' 0 = vw M 0 := vwW_congr (by decide) (fun q i _ _ => k q i (by omega))
