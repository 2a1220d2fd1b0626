def wr (M : Mem) (q i : Nat) (v : Int) (k : Mem → Rs) : Rs := k (mup M q i v)
def cpw (M : Mem) (q0 sp q1 dp n : Nat) (k : Mem → Rs) : Rs := k (mcp M q0 sp q1 dp n)
def lt (v : Int) (k : Int → Rs) : Rs := k v
def mxZ (a b : Int) : Int := if a < b then b else a
def abZ (a : Int) : Int := if 0 ≤ a then a else -a
def bUshr (a b : Int) : Int := ((Int32.ofInt a).toUInt32 >>> ((Int32.ofInt b).toUInt32 &&& Int32.toUInt32 31)).toInt32.toInt
theorem mx_rng {a b : Int} (ha : I32 a) (hb : I32 b) : I32 (mxZ a b) := by
  unfold mxZ
  by_cases h : a < b
  · rw [if_pos h]; exact hb
  · rw [if_neg h]; exact ha
theorem cmp_rng (a b : Int) : I32 (cmpZ a b) := by
  unfold cmpZ
  by_cases h : b < a
  · rw [if_pos h]; decide
  · rw [if_neg h]
    by_cases h2 : a = b
    · rw [if_pos h2]; decide
    · rw [if_neg h2]; decide
theorem ix32 {a z : Int} (h : 0 ≤ a ∧ a < z) (hz : z ≤ 2147483648) : I32 a := ⟨by omega, by omega⟩
def mnZ (a b : Int) : Int := if a < b then a else b
theorem ln_rng (q : Nat) : I32 ((ln q : Nat) : Int) := ⟨by omega, by have := ln_lt q; omega⟩
theorem ls_0 {b : List (Option AV)} : Lsub [] b := trivial
theorem ls_n {a b : List (Option AV)} {y : Option AV} (h : Lsub a b) : Lsub (none :: a) (y :: b) := h
theorem ls_s {a b : List (Option AV)} {x : AV} (h : Lsub a b) : Lsub (some x :: a) (some x :: b) := ⟨rfl, h⟩
theorem ar_w1 {w : Nat} (h : isW w) : ar (w + 1) 6 := ar_w h (by decide) (by decide)
theorem ar_w2 {w : Nat} (h : isW w) : ar (w + 2) 6 := ar_w h (by decide) (by decide)
theorem ar_w3 {w : Nat} (h : isW w) : ar (w + 3) 6 := ar_w h (by decide) (by decide)
theorem ar_w4 {w : Nat} (h : isW w) : ar (w + 4) 8 := ar_w h (by decide) (by decide)
theorem ar_w5 {w : Nat} (h : isW w) : ar (w + 5) 8 := ar_w h (by decide) (by decide)
theorem ar_w6 {w : Nat} (h : isW w) : ar (w + 6) 8 := ar_w h (by decide) (by decide)
theorem ar_w7 {w : Nat} (h : isW w) : ar (w + 7) 5 := ar_w h (by decide) (by decide)
theorem ar_w8 {w : Nat} (h : isW w) : ar (w + 8) 5 := ar_w h (by decide) (by decide)
theorem ar_w9 {w : Nat} (h : isW w) : ar (w + 9) 5 := ar_w h (by decide) (by decide)
theorem ar_w10 {w : Nat} (h : isW w) : ar (w + 10) 5 := ar_w h (by decide) (by decide)
theorem ar_1 : ar 1 6 := ⟨rfl, by decide, by decide, rfl⟩
theorem ar_2 : ar 2 6 := ⟨rfl, by decide, by decide, rfl⟩
theorem ar_3 : ar 3 6 := ⟨rfl, by decide, by decide, rfl⟩
theorem ar_4 : ar 4 8 := ⟨rfl, by decide, by decide, rfl⟩
theorem ar_5 : ar 5 8 := ⟨rfl, by decide, by decide, rfl⟩
theorem ar_6 : ar 6 8 := ⟨rfl, by decide, by decide, rfl⟩
theorem ar_7 : ar 7 5 := ⟨rfl, by decide, by decide, rfl⟩
theorem ar_8 : ar 8 5 := ⟨rfl, by decide, by decide, rfl⟩
theorem ar_9 : ar 9 5 := ⟨rfl, by decide, by decide, rfl⟩
theorem ar_10 : ar 10 5 := ⟨rfl, by decide, by decide, rfl⟩
theorem ar_12 : ar 12 6 := ⟨rfl, by decide, by decide, rfl⟩
theorem ar_13 : ar 13 6 := ⟨rfl, by decide, by decide, rfl⟩
theorem ar_14 : ar 14 6 := ⟨rfl, by decide, by decide, rfl⟩
theorem ar_15 : ar 15 8 := ⟨rfl, by decide, by decide, rfl⟩
theorem ar_16 : ar 16 8 := ⟨rfl, by decide, by decide, rfl⟩
theorem ar_17 : ar 17 8 := ⟨rfl, by decide, by decide, rfl⟩
theorem ar_18 : ar 18 5 := ⟨rfl, by decide, by decide, rfl⟩
theorem ar_19 : ar 19 5 := ⟨rfl, by decide, by decide, rfl⟩
theorem ar_20 : ar 20 5 := ⟨rfl, by decide, by decide, rfl⟩
theorem ar_21 : ar 21 5 := ⟨rfl, by decide, by decide, rfl⟩
theorem ar_23 : ar 23 6 := ⟨rfl, by decide, by decide, rfl⟩
theorem ar_24 : ar 24 6 := ⟨rfl, by decide, by decide, rfl⟩
theorem ar_25 : ar 25 6 := ⟨rfl, by decide, by decide, rfl⟩
theorem ar_26 : ar 26 8 := ⟨rfl, by decide, by decide, rfl⟩
theorem ar_27 : ar 27 8 := ⟨rfl, by decide, by decide, rfl⟩
theorem ar_28 : ar 28 8 := ⟨rfl, by decide, by decide, rfl⟩
theorem ar_29 : ar 29 5 := ⟨rfl, by decide, by decide, rfl⟩
theorem ar_30 : ar 30 5 := ⟨rfl, by decide, by decide, rfl⟩
theorem ar_31 : ar 31 5 := ⟨rfl, by decide, by decide, rfl⟩
theorem ar_32 : ar 32 5 := ⟨rfl, by decide, by decide, rfl⟩
theorem ar_122 : ar 122 6 := ⟨rfl, by decide, by decide, rfl⟩
theorem ar_123 : ar 123 6 := ⟨rfl, by decide, by decide, rfl⟩
theorem ar_124 : ar 124 6 := ⟨rfl, by decide, by decide, rfl⟩
theorem ar_125 : ar 125 1536 := ⟨rfl, by decide, by decide, rfl⟩
theorem ar_126 : ar 126 64 := ⟨rfl, by decide, by decide, rfl⟩
theorem ar_127 : ar 127 6 := ⟨rfl, by decide, by decide, rfl⟩
theorem ar_128 : ar 128 6 := ⟨rfl, by decide, by decide, rfl⟩
theorem ar_132 : ar 132 96 := ⟨rfl, by decide, by decide, rfl⟩
theorem ar_133 : ar 133 12 := ⟨rfl, by decide, by decide, rfl⟩
theorem ar_134 : ar 134 7 := ⟨rfl, by decide, by decide, rfl⟩
theorem ar_135 : ar 135 4 := ⟨rfl, by decide, by decide, rfl⟩
theorem ar_136 : ar 136 4 := ⟨rfl, by decide, by decide, rfl⟩
theorem rc_X4 {w : Nat} (h : isW w) : RC RX4 w := ⟨2, flW w, TX4, 15, ob_w h, rfl⟩
theorem rc_X3 : RC RX3 121 := ⟨1, fl121, TX3, 8, ob_121, rfl⟩
theorem rc_X0 : RC RX0 129 := ⟨0, fl129, TX0, 5, ob_129, rfl⟩
theorem rc_X5 : RC RX5 130 := ⟨3, fl130, TX5, 13, ob_130, rfl⟩
theorem g_X4_9 {w : Nat} (h : isW w) : GR RX4 9 w (w + 1) := ⟨2, flW w, 0, f_X4_9, ob_w h, rfl⟩
theorem g_X3_52 {w : Nat} (h : isW w) : GR RX3 52 w (w + 1) := ⟨2, flW w, 0, f_X3_52, ob_w h, rfl⟩
theorem g_X4_15 {w : Nat} (h : isW w) : GR RX4 15 w (w + 2) := ⟨2, flW w, 1, f_X4_15, ob_w h, rfl⟩
theorem g_X3_53 {w : Nat} (h : isW w) : GR RX3 53 w (w + 2) := ⟨2, flW w, 1, f_X3_53, ob_w h, rfl⟩
theorem g_X4_18 {w : Nat} (h : isW w) : GR RX4 18 w (w + 3) := ⟨2, flW w, 2, f_X4_18, ob_w h, rfl⟩
theorem g_X3_54 {w : Nat} (h : isW w) : GR RX3 54 w (w + 3) := ⟨2, flW w, 2, f_X3_54, ob_w h, rfl⟩
theorem g_X4_21 {w : Nat} (h : isW w) : GI RX4 21 w 3 := ⟨2, flW w, 3, f_X4_21, ob_w h, rfl⟩
theorem pf_X4_21 {w : Nat} (h : isW w) : PI RX4 21 w 3 .int := ⟨2, flW w, 3, p_X4_21, ob_w h, rfl⟩
theorem g_X3_49 {w : Nat} (h : isW w) : GI RX3 49 w 3 := ⟨2, flW w, 3, f_X3_49, ob_w h, rfl⟩
theorem pf_X3_49 {w : Nat} (h : isW w) : PI RX3 49 w 3 .int := ⟨2, flW w, 3, p_X3_49, ob_w h, rfl⟩
theorem g_X5_210 {w : Nat} (h : isW w) : GI RX5 210 w 3 := ⟨2, flW w, 3, f_X5_210, ob_w h, rfl⟩
theorem pf_X5_210 {w : Nat} (h : isW w) : PI RX5 210 w 3 .int := ⟨2, flW w, 3, p_X5_210, ob_w h, rfl⟩
theorem g_X4_25 {w : Nat} (h : isW w) : GR RX4 25 w (w + 4) := ⟨2, flW w, 4, f_X4_25, ob_w h, rfl⟩
theorem g_X0_120 {w : Nat} (h : isW w) : GR RX0 120 w (w + 4) := ⟨2, flW w, 4, f_X0_120, ob_w h, rfl⟩
theorem g_X5_162 {w : Nat} (h : isW w) : GR RX5 162 w (w + 4) := ⟨2, flW w, 4, f_X5_162, ob_w h, rfl⟩
theorem g_X4_28 {w : Nat} (h : isW w) : GR RX4 28 w (w + 5) := ⟨2, flW w, 5, f_X4_28, ob_w h, rfl⟩
theorem g_X0_108 {w : Nat} (h : isW w) : GR RX0 108 w (w + 5) := ⟨2, flW w, 5, f_X0_108, ob_w h, rfl⟩
theorem g_X5_165 {w : Nat} (h : isW w) : GR RX5 165 w (w + 5) := ⟨2, flW w, 5, f_X5_165, ob_w h, rfl⟩
theorem g_X4_31 {w : Nat} (h : isW w) : GR RX4 31 w (w + 6) := ⟨2, flW w, 6, f_X4_31, ob_w h, rfl⟩
theorem g_X0_111 {w : Nat} (h : isW w) : GR RX0 111 w (w + 6) := ⟨2, flW w, 6, f_X0_111, ob_w h, rfl⟩
theorem g_X5_168 {w : Nat} (h : isW w) : GR RX5 168 w (w + 6) := ⟨2, flW w, 6, f_X5_168, ob_w h, rfl⟩
theorem g_X4_34 {w : Nat} (h : isW w) : GI RX4 34 w 7 := ⟨2, flW w, 7, f_X4_34, ob_w h, rfl⟩
theorem pf_X4_34 {w : Nat} (h : isW w) : PI RX4 34 w 7 .int := ⟨2, flW w, 7, p_X4_34, ob_w h, rfl⟩
theorem g_X0_105 {w : Nat} (h : isW w) : GI RX0 105 w 7 := ⟨2, flW w, 7, f_X0_105, ob_w h, rfl⟩
theorem pf_X0_105 {w : Nat} (h : isW w) : PI RX0 105 w 7 .int := ⟨2, flW w, 7, p_X0_105, ob_w h, rfl⟩
theorem g_X5_207 {w : Nat} (h : isW w) : GI RX5 207 w 7 := ⟨2, flW w, 7, f_X5_207, ob_w h, rfl⟩
theorem pf_X5_207 {w : Nat} (h : isW w) : PI RX5 207 w 7 .int := ⟨2, flW w, 7, p_X5_207, ob_w h, rfl⟩
theorem g_X4_37 {w : Nat} (h : isW w) : GR RX4 37 w (w + 7) := ⟨2, flW w, 8, f_X4_37, ob_w h, rfl⟩
theorem g_X0_64 {w : Nat} (h : isW w) : GR RX0 64 w (w + 7) := ⟨2, flW w, 8, f_X0_64, ob_w h, rfl⟩
theorem g_X5_126 {w : Nat} (h : isW w) : GR RX5 126 w (w + 7) := ⟨2, flW w, 8, f_X5_126, ob_w h, rfl⟩
theorem g_X4_40 {w : Nat} (h : isW w) : GR RX4 40 w (w + 8) := ⟨2, flW w, 9, f_X4_40, ob_w h, rfl⟩
theorem g_X0_67 {w : Nat} (h : isW w) : GR RX0 67 w (w + 8) := ⟨2, flW w, 9, f_X0_67, ob_w h, rfl⟩
theorem g_X5_129 {w : Nat} (h : isW w) : GR RX5 129 w (w + 8) := ⟨2, flW w, 9, f_X5_129, ob_w h, rfl⟩
theorem g_X4_43 {w : Nat} (h : isW w) : GR RX4 43 w (w + 9) := ⟨2, flW w, 10, f_X4_43, ob_w h, rfl⟩
theorem g_X5_132 {w : Nat} (h : isW w) : GR RX5 132 w (w + 9) := ⟨2, flW w, 10, f_X5_132, ob_w h, rfl⟩
theorem g_X0_137 {w : Nat} (h : isW w) : GR RX0 137 w (w + 9) := ⟨2, flW w, 10, f_X0_137, ob_w h, rfl⟩
theorem g_X4_46 {w : Nat} (h : isW w) : GR RX4 46 w (w + 10) := ⟨2, flW w, 11, f_X4_46, ob_w h, rfl⟩
theorem g_X0_61 {w : Nat} (h : isW w) : GR RX0 61 w (w + 10) := ⟨2, flW w, 11, f_X0_61, ob_w h, rfl⟩
theorem g_X5_135 {w : Nat} (h : isW w) : GR RX5 135 w (w + 10) := ⟨2, flW w, 11, f_X5_135, ob_w h, rfl⟩
theorem g_X4_49 {w : Nat} (h : isW w) : GI RX4 49 w 12 := ⟨2, flW w, 12, f_X4_49, ob_w h, rfl⟩
theorem pf_X4_49 {w : Nat} (h : isW w) : PI RX4 49 w 12 .int := ⟨2, flW w, 12, p_X4_49, ob_w h, rfl⟩
theorem g_X0_58 {w : Nat} (h : isW w) : GI RX0 58 w 12 := ⟨2, flW w, 12, f_X0_58, ob_w h, rfl⟩
theorem pf_X0_58 {w : Nat} (h : isW w) : PI RX0 58 w 12 .int := ⟨2, flW w, 12, p_X0_58, ob_w h, rfl⟩
theorem g_X5_204 {w : Nat} (h : isW w) : GI RX5 204 w 12 := ⟨2, flW w, 12, f_X5_204, ob_w h, rfl⟩
theorem pf_X5_204 {w : Nat} (h : isW w) : PI RX5 204 w 12 .int := ⟨2, flW w, 12, p_X5_204, ob_w h, rfl⟩
theorem g_X4_52 {w : Nat} (h : isW w) : GI RX4 52 w 13 := ⟨2, flW w, 13, f_X4_52, ob_w h, rfl⟩
theorem pf_X4_52 {w : Nat} (h : isW w) : PI RX4 52 w 13 .int := ⟨2, flW w, 13, p_X4_52, ob_w h, rfl⟩
theorem g_X0_43 {w : Nat} (h : isW w) : GI RX0 43 w 13 := ⟨2, flW w, 13, f_X0_43, ob_w h, rfl⟩
theorem pf_X0_43 {w : Nat} (h : isW w) : PI RX0 43 w 13 .int := ⟨2, flW w, 13, p_X0_43, ob_w h, rfl⟩
theorem g_X5_116 {w : Nat} (h : isW w) : GI RX5 116 w 13 := ⟨2, flW w, 13, f_X5_116, ob_w h, rfl⟩
theorem pf_X5_116 {w : Nat} (h : isW w) : PI RX5 116 w 13 .int := ⟨2, flW w, 13, p_X5_116, ob_w h, rfl⟩
theorem g_X4_55 {w : Nat} (h : isW w) : GI RX4 55 w 14 := ⟨2, flW w, 14, f_X4_55, ob_w h, rfl⟩
theorem pf_X4_55 {w : Nat} (h : isW w) : PI RX4 55 w 14 .int := ⟨2, flW w, 14, p_X4_55, ob_w h, rfl⟩
theorem g_X0_84 {w : Nat} (h : isW w) : GI RX0 84 w 14 := ⟨2, flW w, 14, f_X0_84, ob_w h, rfl⟩
theorem pf_X0_84 {w : Nat} (h : isW w) : PI RX0 84 w 14 .int := ⟨2, flW w, 14, p_X0_84, ob_w h, rfl⟩
theorem g_X5_107 {w : Nat} (h : isW w) : GI RX5 107 w 14 := ⟨2, flW w, 14, f_X5_107, ob_w h, rfl⟩
theorem pf_X5_107 {w : Nat} (h : isW w) : PI RX5 107 w 14 .int := ⟨2, flW w, 14, p_X5_107, ob_w h, rfl⟩
theorem g_X3_9 : GR RX3 9 121 122 := ⟨1, fl121, 0, f_X3_9, ob_121, rfl⟩
theorem g_X3_15 : GR RX3 15 121 123 := ⟨1, fl121, 1, f_X3_15, ob_121, rfl⟩
theorem g_X3_18 : GR RX3 18 121 124 := ⟨1, fl121, 2, f_X3_18, ob_121, rfl⟩
theorem g_X3_21 : GI RX3 21 121 3 := ⟨1, fl121, 3, f_X3_21, ob_121, rfl⟩
theorem pf_X3_21 : PI RX3 21 121 3 .int := ⟨1, fl121, 3, p_X3_21, ob_121, rfl⟩
theorem g_X3_25 : GR RX3 25 121 125 := ⟨1, fl121, 4, f_X3_25, ob_121, rfl⟩
theorem g_X0_50 : GR RX0 50 121 125 := ⟨1, fl121, 4, f_X0_50, ob_121, rfl⟩
theorem g_X3_28 : GR RX3 28 121 126 := ⟨1, fl121, 5, f_X3_28, ob_121, rfl⟩
theorem g_X3_31 : GR RX3 31 121 127 := ⟨1, fl121, 6, f_X3_31, ob_121, rfl⟩
theorem g_X3_34 : GR RX3 34 121 128 := ⟨1, fl121, 7, f_X3_34, ob_121, rfl⟩
theorem g_X0_12 : GR RX0 12 129 22 := ⟨0, fl129, 0, f_X0_12, ob_129, rfl⟩
theorem g_X5_81 : GR RX5 81 129 22 := ⟨0, fl129, 0, f_X5_81, ob_129, rfl⟩
theorem g_X0_21 : GR RX0 21 129 121 := ⟨0, fl129, 1, f_X0_21, ob_129, rfl⟩
theorem g_X0_25 : GI RX0 25 129 2 := ⟨0, fl129, 2, f_X0_25, ob_129, rfl⟩
theorem pf_X0_25 : PI RX0 25 129 2 .int := ⟨0, fl129, 2, p_X0_25, ob_129, rfl⟩
theorem g_X0_29 : GI RX0 29 129 3 := ⟨0, fl129, 3, f_X0_29, ob_129, rfl⟩
theorem pf_X0_29 : PI RX0 29 129 3 .int := ⟨0, fl129, 3, p_X0_29, ob_129, rfl⟩
theorem g_X0_32 : GI RX0 32 129 4 := ⟨0, fl129, 4, f_X0_32, ob_129, rfl⟩
theorem pf_X0_32 : PI RX0 32 129 4 .boolean := ⟨0, fl129, 4, p_X0_32, ob_129, rfl⟩
theorem g_X5_10 : GR RX5 10 130 0 := ⟨3, fl130, 0, f_X5_10, ob_130, rfl⟩
theorem g_X5_16 : GR RX5 16 130 11 := ⟨3, fl130, 1, f_X5_16, ob_130, rfl⟩
theorem g_X5_19 : GI RX5 19 130 2 := ⟨3, fl130, 2, f_X5_19, ob_130, rfl⟩
theorem pf_X5_19 : PI RX5 19 130 2 .boolean := ⟨3, fl130, 2, p_X5_19, ob_130, rfl⟩
theorem g_X5_23 : GR RX5 23 130 131 := ⟨3, fl130, 3, f_X5_23, ob_130, rfl⟩
theorem g_X5_27 : GI RX5 27 130 4 := ⟨3, fl130, 4, f_X5_27, ob_130, rfl⟩
theorem pf_X5_27 : PI RX5 27 130 4 .int := ⟨3, fl130, 4, p_X5_27, ob_130, rfl⟩
theorem g_X5_31 : GR RX5 31 130 132 := ⟨3, fl130, 5, f_X5_31, ob_130, rfl⟩
theorem g_X5_35 : GI RX5 35 130 6 := ⟨3, fl130, 6, f_X5_35, ob_130, rfl⟩
theorem pf_X5_35 : PI RX5 35 130 6 .int := ⟨3, fl130, 6, p_X5_35, ob_130, rfl⟩
theorem g_X5_38 : GR RX5 38 130 133 := ⟨3, fl130, 7, f_X5_38, ob_130, rfl⟩
theorem g_X5_41 : GI RX5 41 130 8 := ⟨3, fl130, 8, f_X5_41, ob_130, rfl⟩
theorem pf_X5_41 : PI RX5 41 130 8 .int := ⟨3, fl130, 8, p_X5_41, ob_130, rfl⟩
theorem g_X5_44 : GR RX5 44 130 134 := ⟨3, fl130, 9, f_X5_44, ob_130, rfl⟩
theorem g_X5_50 : GR RX5 50 130 129 := ⟨3, fl130, 10, f_X5_50, ob_130, rfl⟩
theorem g_X5_54 : GR RX5 54 130 135 := ⟨3, fl130, 11, f_X5_54, ob_130, rfl⟩
theorem g_X5_57 : GR RX5 57 130 136 := ⟨3, fl130, 12, f_X5_57, ob_130, rfl⟩
section ROWS2
variable {own : String} {cc : ByteArray} {nL d rk : Nat} {sc : SC} {pc : Nat} {L : List (Option AV)} {st : List AV} {M : Mem} {o o1 o2 : Rs}
theorem y_leti {v : Int} {k : Int → Rs} (kk : ∀ x, Y own cc nL d rk sc pc L (iv x :: st) M (k x)) : Y own cc nL d rk sc pc L (iv v :: st) M (lt v k) := kk v
theorem y_letl {v : Int} {k : Int → Rs} (kk : ∀ x, Y own cc nL d rk sc pc L (jv x :: st) M (k x)) : Y own cc nL d rk sc pc L (jv v :: st) M (lt v k) := kk v
theorem y_iastw {q n : Nat} {a v : Int} {k : Mem → Rs} (hd : decode cc pc = .ok (.iastore, 1)) (har : ar q n) (h : 0 ≤ a ∧ a < (n : Int)) (kk : ∀ M1, Y own cc nL d rk sc (pc + 1) L st M1 (k M1)) : Y own cc nL d rk sc pc L (iv v :: iv a :: rv q :: st) M (wr M q (Int.toNat a) v k) := y_iast hd har h (kk _)
theorem y_aastw {a : Int} {q : Nat} {k : Mem → Rs} (hd : decode cc pc = .ok (.aastore, 1)) (h : 0 ≤ a ∧ a < 8) (hq : isW q) (kk : ∀ M1, Y own cc nL d rk sc (pc + 1) L st M1 (k M1)) : Y own cc nL d rk sc pc L (rv q :: iv a :: rv 131 :: st) M (wr M 131 (Int.toNat a) ((q : Nat) : Int) k) := y_aast hd h hq (kk _)
theorem y_putintw {index q x : Nat} {a : Int} {k : Mem → Rs} (hg : PI own index q x .int) (hd : decode cc pc = .ok (.putfield index, 3)) (kk : ∀ M1, Y own cc nL d rk sc (pc + 3) L st M1 (k M1)) : Y own cc nL d rk sc pc L (iv a :: rv q :: st) M (wr M q x a k) := y_putint hg hd (kk _)
theorem y_putboolw {index q x : Nat} {a : Int} {k : Mem → Rs} (hg : PI own index q x .boolean) (ha : a = 0 ∨ a = 1) (hd : decode cc pc = .ok (.putfield index, 3)) (kk : ∀ M1, Y own cc nL d rk sc (pc + 3) L st M1 (k M1)) : Y own cc nL d rk sc pc L (iv a :: rv q :: st) M (wr M q x a k) := y_putbool hg ha hd (kk _)
theorem y_copyw {index q0 q1 n0 n1 : Nat} {sp dp n : Int} {k : Mem → Rs} (hlk : Cond.methodLink own index arraycopyName ∈ lw_g) (hd : decode cc pc = .ok (.invokestatic index, 3)) (h0 : ar q0 n0) (h1 : ar q1 n1) (hs : 0 ≤ sp ∧ 0 ≤ dp ∧ 0 ≤ n ∧ sp + n ≤ (n0 : Int) ∧ dp + n ≤ (n1 : Int)) (hcat : (st.map catA).sum ≤ 8) (hfr : 1 ≤ d) (kk : ∀ M1, Y own cc nL d rk sc (pc + 3) L st M1 (k M1)) : Y own cc nL d rk sc pc L (iv n :: iv dp :: rv q1 :: iv sp :: rv q0 :: st) M (cpw M q0 (Int.toNat sp) q1 (Int.toNat dp) (Int.toNat n) k) := y_copy hlk hd h0 h1 hs hcat hfr (kk _)
theorem y_mmaxw {index : Nat} {a b : Int} (ha : I32 a) (hb : I32 b) (hlk : Cond.methodLink own index Lib.Math.max.name ∈ lw_g) (hd : decode cc pc = .ok (.invokestatic index, 3)) (hcat : (st.map catA).sum ≤ 8) (hfr : 1 ≤ d) (k : Y own cc nL d rk sc (pc + 3) L (iv (mxZ a b) :: st) M o) : Y own cc nL d rk sc pc L (iv b :: iv a :: st) M o := y_mmax ha hb hlk hd hcat hfr k
theorem y_mabsw {index : Nat} {a : Int} (ha : I32 a) (hlk : Cond.methodLink own index Lib.Math.abs.name ∈ lw_g) (hd : decode cc pc = .ok (.invokestatic index, 3)) (hcat : (st.map catA).sum ≤ 8) (hfr : 1 ≤ d) (k : Y own cc nL d rk sc (pc + 3) L (iv (abZ a) :: st) M o) : Y own cc nL d rk sc pc L (iv a :: st) M o := y_mabs ha hlk hd hcat hfr k
theorem y_iushr {a b : Int} (hd : decode cc pc = .ok (.iushr, 1)) (k : Y own cc nL d rk sc (pc + 1) L (iv (bUshr a b) :: st) M o) : Y own cc nL d rk sc pc L (iv b :: iv a :: st) M o := by
  intro res ho κ p l eV R s m args below meth c cells slots A Fin hF hR H locs ls hP hl
  exact lv_iushr hF.1 hF.2.1 hd (i_ofToInt _).symm (k res ho κ p l eV R s m args below meth c cells slots A Fin hF hR H locs ls hP hl)
end ROWS2
theorem lk_out2 {a k1 k2 o1 o2 dflt : Int} (h1 : ¬ a = k1) (h2 : ¬ a = k2) : Op.lookupswitch.offset [(k1, o1), (k2, o2)] dflt a = dflt := by
  simp [Op.lookupswitch.offset, h1, h2, Ne.symm h1, Ne.symm h2]
