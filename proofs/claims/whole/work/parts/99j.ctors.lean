/-! the constructors of the class -/
theorem aX.eq {B : Nat} {ad : Nat → Nat} (h : aX B ad) {id v : Nat} (o : Nat) (h1 : 11 ≤ id) (h2 : offX id = o) (h3 : B + o = v) : ad id = v := by rw [h id h1, h2, h3]
theorem pt_off : ∀ P ∈ ptl, (∀ i, i < 4 → 11 ≤ P + i ∧ offX (P + i) = offX (P + 4) + 1 + i) := by decide +kernel
theorem pt_4 {B : Nat} {ad : Nat → Nat} (h : aX B ad) {P K : Nat} (o : Nat) (hp : ptB P = true) (ho : offX (P + 4) = o) (hK : B + o + 1 = K) : ∀ i, i < 4 → ad (P + i) = K + i := fun i hi => by
  obtain ⟨h1, h2⟩ := pt_off P (pt_mem hp) i hi
  rw [h _ h1, h2, ho]
  omega
theorem nd_X0 : ∀ j, j < 14 → defaultValue (tyX0 j) = vp_V [.null, .null, .null, .null, .null, .null, .null, .null, .null, .null, .null, .null, .null, .null] j := by
  intro j hj
  rcases (show j = 0 ∨ j = 1 ∨ j = 2 ∨ j = 3 ∨ j = 4 ∨ j = 5 ∨ j = 6 ∨ j = 7 ∨ j = 8 ∨ j = 9 ∨ j = 10 ∨ j = 11 ∨ j = 12 ∨ j = 13 by omega) with rfl | rfl | rfl | rfl | rfl | rfl | rfl | rfl | rfl | rfl | rfl | rfl | rfl | rfl <;> rfl
theorem nd_X1 : ∀ j, j < 8 → defaultValue (tyX1 j) = vp_V [.null, .null, .null, .null, .null, .null, .null, .null] j := by
  intro j hj
  rcases (show j = 0 ∨ j = 1 ∨ j = 2 ∨ j = 3 ∨ j = 4 ∨ j = 5 ∨ j = 6 ∨ j = 7 by omega) with rfl | rfl | rfl | rfl | rfl | rfl | rfl | rfl <;> rfl
theorem nd_X2 : ∀ j, j < 11 → defaultValue (tyX2 j) = vp_V [.null, .null, .null, .null, .null, .null, .null, .null, .null, .null, .null] j := by
  intro j hj
  rcases (show j = 0 ∨ j = 1 ∨ j = 2 ∨ j = 3 ∨ j = 4 ∨ j = 5 ∨ j = 6 ∨ j = 7 ∨ j = 8 ∨ j = 9 ∨ j = 10 by omega) with rfl | rfl | rfl | rfl | rfl | rfl | rfl | rfl | rfl | rfl | rfl <;> rfl
theorem nd_X3 : ∀ j, j < 4 → defaultValue (tyX3 j) = vp_V [.null, .null, .null, .null] j := by
  intro j hj
  rcases (show j = 0 ∨ j = 1 ∨ j = 2 ∨ j = 3 by omega) with rfl | rfl | rfl | rfl <;> rfl
theorem nd_X4 : ∀ j, j < 3 → defaultValue (tyX4 j) = vp_V [.null, .null, .null] j := by
  intro j hj
  rcases (show j = 0 ∨ j = 1 ∨ j = 2 by omega) with rfl | rfl | rfl <;> rfl
theorem nd_X5 : ∀ j, j < 4 → defaultValue (tyX5 j) = vp_V [.null, .int 0, .null, .null] j := by
  intro j hj
  rcases (show j = 0 ∨ j = 1 ∨ j = 2 ∨ j = 3 by omega) with rfl | rfl | rfl | rfl <;> rfl
theorem nd_X6 : ∀ j, j < 12 → defaultValue (tyX6 j) = vp_V [.null, .null, .null, .null, .null, .null, .null, .null, .null, .null, .null, .null] j := by
  intro j hj
  rcases (show j = 0 ∨ j = 1 ∨ j = 2 ∨ j = 3 ∨ j = 4 ∨ j = 5 ∨ j = 6 ∨ j = 7 ∨ j = 8 ∨ j = 9 ∨ j = 10 ∨ j = 11 by omega) with rfl | rfl | rfl | rfl | rfl | rfl | rfl | rfl | rfl | rfl | rfl | rfl <;> rfl
theorem nd_X7 : ∀ j, j < 2 → defaultValue (tyX7 j) = vp_V [.null, .int 0] j := by
  intro j hj
  rcases (show j = 0 ∨ j = 1 by omega) with rfl | rfl <;> rfl
theorem nd_X9 : ∀ j, j < 17 → defaultValue (tyX9 j) = vp_V [.null, .null, .int 0, .int 0, .int 0, .int 0, .null, .null, .null, .null, .null, .null, .null, .null, .null, .null, .null] j := by
  intro j hj
  rcases (show j = 0 ∨ j = 1 ∨ j = 2 ∨ j = 3 ∨ j = 4 ∨ j = 5 ∨ j = 6 ∨ j = 7 ∨ j = 8 ∨ j = 9 ∨ j = 10 ∨ j = 11 ∨ j = 12 ∨ j = 13 ∨ j = 14 ∨ j = 15 ∨ j = 16 by omega) with rfl | rfl | rfl | rfl | rfl | rfl | rfl | rfl | rfl | rfl | rfl | rfl | rfl | rfl | rfl | rfl | rfl <;> rfl
theorem nd_X10 : ∀ j, j < 23 → defaultValue (tyX10 j) = vp_V [.null, .null, .int 0, .int 0, .int 0, .int 0, .int 0, .null, .null, .null, .null, .null, .null, .null, .null, .null, .int 0, .null, .null, .null, .null, .null, .null] j := by
  intro j hj
  rcases (show j = 0 ∨ j = 1 ∨ j = 2 ∨ j = 3 ∨ j = 4 ∨ j = 5 ∨ j = 6 ∨ j = 7 ∨ j = 8 ∨ j = 9 ∨ j = 10 ∨ j = 11 ∨ j = 12 ∨ j = 13 ∨ j = 14 ∨ j = 15 ∨ j = 16 ∨ j = 17 ∨ j = 18 ∨ j = 19 ∨ j = 20 ∨ j = 21 ∨ j = 22 by omega) with rfl | rfl | rfl | rfl | rfl | rfl | rfl | rfl | rfl | rfl | rfl | rfl | rfl | rfl | rfl | rfl | rfl | rfl | rfl | rfl | rfl | rfl | rfl <;> rfl
theorem zi_X7 : zYI yX7_init cX7_init 1 0 := ⟨⟨mw_3_9, mw_1_18, by decide +kernel⟩, mw_3_8, rfl⟩
theorem zi_X4 : zYI yX4_init cX4_init 1 0 := ⟨⟨mw_4_11, mw_2_6, by decide +kernel⟩, mw_4_10, rfl⟩
theorem zi_X5 : zYI yX5_init cX5_init 1 0 := ⟨⟨mw_8_0, mw_2_18, by decide +kernel⟩, mw_7_23, rfl⟩
theorem zi_X3 : zYI yX3_init cX3_init 1 0 := ⟨⟨mw_5_17, mw_3_5, by decide +kernel⟩, mw_5_16, rfl⟩
theorem zi_X2 : zYI yX2_init cX2_init 2 1 := ⟨⟨mw_7_10, mw_2_14, by decide +kernel⟩, mw_7_9, rfl⟩
theorem zi_X1 : zYI yX1_init cX1_init 1 0 := ⟨⟨mw_3_16, mw_2_2, by decide +kernel⟩, mw_3_15, rfl⟩
theorem zi_X0 : zYI yX0_init cX0_init 3 1 := ⟨⟨mw_4_18, mw_2_10, by decide +kernel⟩, mw_4_17, rfl⟩
theorem zi_X6 : zYI yX6_init cX6_init 4 3 := ⟨⟨mw_8_8, mw_2_22, by decide +kernel⟩, mw_8_7, rfl⟩
theorem zi_X9 : zYI yX9_init cX9_init 1 0 := ⟨⟨mw_1_9, mw_1_2, by decide +kernel⟩, mw_1_8, rfl⟩
theorem fi_RX7_9 (w : zWl) (h : w.2.1 = vwCl) : zFi w RX7 9 7 0 true (tyX7 0) := ⟨RX7, TX7, 2, tyX7, by rw [h]; rfl, inlX7, tyX7_ok, nmX7, by decide, mw_3_12, rfl, rfl, rfl⟩
theorem fi_RX7_13 (w : zWl) (h : w.2.1 = vwCl) : zFi w RX7 13 7 1 false (tyX7 1) := ⟨RX7, TX7, 2, tyX7, by rw [h]; rfl, inlX7, tyX7_ok, nmX7, by decide, mw_3_13, rfl, rfl, rfl⟩
theorem fi_RX4_9 (w : zWl) (h : w.2.1 = vwCl) : zFi w RX4 9 4 0 true (tyX4 0) := ⟨RX4, TX4, 3, tyX4, by rw [h]; rfl, inlX4, tyX4_ok, nmX4, by decide, mw_4_13, rfl, rfl, rfl⟩
theorem fi_RX4_15 (w : zWl) (h : w.2.1 = vwCl) : zFi w RX4 15 4 1 true (tyX4 1) := ⟨RX4, TX4, 3, tyX4, by rw [h]; rfl, inlX4, tyX4_ok, nmX4, by decide, mw_4_14, rfl, rfl, rfl⟩
theorem fi_RX4_18 (w : zWl) (h : w.2.1 = vwCl) : zFi w RX4 18 4 2 true (tyX4 2) := ⟨RX4, TX4, 3, tyX4, by rw [h]; rfl, inlX4, tyX4_ok, nmX4, by decide, mw_4_15, rfl, rfl, rfl⟩
theorem fi_RX5_11 (w : zWl) (h : w.2.1 = vwCl) : zFi w RX5 11 5 0 true (tyX5 0) := ⟨RX5, TX5, 4, tyX5, by rw [h]; rfl, inlX5, tyX5_ok, nmX5, by decide, mw_8_2, rfl, rfl, rfl⟩
theorem fi_RX5_15 (w : zWl) (h : w.2.1 = vwCl) : zFi w RX5 15 5 1 false (tyX5 1) := ⟨RX5, TX5, 4, tyX5, by rw [h]; rfl, inlX5, tyX5_ok, nmX5, by decide, mw_8_3, rfl, rfl, rfl⟩
theorem fi_RX5_19 (w : zWl) (h : w.2.1 = vwCl) : zFi w RX5 19 5 2 true (tyX5 2) := ⟨RX5, TX5, 4, tyX5, by rw [h]; rfl, inlX5, tyX5_ok, nmX5, by decide, mw_8_4, rfl, rfl, rfl⟩
theorem fi_RX5_23 (w : zWl) (h : w.2.1 = vwCl) : zFi w RX5 23 5 3 true (tyX5 3) := ⟨RX5, TX5, 4, tyX5, by rw [h]; rfl, inlX5, tyX5_ok, nmX5, by decide, mw_8_5, rfl, rfl, rfl⟩
theorem fi_RX2_9 (w : zWl) (h : w.2.1 = vwCl) : zFi w RX2 9 2 1 true (tyX2 1) := ⟨RX2, TX2, 11, tyX2, by rw [h]; rfl, inlX2, tyX2_ok, nmX2, by decide, mw_7_12, rfl, rfl, rfl⟩
theorem fi_RX2_17 (w : zWl) (h : w.2.1 = vwCl) : zFi w RX2 17 2 2 true (tyX2 2) := ⟨RX2, TX2, 11, tyX2, by rw [h]; rfl, inlX2, tyX2_ok, nmX2, by decide, mw_7_13, rfl, rfl, rfl⟩
theorem fi_RX2_20 (w : zWl) (h : w.2.1 = vwCl) : zFi w RX2 20 2 3 true (tyX2 3) := ⟨RX2, TX2, 11, tyX2, by rw [h]; rfl, inlX2, tyX2_ok, nmX2, by decide, mw_7_14, rfl, rfl, rfl⟩
theorem fi_RX2_23 (w : zWl) (h : w.2.1 = vwCl) : zFi w RX2 23 2 4 true (tyX2 4) := ⟨RX2, TX2, 11, tyX2, by rw [h]; rfl, inlX2, tyX2_ok, nmX2, by decide, mw_7_15, rfl, rfl, rfl⟩
theorem fi_RX2_26 (w : zWl) (h : w.2.1 = vwCl) : zFi w RX2 26 2 5 true (tyX2 5) := ⟨RX2, TX2, 11, tyX2, by rw [h]; rfl, inlX2, tyX2_ok, nmX2, by decide, mw_7_16, rfl, rfl, rfl⟩
theorem fi_RX2_29 (w : zWl) (h : w.2.1 = vwCl) : zFi w RX2 29 2 6 true (tyX2 6) := ⟨RX2, TX2, 11, tyX2, by rw [h]; rfl, inlX2, tyX2_ok, nmX2, by decide, mw_7_17, rfl, rfl, rfl⟩
theorem fi_RX2_32 (w : zWl) (h : w.2.1 = vwCl) : zFi w RX2 32 2 7 true (tyX2 7) := ⟨RX2, TX2, 11, tyX2, by rw [h]; rfl, inlX2, tyX2_ok, nmX2, by decide, mw_7_18, rfl, rfl, rfl⟩
theorem fi_RX2_35 (w : zWl) (h : w.2.1 = vwCl) : zFi w RX2 35 2 8 true (tyX2 8) := ⟨RX2, TX2, 11, tyX2, by rw [h]; rfl, inlX2, tyX2_ok, nmX2, by decide, mw_7_19, rfl, rfl, rfl⟩
theorem fi_RX2_38 (w : zWl) (h : w.2.1 = vwCl) : zFi w RX2 38 2 9 true (tyX2 9) := ⟨RX2, TX2, 11, tyX2, by rw [h]; rfl, inlX2, tyX2_ok, nmX2, by decide, mw_7_20, rfl, rfl, rfl⟩
theorem fi_RX2_41 (w : zWl) (h : w.2.1 = vwCl) : zFi w RX2 41 2 10 true (tyX2 10) := ⟨RX2, TX2, 11, tyX2, by rw [h]; rfl, inlX2, tyX2_ok, nmX2, by decide, mw_7_21, rfl, rfl, rfl⟩
theorem fi_RX2_44 (w : zWl) (h : w.2.1 = vwCl) : zFi w RX2 44 2 0 true (tyX2 0) := ⟨RX2, TX2, 11, tyX2, by rw [h]; rfl, inlX2, tyX2_ok, nmX2, by decide, mw_7_22, rfl, rfl, rfl⟩
theorem fi_RX3_9 (w : zWl) (h : w.2.1 = vwCl) : zFi w RX3 9 3 0 true (tyX3 0) := ⟨RX3, TX3, 4, tyX3, by rw [h]; rfl, inlX3, tyX3_ok, nmX3, by decide, mw_5_19, rfl, rfl, rfl⟩
theorem fi_RX3_15 (w : zWl) (h : w.2.1 = vwCl) : zFi w RX3 15 3 1 true (tyX3 1) := ⟨RX3, TX3, 4, tyX3, by rw [h]; rfl, inlX3, tyX3_ok, nmX3, by decide, mw_5_20, rfl, rfl, rfl⟩
theorem fi_RX3_18 (w : zWl) (h : w.2.1 = vwCl) : zFi w RX3 18 3 2 true (tyX3 2) := ⟨RX3, TX3, 4, tyX3, by rw [h]; rfl, inlX3, tyX3_ok, nmX3, by decide, mw_5_21, rfl, rfl, rfl⟩
theorem fi_RX3_21 (w : zWl) (h : w.2.1 = vwCl) : zFi w RX3 21 3 3 true (tyX3 3) := ⟨RX3, TX3, 4, tyX3, by rw [h]; rfl, inlX3, tyX3_ok, nmX3, by decide, mw_5_22, rfl, rfl, rfl⟩
theorem fi_RX1_9 (w : zWl) (h : w.2.1 = vwCl) : zFi w RX1 9 1 0 true (tyX1 0) := ⟨RX1, TX1, 8, tyX1, by rw [h]; rfl, inlX1, tyX1_ok, nmX1, by decide, mw_3_18, rfl, rfl, rfl⟩
theorem fi_RX1_13 (w : zWl) (h : w.2.1 = vwCl) : zFi w RX1 13 1 1 true (tyX1 1) := ⟨RX1, TX1, 8, tyX1, by rw [h]; rfl, inlX1, tyX1_ok, nmX1, by decide, mw_3_19, rfl, rfl, rfl⟩
theorem fi_RX1_16 (w : zWl) (h : w.2.1 = vwCl) : zFi w RX1 16 1 2 true (tyX1 2) := ⟨RX1, TX1, 8, tyX1, by rw [h]; rfl, inlX1, tyX1_ok, nmX1, by decide, mw_3_20, rfl, rfl, rfl⟩
theorem fi_RX1_19 (w : zWl) (h : w.2.1 = vwCl) : zFi w RX1 19 1 3 true (tyX1 3) := ⟨RX1, TX1, 8, tyX1, by rw [h]; rfl, inlX1, tyX1_ok, nmX1, by decide, mw_3_21, rfl, rfl, rfl⟩
theorem fi_RX1_22 (w : zWl) (h : w.2.1 = vwCl) : zFi w RX1 22 1 4 true (tyX1 4) := ⟨RX1, TX1, 8, tyX1, by rw [h]; rfl, inlX1, tyX1_ok, nmX1, by decide, mw_3_22, rfl, rfl, rfl⟩
theorem fi_RX1_25 (w : zWl) (h : w.2.1 = vwCl) : zFi w RX1 25 1 5 true (tyX1 5) := ⟨RX1, TX1, 8, tyX1, by rw [h]; rfl, inlX1, tyX1_ok, nmX1, by decide, mw_3_23, rfl, rfl, rfl⟩
theorem fi_RX1_28 (w : zWl) (h : w.2.1 = vwCl) : zFi w RX1 28 1 6 true (tyX1 6) := ⟨RX1, TX1, 8, tyX1, by rw [h]; rfl, inlX1, tyX1_ok, nmX1, by decide, mw_4_0, rfl, rfl, rfl⟩
theorem fi_RX1_33 (w : zWl) (h : w.2.1 = vwCl) : zFi w RX1 33 1 7 true (tyX1 7) := ⟨RX1, TX1, 8, tyX1, by rw [h]; rfl, inlX1, tyX1_ok, nmX1, by decide, mw_4_2, rfl, rfl, rfl⟩
theorem fi_RX6_9 (w : zWl) (h : w.2.1 = vwCl) : zFi w RX6 9 6 3 true (tyX6 3) := ⟨RX6, TX6, 12, tyX6, by rw [h]; rfl, inlX6, tyX6_ok, nmX6, by decide, mw_8_10, rfl, rfl, rfl⟩
theorem fi_RX6_17 (w : zWl) (h : w.2.1 = vwCl) : zFi w RX6 17 6 4 true (tyX6 4) := ⟨RX6, TX6, 12, tyX6, by rw [h]; rfl, inlX6, tyX6_ok, nmX6, by decide, mw_8_11, rfl, rfl, rfl⟩
theorem fi_RX6_20 (w : zWl) (h : w.2.1 = vwCl) : zFi w RX6 20 6 5 true (tyX6 5) := ⟨RX6, TX6, 12, tyX6, by rw [h]; rfl, inlX6, tyX6_ok, nmX6, by decide, mw_8_12, rfl, rfl, rfl⟩
theorem fi_RX6_23 (w : zWl) (h : w.2.1 = vwCl) : zFi w RX6 23 6 6 true (tyX6 6) := ⟨RX6, TX6, 12, tyX6, by rw [h]; rfl, inlX6, tyX6_ok, nmX6, by decide, mw_8_13, rfl, rfl, rfl⟩
theorem fi_RX6_26 (w : zWl) (h : w.2.1 = vwCl) : zFi w RX6 26 6 7 true (tyX6 7) := ⟨RX6, TX6, 12, tyX6, by rw [h]; rfl, inlX6, tyX6_ok, nmX6, by decide, mw_8_14, rfl, rfl, rfl⟩
theorem fi_RX6_29 (w : zWl) (h : w.2.1 = vwCl) : zFi w RX6 29 6 8 true (tyX6 8) := ⟨RX6, TX6, 12, tyX6, by rw [h]; rfl, inlX6, tyX6_ok, nmX6, by decide, mw_8_15, rfl, rfl, rfl⟩
theorem fi_RX6_35 (w : zWl) (h : w.2.1 = vwCl) : zFi w RX6 35 6 9 true (tyX6 9) := ⟨RX6, TX6, 12, tyX6, by rw [h]; rfl, inlX6, tyX6_ok, nmX6, by decide, mw_8_17, rfl, rfl, rfl⟩
theorem fi_RX6_39 (w : zWl) (h : w.2.1 = vwCl) : zFi w RX6 39 6 10 true (tyX6 10) := ⟨RX6, TX6, 12, tyX6, by rw [h]; rfl, inlX6, tyX6_ok, nmX6, by decide, mw_8_18, rfl, rfl, rfl⟩
theorem fi_RX6_42 (w : zWl) (h : w.2.1 = vwCl) : zFi w RX6 42 6 11 true (tyX6 11) := ⟨RX6, TX6, 12, tyX6, by rw [h]; rfl, inlX6, tyX6_ok, nmX6, by decide, mw_8_19, rfl, rfl, rfl⟩
theorem fi_RX6_45 (w : zWl) (h : w.2.1 = vwCl) : zFi w RX6 45 6 0 true (tyX6 0) := ⟨RX6, TX6, 12, tyX6, by rw [h]; rfl, inlX6, tyX6_ok, nmX6, by decide, mw_8_20, rfl, rfl, rfl⟩
theorem fi_RX6_49 (w : zWl) (h : w.2.1 = vwCl) : zFi w RX6 49 6 1 true (tyX6 1) := ⟨RX6, TX6, 12, tyX6, by rw [h]; rfl, inlX6, tyX6_ok, nmX6, by decide, mw_8_21, rfl, rfl, rfl⟩
theorem fi_RX6_53 (w : zWl) (h : w.2.1 = vwCl) : zFi w RX6 53 6 2 true (tyX6 2) := ⟨RX6, TX6, 12, tyX6, by rw [h]; rfl, inlX6, tyX6_ok, nmX6, by decide, mw_8_22, rfl, rfl, rfl⟩
theorem fi_RX0_10 (w : zWl) (h : w.2.1 = vwCl) : zFi w RX0 10 0 0 true (tyX0 0) := ⟨RX0, TX0, 14, tyX0, by rw [h]; rfl, inlX0, tyX0_ok, nmX0, by decide, mw_4_21, rfl, rfl, rfl⟩
theorem fi_RX0_18 (w : zWl) (h : w.2.1 = vwCl) : zFi w RX0 18 0 2 true (tyX0 2) := ⟨RX0, TX0, 14, tyX0, by rw [h]; rfl, inlX0, tyX0_ok, nmX0, by decide, mw_4_22, rfl, rfl, rfl⟩
theorem fi_RX0_22 (w : zWl) (h : w.2.1 = vwCl) : zFi w RX0 22 0 3 true (tyX0 3) := ⟨RX0, TX0, 14, tyX0, by rw [h]; rfl, inlX0, tyX0_ok, nmX0, by decide, mw_4_23, rfl, rfl, rfl⟩
theorem fi_RX0_25 (w : zWl) (h : w.2.1 = vwCl) : zFi w RX0 25 0 4 true (tyX0 4) := ⟨RX0, TX0, 14, tyX0, by rw [h]; rfl, inlX0, tyX0_ok, nmX0, by decide, mw_5_0, rfl, rfl, rfl⟩
theorem fi_RX0_28 (w : zWl) (h : w.2.1 = vwCl) : zFi w RX0 28 0 5 true (tyX0 5) := ⟨RX0, TX0, 14, tyX0, by rw [h]; rfl, inlX0, tyX0_ok, nmX0, by decide, mw_5_1, rfl, rfl, rfl⟩
theorem fi_RX0_31 (w : zWl) (h : w.2.1 = vwCl) : zFi w RX0 31 0 6 true (tyX0 6) := ⟨RX0, TX0, 14, tyX0, by rw [h]; rfl, inlX0, tyX0_ok, nmX0, by decide, mw_5_2, rfl, rfl, rfl⟩
theorem fi_RX0_34 (w : zWl) (h : w.2.1 = vwCl) : zFi w RX0 34 0 7 true (tyX0 7) := ⟨RX0, TX0, 14, tyX0, by rw [h]; rfl, inlX0, tyX0_ok, nmX0, by decide, mw_5_3, rfl, rfl, rfl⟩
theorem fi_RX0_37 (w : zWl) (h : w.2.1 = vwCl) : zFi w RX0 37 0 8 true (tyX0 8) := ⟨RX0, TX0, 14, tyX0, by rw [h]; rfl, inlX0, tyX0_ok, nmX0, by decide, mw_5_4, rfl, rfl, rfl⟩
theorem fi_RX0_40 (w : zWl) (h : w.2.1 = vwCl) : zFi w RX0 40 0 9 true (tyX0 9) := ⟨RX0, TX0, 14, tyX0, by rw [h]; rfl, inlX0, tyX0_ok, nmX0, by decide, mw_5_5, rfl, rfl, rfl⟩
theorem fi_RX0_43 (w : zWl) (h : w.2.1 = vwCl) : zFi w RX0 43 0 10 true (tyX0 10) := ⟨RX0, TX0, 14, tyX0, by rw [h]; rfl, inlX0, tyX0_ok, nmX0, by decide, mw_5_6, rfl, rfl, rfl⟩
theorem fi_RX0_46 (w : zWl) (h : w.2.1 = vwCl) : zFi w RX0 46 0 11 true (tyX0 11) := ⟨RX0, TX0, 14, tyX0, by rw [h]; rfl, inlX0, tyX0_ok, nmX0, by decide, mw_5_7, rfl, rfl, rfl⟩
theorem fi_RX0_51 (w : zWl) (h : w.2.1 = vwCl) : zFi w RX0 51 0 12 true (tyX0 12) := ⟨RX0, TX0, 14, tyX0, by rw [h]; rfl, inlX0, tyX0_ok, nmX0, by decide, mw_5_8, rfl, rfl, rfl⟩
theorem fi_RX0_54 (w : zWl) (h : w.2.1 = vwCl) : zFi w RX0 54 0 13 true (tyX0 13) := ⟨RX0, TX0, 14, tyX0, by rw [h]; rfl, inlX0, tyX0_ok, nmX0, by decide, mw_5_9, rfl, rfl, rfl⟩
theorem fi_RX0_58 (w : zWl) (h : w.2.1 = vwCl) : zFi w RX0 58 0 1 true (tyX0 1) := ⟨RX0, TX0, 14, tyX0, by rw [h]; rfl, inlX0, tyX0_ok, nmX0, by decide, mw_5_10, rfl, rfl, rfl⟩
theorem fi_RX9_13 (w : zWl) (h : w.2.1 = vwCl) : zFi w RX9 13 8 0 true (tyX9 0) := ⟨RX9, TX9, 17, tyX9, by rw [h]; rfl, inlX9, tyX9_ok, nmX9, by decide, mw_1_15, rfl, rfl, rfl⟩
theorem fi_RX9_19 (w : zWl) (h : w.2.1 = vwCl) : zFi w RX9 19 8 1 true (tyX9 1) := ⟨RX9, TX9, 17, tyX9, by rw [h]; rfl, inlX9, tyX9_ok, nmX9, by decide, mw_1_19, rfl, rfl, rfl⟩
theorem fi_RX9_23 (w : zWl) (h : w.2.1 = vwCl) : zFi w RX9 23 8 2 false (tyX9 2) := ⟨RX9, TX9, 17, tyX9, by rw [h]; rfl, inlX9, tyX9_ok, nmX9, by decide, mw_1_20, rfl, rfl, rfl⟩
theorem fi_RX9_27 (w : zWl) (h : w.2.1 = vwCl) : zFi w RX9 27 8 3 false (tyX9 3) := ⟨RX9, TX9, 17, tyX9, by rw [h]; rfl, inlX9, tyX9_ok, nmX9, by decide, mw_1_21, rfl, rfl, rfl⟩
theorem fi_RX9_30 (w : zWl) (h : w.2.1 = vwCl) : zFi w RX9 30 8 4 false (tyX9 4) := ⟨RX9, TX9, 17, tyX9, by rw [h]; rfl, inlX9, tyX9_ok, nmX9, by decide, mw_1_22, rfl, rfl, rfl⟩
theorem fi_RX9_33 (w : zWl) (h : w.2.1 = vwCl) : zFi w RX9 33 8 5 false (tyX9 5) := ⟨RX9, TX9, 17, tyX9, by rw [h]; rfl, inlX9, tyX9_ok, nmX9, by decide, mw_1_23, rfl, rfl, rfl⟩
theorem fi_RX9_39 (w : zWl) (h : w.2.1 = vwCl) : zFi w RX9 39 8 6 true (tyX9 6) := ⟨RX9, TX9, 17, tyX9, by rw [h]; rfl, inlX9, tyX9_ok, nmX9, by decide, mw_2_3, rfl, rfl, rfl⟩
theorem fi_RX9_46 (w : zWl) (h : w.2.1 = vwCl) : zFi w RX9 46 8 7 true (tyX9 7) := ⟨RX9, TX9, 17, tyX9, by rw [h]; rfl, inlX9, tyX9_ok, nmX9, by decide, mw_2_7, rfl, rfl, rfl⟩
theorem fi_RX9_55 (w : zWl) (h : w.2.1 = vwCl) : zFi w RX9 55 8 8 true (tyX9 8) := ⟨RX9, TX9, 17, tyX9, by rw [h]; rfl, inlX9, tyX9_ok, nmX9, by decide, mw_2_11, rfl, rfl, rfl⟩
theorem fi_RX9_62 (w : zWl) (h : w.2.1 = vwCl) : zFi w RX9 62 8 9 true (tyX9 9) := ⟨RX9, TX9, 17, tyX9, by rw [h]; rfl, inlX9, tyX9_ok, nmX9, by decide, mw_2_15, rfl, rfl, rfl⟩
theorem fi_RX9_69 (w : zWl) (h : w.2.1 = vwCl) : zFi w RX9 69 8 10 true (tyX9 10) := ⟨RX9, TX9, 17, tyX9, by rw [h]; rfl, inlX9, tyX9_ok, nmX9, by decide, mw_2_19, rfl, rfl, rfl⟩
theorem fi_RX9_78 (w : zWl) (h : w.2.1 = vwCl) : zFi w RX9 78 8 11 true (tyX9 11) := ⟨RX9, TX9, 17, tyX9, by rw [h]; rfl, inlX9, tyX9_ok, nmX9, by decide, mw_2_23, rfl, rfl, rfl⟩
theorem fi_RX9_82 (w : zWl) (h : w.2.1 = vwCl) : zFi w RX9 82 8 12 true (tyX9 12) := ⟨RX9, TX9, 17, tyX9, by rw [h]; rfl, inlX9, tyX9_ok, nmX9, by decide, mw_3_0, rfl, rfl, rfl⟩
theorem fi_RX9_86 (w : zWl) (h : w.2.1 = vwCl) : zFi w RX9 86 8 13 true (tyX9 13) := ⟨RX9, TX9, 17, tyX9, by rw [h]; rfl, inlX9, tyX9_ok, nmX9, by decide, mw_3_1, rfl, rfl, rfl⟩
theorem fi_RX9_89 (w : zWl) (h : w.2.1 = vwCl) : zFi w RX9 89 8 14 true (tyX9 14) := ⟨RX9, TX9, 17, tyX9, by rw [h]; rfl, inlX9, tyX9_ok, nmX9, by decide, mw_3_2, rfl, rfl, rfl⟩
theorem fi_RX9_95 (w : zWl) (h : w.2.1 = vwCl) : zFi w RX9 95 8 15 true (tyX9 15) := ⟨RX9, TX9, 17, tyX9, by rw [h]; rfl, inlX9, tyX9_ok, nmX9, by decide, mw_3_6, rfl, rfl, rfl⟩
theorem fi_RX9_99 (w : zWl) (h : w.2.1 = vwCl) : zFi w RX9 99 8 16 true (tyX9 16) := ⟨RX9, TX9, 17, tyX9, by rw [h]; rfl, inlX9, tyX9_ok, nmX9, by decide, mw_3_7, rfl, rfl, rfl⟩
abbrev rI_X7_init : Room := { frames := 1, cells := 1, slots := 400, locals := 12 }
set_option maxHeartbeats 4000000 in
set_option maxRecDepth 100000 in
theorem i_X7_init (l : Launch) (D : va_G) (kc : Nat → ClassId) (ad : Nat → Nat) (B : Nat) (hA : aX B ad) (s0 : zSt) (hZ : Z0 36 0 s0) : zMI l yX7_init cX7_init 1 rI_X7_init (wX D kc ad 36) 38 (ad 37) (.inr (7, [.null, .int 0])) [.ref (ad 37)] s0 s0 (B + 27) 1 400 := by
  refine zI_of (own := RX7) (by decide +kernel) rfl rfl (Nat.le_of_ble_eq_true rfl) ?_
  intro κ C hN hR
  refine e_at [(0, .ref (ad 37))] ⟨rfl, trivial⟩ ?_
  have C : zCX κ l (wX D kc ad 11) cX7_init RX7 rI_X7_init 1 (B + 27) := C.N 11
  refine e_aload_n (C.N 36) dX7_init_0 rfl rfl ?_
  refine e_obj (C.N 36) dX7_init_1 mw_3_10 (by decide) (Nat.le_of_ble_eq_true rfl) ?_
  refine e_aload_n (C.N 36) dX7_init_4 rfl rfl ?_
  refine e_sipush (v := nI 400) (C.N 36) dX7_init_5 (by decide +kernel) ?_
  refine x_newB C 400 37 1 400 dX7_init_8 rfl rfl (hA.eq 27 (by decide) rfl (by omega)) (by decide) (by decide) (Nat.le_of_ble_eq_true rfl) (Nat.le_of_ble_eq_true rfl) hZ rfl rfl rfl ?_
  refine e_putF2 (C.N 37) hN 0 [(ad 37, .inr (7, [.ref (ad 36), .int 0]))] dX7_init_10 (fi_RX7_9 _ rfl) rfl rfl rfl (show 0 < 2 by decide) rfl ?_
  refine e_aload_n (C.N 37) dX7_init_13 rfl rfl ?_
  refine e_iconst (v := nI 0) (C.N 37) dX7_init_14 (by decide +kernel) ?_
  refine e_putN2 (C.N 37) 0 [(ad 37, .inr (7, [.ref (ad 36), .int (nI 0)]))] dX7_init_15 (fi_RX7_13 _ rfl) rfl rfl rfl (show 1 < 2 by decide) rfl ?_
  refine e_commit2 (wX D kc ad 38) rfl ((zE_ob rfl).trans (by show Sum.inr (7, [_, Value.int (s0.2.2 4)]) = _; rw [hZ.2 4]; rfl)) (show 11 ≤ 37 by decide) rfl ?_
  exact e_vret (C.N 38) hR dX7_init_18
abbrev rI_X4_init : Room := { frames := 1, cells := 3, slots := 12, locals := 12 }
set_option maxHeartbeats 4000000 in
set_option maxRecDepth 100000 in
theorem i_X4_init (l : Launch) (D : va_G) (kc : Nat → ClassId) (ad : Nat → Nat) (B : Nat) (hA : aX B ad) (s0 : zSt) (hZ : Z0 63 0 s0) : zMI l yX4_init cX4_init 1 rI_X4_init (wX D kc ad 63) 67 (ad 66) (.inr (4, [.null, .null, .null])) [.ref (ad 66)] s0 s0 (B + 54) 3 12 := by
  refine zI_of (own := RX4) (by decide +kernel) rfl rfl (Nat.le_of_ble_eq_true rfl) ?_
  intro κ C hN hR
  refine e_at [(0, .ref (ad 66))] ⟨rfl, trivial⟩ ?_
  have C : zCX κ l (wX D kc ad 11) cX4_init RX4 rI_X4_init 1 (B + 54) := C.N 11
  refine e_aload_n (C.N 63) dX4_init_0 rfl rfl ?_
  refine e_obj (C.N 63) dX4_init_1 mw_4_12 (by decide) (Nat.le_of_ble_eq_true rfl) ?_
  refine e_aload_n (C.N 63) dX4_init_4 rfl rfl ?_
  refine e_iconst (v := nI 4) (C.N 63) dX4_init_5 (by decide +kernel) ?_
  refine x_newL C 4 64 1 4 dX4_init_6 rfl rfl (hA.eq 54 (by decide) rfl (by omega)) (by decide) (by decide) (Nat.le_of_ble_eq_true rfl) (Nat.le_of_ble_eq_true rfl) hZ rfl rfl rfl ?_
  refine e_putF2 (C.N 64) hN 0 [(ad 66, .inr (4, [.ref (ad 63), .null, .null]))] dX4_init_8 (fi_RX4_9 _ rfl) rfl rfl rfl (show 0 < 3 by decide) rfl ?_
  refine e_aload_n (C.N 64) dX4_init_11 rfl rfl ?_
  refine e_iconst (v := nI 4) (C.N 64) dX4_init_12 (by decide +kernel) ?_
  refine x_newL C 4 65 2 8 dX4_init_13 rfl rfl (hA.eq 55 (by decide) rfl (by omega)) (by decide) (by decide) (Nat.le_of_ble_eq_true rfl) (Nat.le_of_ble_eq_true rfl) (hZ.up (by decide)) rfl rfl rfl ?_
  refine e_putF2 (C.N 65) hN 0 [(ad 66, .inr (4, [.ref (ad 63), .ref (ad 64), .null]))] dX4_init_15 (fi_RX4_15 _ rfl) rfl rfl rfl (show 1 < 3 by decide) rfl ?_
  refine e_aload_n (C.N 65) dX4_init_18 rfl rfl ?_
  refine e_iconst (v := nI 4) (C.N 65) dX4_init_19 (by decide +kernel) ?_
  refine x_newL C 4 66 3 12 dX4_init_20 rfl rfl (hA.eq 56 (by decide) rfl (by omega)) (by decide) (by decide) (Nat.le_of_ble_eq_true rfl) (Nat.le_of_ble_eq_true rfl) (hZ.up (by decide)) rfl rfl rfl ?_
  refine e_putF2 (C.N 66) hN 0 [(ad 66, .inr (4, [.ref (ad 63), .ref (ad 64), .ref (ad 65)]))] dX4_init_22 (fi_RX4_18 _ rfl) rfl rfl rfl (show 2 < 3 by decide) rfl ?_
  refine e_commit2 (wX D kc ad 67) rfl ((zE_ob rfl).trans (rfl)) (show 11 ≤ 66 by decide) rfl ?_
  exact e_vret (C.N 67) hR dX4_init_25
abbrev rI_X5_init : Room := { frames := 1, cells := 3, slots := 600, locals := 12 }
set_option maxHeartbeats 4000000 in
set_option maxRecDepth 100000 in
theorem i_X5_init (l : Launch) (D : va_G) (kc : Nat → ClassId) (ad : Nat → Nat) (B : Nat) (hA : aX B ad) (s0 : zSt) (hZ : Z0 176 0 s0) : zMI l yX5_init cX5_init 1 rI_X5_init (wX D kc ad 176) 180 (ad 179) (.inr (5, [.null, .int 0, .null, .null])) [.ref (ad 179)] s0 s0 (B + 167) 3 600 := by
  refine zI_of (own := RX5) (by decide +kernel) rfl rfl (Nat.le_of_ble_eq_true rfl) ?_
  intro κ C hN hR
  refine e_at [(0, .ref (ad 179))] ⟨rfl, trivial⟩ ?_
  have C : zCX κ l (wX D kc ad 11) cX5_init RX5 rI_X5_init 1 (B + 167) := C.N 11
  refine e_aload_n (C.N 176) dX5_init_0 rfl rfl ?_
  refine e_obj (C.N 176) dX5_init_1 mw_8_1 (by decide) (Nat.le_of_ble_eq_true rfl) ?_
  refine e_aload_n (C.N 176) dX5_init_4 rfl rfl ?_
  refine e_sipush (v := nI 512) (C.N 176) dX5_init_5 (by decide +kernel) ?_
  refine x_newB C 512 177 1 512 dX5_init_8 rfl rfl (hA.eq 167 (by decide) rfl (by omega)) (by decide) (by decide) (Nat.le_of_ble_eq_true rfl) (Nat.le_of_ble_eq_true rfl) hZ rfl rfl rfl ?_
  refine e_putF2 (C.N 177) hN 0 [(ad 179, .inr (5, [.ref (ad 176), .int 0, .null, .null]))] dX5_init_10 (fi_RX5_11 _ rfl) rfl rfl rfl (show 0 < 4 by decide) rfl ?_
  refine e_aload_n (C.N 177) dX5_init_13 rfl rfl ?_
  refine e_iconst (v := nI 0) (C.N 177) dX5_init_14 (by decide +kernel) ?_
  refine e_putN2 (C.N 177) 0 [(ad 179, .inr (5, [.ref (ad 176), .int (nI 0), .null, .null]))] dX5_init_15 (fi_RX5_15 _ rfl) rfl rfl rfl (show 1 < 4 by decide) rfl ?_
  refine e_aload_n (C.N 177) dX5_init_18 rfl rfl ?_
  refine e_bipush (v := nI 80) (C.N 177) dX5_init_19 (by decide +kernel) ?_
  refine x_newL C 80 178 2 592 dX5_init_21 rfl rfl (hA.eq 168 (by decide) rfl (by omega)) (by decide) (by decide) (Nat.le_of_ble_eq_true rfl) (Nat.le_of_ble_eq_true rfl) (hZ.up (by decide)) rfl rfl rfl ?_
  refine e_putF2 (C.N 178) hN 0 [(ad 179, .inr (5, [.ref (ad 176), .int (nI 0), .ref (ad 177), .null]))] dX5_init_23 (fi_RX5_19 _ rfl) rfl rfl rfl (show 2 < 4 by decide) rfl ?_
  refine e_aload_n (C.N 178) dX5_init_26 rfl rfl ?_
  refine e_bipush (v := nI 8) (C.N 178) dX5_init_27 (by decide +kernel) ?_
  refine x_newL C 8 179 3 600 dX5_init_29 rfl rfl (hA.eq 169 (by decide) rfl (by omega)) (by decide) (by decide) (Nat.le_of_ble_eq_true rfl) (Nat.le_of_ble_eq_true rfl) (hZ.up (by decide)) rfl rfl rfl ?_
  refine e_putF2 (C.N 179) hN 0 [(ad 179, .inr (5, [.ref (ad 176), .int (nI 0), .ref (ad 177), .ref (ad 178)]))] dX5_init_31 (fi_RX5_23 _ rfl) rfl rfl rfl (show 3 < 4 by decide) rfl ?_
  refine e_commit2 (wX D kc ad 180) rfl ((zE_ob rfl).trans (by show Sum.inr (5, [_, Value.int (s0.2.2 5), _, _]) = _; rw [hZ.2 5]; rfl)) (show 11 ≤ 179 by decide) rfl ?_
  exact e_vret (C.N 180) hR dX5_init_34
abbrev rI_X2_init : Room := { frames := 1, cells := 10, slots := 94, locals := 12 }
set_option maxHeartbeats 4000000 in
set_option maxRecDepth 100000 in
theorem i_X2_init (l : Launch) (D : va_G) (kc : Nat → ClassId) (ad : Nat → Nat) (B : Nat) (hA : aX B ad) (s0 : zSt) (hZ : Z0 165 0 s0) : zMI l yX2_init cX2_init 2 rI_X2_init (wX D kc ad 165) 176 (ad 175) (.inr (2, [.null, .null, .null, .null, .null, .null, .null, .null, .null, .null, .null])) [.ref (ad 175), .ref (ad 62)] s0 s0 (B + 156) 10 94 := by
  refine zI_of (own := RX2) (by decide +kernel) rfl rfl (Nat.le_of_ble_eq_true rfl) ?_
  intro κ C hN hR
  refine e_at [(0, .ref (ad 175)), (1, .ref (ad 62))] ⟨rfl, rfl, trivial⟩ ?_
  have C : zCX κ l (wX D kc ad 11) cX2_init RX2 rI_X2_init 2 (B + 156) := C.N 11
  refine e_aload_n (C.N 165) dX2_init_0 rfl rfl ?_
  refine e_obj (C.N 165) dX2_init_1 mw_7_11 (by decide) (Nat.le_of_ble_eq_true rfl) ?_
  refine e_aload_n (C.N 165) dX2_init_4 rfl rfl ?_
  refine e_iconst (v := nI 4) (C.N 165) dX2_init_5 (by decide +kernel) ?_
  refine x_newL C 4 166 1 4 dX2_init_6 rfl rfl (hA.eq 156 (by decide) rfl (by omega)) (by decide) (by decide) (Nat.le_of_ble_eq_true rfl) (Nat.le_of_ble_eq_true rfl) hZ rfl rfl rfl ?_
  refine e_putF2 (C.N 166) hN 0 [(ad 175, .inr (2, [.null, .ref (ad 165), .null, .null, .null, .null, .null, .null, .null, .null, .null]))] dX2_init_8 (fi_RX2_9 _ rfl) rfl rfl rfl (show 1 < 11 by decide) rfl ?_
  refine e_aload_n (C.N 166) dX2_init_11 rfl rfl ?_
  refine e_bipush (v := nI 10) (C.N 166) dX2_init_12 (by decide +kernel) ?_
  refine x_newL C 10 167 2 14 dX2_init_14 rfl rfl (hA.eq 157 (by decide) rfl (by omega)) (by decide) (by decide) (Nat.le_of_ble_eq_true rfl) (Nat.le_of_ble_eq_true rfl) (hZ.up (by decide)) rfl rfl rfl ?_
  refine e_putF2 (C.N 167) hN 0 [(ad 175, .inr (2, [.null, .ref (ad 165), .ref (ad 166), .null, .null, .null, .null, .null, .null, .null, .null]))] dX2_init_16 (fi_RX2_17 _ rfl) rfl rfl rfl (show 2 < 11 by decide) rfl ?_
  refine e_aload_n (C.N 167) dX2_init_19 rfl rfl ?_
  refine e_bipush (v := nI 10) (C.N 167) dX2_init_20 (by decide +kernel) ?_
  refine x_newL C 10 168 3 24 dX2_init_22 rfl rfl (hA.eq 158 (by decide) rfl (by omega)) (by decide) (by decide) (Nat.le_of_ble_eq_true rfl) (Nat.le_of_ble_eq_true rfl) (hZ.up (by decide)) rfl rfl rfl ?_
  refine e_putF2 (C.N 168) hN 0 [(ad 175, .inr (2, [.null, .ref (ad 165), .ref (ad 166), .ref (ad 167), .null, .null, .null, .null, .null, .null, .null]))] dX2_init_24 (fi_RX2_20 _ rfl) rfl rfl rfl (show 3 < 11 by decide) rfl ?_
  refine e_aload_n (C.N 168) dX2_init_27 rfl rfl ?_
  refine e_bipush (v := nI 10) (C.N 168) dX2_init_28 (by decide +kernel) ?_
  refine x_newL C 10 169 4 34 dX2_init_30 rfl rfl (hA.eq 159 (by decide) rfl (by omega)) (by decide) (by decide) (Nat.le_of_ble_eq_true rfl) (Nat.le_of_ble_eq_true rfl) (hZ.up (by decide)) rfl rfl rfl ?_
  refine e_putF2 (C.N 169) hN 0 [(ad 175, .inr (2, [.null, .ref (ad 165), .ref (ad 166), .ref (ad 167), .ref (ad 168), .null, .null, .null, .null, .null, .null]))] dX2_init_32 (fi_RX2_23 _ rfl) rfl rfl rfl (show 4 < 11 by decide) rfl ?_
  refine e_aload_n (C.N 169) dX2_init_35 rfl rfl ?_
  refine e_bipush (v := nI 10) (C.N 169) dX2_init_36 (by decide +kernel) ?_
  refine x_newL C 10 170 5 44 dX2_init_38 rfl rfl (hA.eq 160 (by decide) rfl (by omega)) (by decide) (by decide) (Nat.le_of_ble_eq_true rfl) (Nat.le_of_ble_eq_true rfl) (hZ.up (by decide)) rfl rfl rfl ?_
  refine e_putF2 (C.N 170) hN 0 [(ad 175, .inr (2, [.null, .ref (ad 165), .ref (ad 166), .ref (ad 167), .ref (ad 168), .ref (ad 169), .null, .null, .null, .null, .null]))] dX2_init_40 (fi_RX2_26 _ rfl) rfl rfl rfl (show 5 < 11 by decide) rfl ?_
  refine e_aload_n (C.N 170) dX2_init_43 rfl rfl ?_
  refine e_bipush (v := nI 10) (C.N 170) dX2_init_44 (by decide +kernel) ?_
  refine x_newL C 10 171 6 54 dX2_init_46 rfl rfl (hA.eq 161 (by decide) rfl (by omega)) (by decide) (by decide) (Nat.le_of_ble_eq_true rfl) (Nat.le_of_ble_eq_true rfl) (hZ.up (by decide)) rfl rfl rfl ?_
  refine e_putF2 (C.N 171) hN 0 [(ad 175, .inr (2, [.null, .ref (ad 165), .ref (ad 166), .ref (ad 167), .ref (ad 168), .ref (ad 169), .ref (ad 170), .null, .null, .null, .null]))] dX2_init_48 (fi_RX2_29 _ rfl) rfl rfl rfl (show 6 < 11 by decide) rfl ?_
  refine e_aload_n (C.N 171) dX2_init_51 rfl rfl ?_
  refine e_bipush (v := nI 10) (C.N 171) dX2_init_52 (by decide +kernel) ?_
  refine x_newL C 10 172 7 64 dX2_init_54 rfl rfl (hA.eq 162 (by decide) rfl (by omega)) (by decide) (by decide) (Nat.le_of_ble_eq_true rfl) (Nat.le_of_ble_eq_true rfl) (hZ.up (by decide)) rfl rfl rfl ?_
  refine e_putF2 (C.N 172) hN 0 [(ad 175, .inr (2, [.null, .ref (ad 165), .ref (ad 166), .ref (ad 167), .ref (ad 168), .ref (ad 169), .ref (ad 170), .ref (ad 171), .null, .null, .null]))] dX2_init_56 (fi_RX2_32 _ rfl) rfl rfl rfl (show 7 < 11 by decide) rfl ?_
  refine e_aload_n (C.N 172) dX2_init_59 rfl rfl ?_
  refine e_bipush (v := nI 10) (C.N 172) dX2_init_60 (by decide +kernel) ?_
  refine x_newL C 10 173 8 74 dX2_init_62 rfl rfl (hA.eq 163 (by decide) rfl (by omega)) (by decide) (by decide) (Nat.le_of_ble_eq_true rfl) (Nat.le_of_ble_eq_true rfl) (hZ.up (by decide)) rfl rfl rfl ?_
  refine e_putF2 (C.N 173) hN 0 [(ad 175, .inr (2, [.null, .ref (ad 165), .ref (ad 166), .ref (ad 167), .ref (ad 168), .ref (ad 169), .ref (ad 170), .ref (ad 171), .ref (ad 172), .null, .null]))] dX2_init_64 (fi_RX2_35 _ rfl) rfl rfl rfl (show 8 < 11 by decide) rfl ?_
  refine e_aload_n (C.N 173) dX2_init_67 rfl rfl ?_
  refine e_bipush (v := nI 10) (C.N 173) dX2_init_68 (by decide +kernel) ?_
  refine x_newL C 10 174 9 84 dX2_init_70 rfl rfl (hA.eq 164 (by decide) rfl (by omega)) (by decide) (by decide) (Nat.le_of_ble_eq_true rfl) (Nat.le_of_ble_eq_true rfl) (hZ.up (by decide)) rfl rfl rfl ?_
  refine e_putF2 (C.N 174) hN 0 [(ad 175, .inr (2, [.null, .ref (ad 165), .ref (ad 166), .ref (ad 167), .ref (ad 168), .ref (ad 169), .ref (ad 170), .ref (ad 171), .ref (ad 172), .ref (ad 173), .null]))] dX2_init_72 (fi_RX2_38 _ rfl) rfl rfl rfl (show 9 < 11 by decide) rfl ?_
  refine e_aload_n (C.N 174) dX2_init_75 rfl rfl ?_
  refine e_bipush (v := nI 10) (C.N 174) dX2_init_76 (by decide +kernel) ?_
  refine x_newL C 10 175 10 94 dX2_init_78 rfl rfl (hA.eq 165 (by decide) rfl (by omega)) (by decide) (by decide) (Nat.le_of_ble_eq_true rfl) (Nat.le_of_ble_eq_true rfl) (hZ.up (by decide)) rfl rfl rfl ?_
  refine e_putF2 (C.N 175) hN 0 [(ad 175, .inr (2, [.null, .ref (ad 165), .ref (ad 166), .ref (ad 167), .ref (ad 168), .ref (ad 169), .ref (ad 170), .ref (ad 171), .ref (ad 172), .ref (ad 173), .ref (ad 174)]))] dX2_init_80 (fi_RX2_41 _ rfl) rfl rfl rfl (show 10 < 11 by decide) rfl ?_
  refine e_aload_n (C.N 175) dX2_init_83 rfl rfl ?_
  refine e_aload_n (C.N 175) dX2_init_84 rfl rfl ?_
  refine e_putF2 (C.N 175) hN 0 [(ad 175, .inr (2, [.ref (ad 62), .ref (ad 165), .ref (ad 166), .ref (ad 167), .ref (ad 168), .ref (ad 169), .ref (ad 170), .ref (ad 171), .ref (ad 172), .ref (ad 173), .ref (ad 174)]))] dX2_init_85 (fi_RX2_44 _ rfl) rfl rfl rfl (show 0 < 11 by decide) rfl ?_
  refine e_commit2 (wX D kc ad 176) rfl ((zE_ob rfl).trans (rfl)) (show 11 ≤ 175 by decide) rfl ?_
  exact e_vret (C.N 176) hR dX2_init_88
abbrev rI_X3_init : Room := { frames := 1, cells := 4, slots := 40, locals := 12 }
set_option maxHeartbeats 4000000 in
set_option maxRecDepth 100000 in
theorem i_X3_init (l : Launch) (D : va_G) (kc : Nat → ClassId) (ad : Nat → Nat) (P : Nat) (hp : ptB P = true) (K : Nat) (h4 : ∀ i, i < 4 → ad (P + i) = K + i) (s0 : zSt) (hZ : Z0 P 0 s0) : zMI l yX3_init cX3_init 1 rI_X3_init (wX D kc ad P) (P + 5) (ad (P + 4)) (.inr (3, [.null, .null, .null, .null])) [.ref (ad (P + 4))] s0 s0 K 4 40 := by
  have hq := pt_all P (pt_mem hp)
  refine zI_of (own := RX3) (by decide +kernel) rfl rfl (Nat.le_of_ble_eq_true rfl) ?_
  intro κ C hN hR
  refine e_at [(0, .ref (ad (P + 4)))] ⟨rfl, trivial⟩ ?_
  have C : zCX κ l (wX D kc ad 11) cX3_init RX3 rI_X3_init 1 K := C.N 11
  refine e_aload_n (C.N P) dX3_init_0 rfl rfl ?_
  refine e_obj (C.N P) dX3_init_1 mw_5_18 (by decide) (Nat.le_of_ble_eq_true rfl) ?_
  refine e_aload_n (C.N P) dX3_init_4 rfl rfl ?_
  refine e_bipush (v := nI 10) (C.N P) dX3_init_5 (by decide +kernel) ?_
  refine x_newL C 10 (P + 1) 1 10 dX3_init_7 hq.2.2.1.1 hq.2.2.1.2 (h4 0 (by omega)) (by have := hq.2.2.2.2.2.2.1; omega) (by decide) (Nat.le_of_ble_eq_true rfl) (Nat.le_of_ble_eq_true rfl) (hZ.up (by omega)) rfl rfl rfl ?_
  refine e_putF2 (C.N (P + 1)) hN 0 [(ad (P + 4), .inr (3, [.ref (ad (P + 0)), .null, .null, .null]))] dX3_init_9 (fi_RX3_9 _ rfl) rfl rfl rfl (show 0 < 4 by decide) rfl ?_
  refine e_aload_n (C.N (P + 1)) dX3_init_12 rfl rfl ?_
  refine e_bipush (v := nI 10) (C.N (P + 1)) dX3_init_13 (by decide +kernel) ?_
  refine x_newL C 10 (P + 2) 2 20 dX3_init_15 hq.2.2.2.1.1 hq.2.2.2.1.2 (h4 1 (by omega)) (by have := hq.2.2.2.2.2.2.1; omega) (by decide) (Nat.le_of_ble_eq_true rfl) (Nat.le_of_ble_eq_true rfl) (hZ.up (by omega)) rfl rfl rfl ?_
  refine e_putF2 (C.N (P + 2)) hN 0 [(ad (P + 4), .inr (3, [.ref (ad (P + 0)), .ref (ad (P + 1)), .null, .null]))] dX3_init_17 (fi_RX3_15 _ rfl) rfl rfl rfl (show 1 < 4 by decide) rfl ?_
  refine e_aload_n (C.N (P + 2)) dX3_init_20 rfl rfl ?_
  refine e_bipush (v := nI 10) (C.N (P + 2)) dX3_init_21 (by decide +kernel) ?_
  refine x_newL C 10 (P + 3) 3 30 dX3_init_23 hq.2.2.2.2.1.1 hq.2.2.2.2.1.2 (h4 2 (by omega)) (by have := hq.2.2.2.2.2.2.1; omega) (by decide) (Nat.le_of_ble_eq_true rfl) (Nat.le_of_ble_eq_true rfl) (hZ.up (by omega)) rfl rfl rfl ?_
  refine e_putF2 (C.N (P + 3)) hN 0 [(ad (P + 4), .inr (3, [.ref (ad (P + 0)), .ref (ad (P + 1)), .ref (ad (P + 2)), .null]))] dX3_init_25 (fi_RX3_18 _ rfl) rfl rfl rfl (show 2 < 4 by decide) rfl ?_
  refine e_aload_n (C.N (P + 3)) dX3_init_28 rfl rfl ?_
  refine e_bipush (v := nI 10) (C.N (P + 3)) dX3_init_29 (by decide +kernel) ?_
  refine x_newL C 10 (P + 4) 4 40 dX3_init_31 hq.2.2.2.2.2.1.1 hq.2.2.2.2.2.1.2 (h4 3 (by omega)) (by have := hq.2.2.2.2.2.2.1; omega) (by decide) (Nat.le_of_ble_eq_true rfl) (Nat.le_of_ble_eq_true rfl) (hZ.up (by omega)) rfl rfl rfl ?_
  refine e_putF2 (C.N (P + 4)) hN 0 [(ad (P + 4), .inr (3, [.ref (ad (P + 0)), .ref (ad (P + 1)), .ref (ad (P + 2)), .ref (ad (P + 3))]))] dX3_init_33 (fi_RX3_21 _ rfl) rfl rfl rfl (show 3 < 4 by decide) rfl ?_
  refine e_commit2 (wX D kc ad (P + 5)) rfl ((zE_ob hq.1).trans ?_) (show 11 ≤ P + 4 by have := hq.2.2.2.2.2.2.1; omega) rfl ?_
  · show Sum.inr ((obX (P + 4)).1, (obX (P + 4)).2.map _) = _
    rw [hq.2.1]
    rfl
  exact e_vret (C.N (P + 5)) hR dX3_init_36
abbrev rI_X1_init : Room := { frames := 1, cells := 24, slots := 256, locals := 27 }
set_option maxHeartbeats 4000000 in
set_option maxRecDepth 100000 in
theorem i_X1_init (l : Launch) (D : va_G) (kc : Nat → ClassId) (ad : Nat → Nat) (B : Nat) (hA : aX B ad) (s0 : zSt) (hZ : Z0 38 0 s0) : zMI l yX1_init cX1_init 1 rI_X1_init (wX D kc ad 38) 63 (ad 62) (.inr (1, [.null, .null, .null, .null, .null, .null, .null, .null])) [.ref (ad 62)] s0 (fX1_load 3 39 s0) (B + 29) 24 256 := by
  refine zI_of (own := RX1) (by decide +kernel) rfl rfl (Nat.le_of_ble_eq_true rfl) ?_
  intro κ C hN hR
  refine e_at [(0, .ref (ad 62))] ⟨rfl, trivial⟩ ?_
  have C : zCX κ l (wX D kc ad 11) cX1_init RX1 rI_X1_init 1 (B + 29) := C.N 11
  have hm : ∀ i, i < 16 → kdX (45 + i) = 0 ∧ lnX (45 + i) = 10 ∧ offX (45 + i) = 37 + i := by decide +kernel
  refine e_aload_n (C.N 38) dX1_init_0 rfl rfl ?_
  refine e_obj (C.N 38) dX1_init_1 mw_3_17 (by decide) (Nat.le_of_ble_eq_true rfl) ?_
  refine e_aload_n (C.N 38) dX1_init_4 rfl rfl ?_
  refine e_bipush (v := nI 10) (C.N 38) dX1_init_5 (by decide +kernel) ?_
  refine x_newL C 10 39 1 10 dX1_init_7 rfl rfl (hA.eq 29 (by decide) rfl (by omega)) (by decide) (by decide) (Nat.le_of_ble_eq_true rfl) (Nat.le_of_ble_eq_true rfl) hZ rfl rfl rfl ?_
  refine e_putF2 (C.N 39) hN 0 [(ad 62, .inr (1, [.ref (ad 38), .null, .null, .null, .null, .null, .null, .null]))] dX1_init_9 (fi_RX1_9 _ rfl) rfl rfl rfl (show 0 < 8 by decide) rfl ?_
  refine e_aload_n (C.N 39) dX1_init_12 rfl rfl ?_
  refine e_bipush (v := nI 10) (C.N 39) dX1_init_13 (by decide +kernel) ?_
  refine x_newL C 10 40 2 20 dX1_init_15 rfl rfl (hA.eq 30 (by decide) rfl (by omega)) (by decide) (by decide) (Nat.le_of_ble_eq_true rfl) (Nat.le_of_ble_eq_true rfl) (hZ.up (by decide)) rfl rfl rfl ?_
  refine e_putF2 (C.N 40) hN 0 [(ad 62, .inr (1, [.ref (ad 38), .ref (ad 39), .null, .null, .null, .null, .null, .null]))] dX1_init_17 (fi_RX1_13 _ rfl) rfl rfl rfl (show 1 < 8 by decide) rfl ?_
  refine e_aload_n (C.N 40) dX1_init_20 rfl rfl ?_
  refine e_bipush (v := nI 20) (C.N 40) dX1_init_21 (by decide +kernel) ?_
  refine x_newL C 20 41 3 40 dX1_init_23 rfl rfl (hA.eq 31 (by decide) rfl (by omega)) (by decide) (by decide) (Nat.le_of_ble_eq_true rfl) (Nat.le_of_ble_eq_true rfl) (hZ.up (by decide)) rfl rfl rfl ?_
  refine e_putF2 (C.N 41) hN 0 [(ad 62, .inr (1, [.ref (ad 38), .ref (ad 39), .ref (ad 40), .null, .null, .null, .null, .null]))] dX1_init_25 (fi_RX1_16 _ rfl) rfl rfl rfl (show 2 < 8 by decide) rfl ?_
  refine e_aload_n (C.N 41) dX1_init_28 rfl rfl ?_
  refine e_bipush (v := nI 10) (C.N 41) dX1_init_29 (by decide +kernel) ?_
  refine x_newL C 10 42 4 50 dX1_init_31 rfl rfl (hA.eq 32 (by decide) rfl (by omega)) (by decide) (by decide) (Nat.le_of_ble_eq_true rfl) (Nat.le_of_ble_eq_true rfl) (hZ.up (by decide)) rfl rfl rfl ?_
  refine e_putF2 (C.N 42) hN 0 [(ad 62, .inr (1, [.ref (ad 38), .ref (ad 39), .ref (ad 40), .ref (ad 41), .null, .null, .null, .null]))] dX1_init_33 (fi_RX1_19 _ rfl) rfl rfl rfl (show 3 < 8 by decide) rfl ?_
  refine e_aload_n (C.N 42) dX1_init_36 rfl rfl ?_
  refine e_bipush (v := nI 10) (C.N 42) dX1_init_37 (by decide +kernel) ?_
  refine x_newL C 10 43 5 60 dX1_init_39 rfl rfl (hA.eq 33 (by decide) rfl (by omega)) (by decide) (by decide) (Nat.le_of_ble_eq_true rfl) (Nat.le_of_ble_eq_true rfl) (hZ.up (by decide)) rfl rfl rfl ?_
  refine e_putF2 (C.N 43) hN 0 [(ad 62, .inr (1, [.ref (ad 38), .ref (ad 39), .ref (ad 40), .ref (ad 41), .ref (ad 42), .null, .null, .null]))] dX1_init_41 (fi_RX1_22 _ rfl) rfl rfl rfl (show 4 < 8 by decide) rfl ?_
  refine e_aload_n (C.N 43) dX1_init_44 rfl rfl ?_
  refine e_bipush (v := nI 10) (C.N 43) dX1_init_45 (by decide +kernel) ?_
  refine x_newL C 10 44 6 70 dX1_init_47 rfl rfl (hA.eq 34 (by decide) rfl (by omega)) (by decide) (by decide) (Nat.le_of_ble_eq_true rfl) (Nat.le_of_ble_eq_true rfl) (hZ.up (by decide)) rfl rfl rfl ?_
  refine e_putF2 (C.N 44) hN 0 [(ad 62, .inr (1, [.ref (ad 38), .ref (ad 39), .ref (ad 40), .ref (ad 41), .ref (ad 42), .ref (ad 43), .null, .null]))] dX1_init_49 (fi_RX1_25 _ rfl) rfl rfl rfl (show 5 < 8 by decide) rfl ?_
  refine e_aload_n (C.N 44) dX1_init_52 rfl rfl ?_
  refine e_bipush (v := nI 10) (C.N 44) dX1_init_53 (by decide +kernel) ?_
  refine x_newL C 10 45 7 80 dX1_init_55 rfl rfl (hA.eq 35 (by decide) rfl (by omega)) (by decide) (by decide) (Nat.le_of_ble_eq_true rfl) (Nat.le_of_ble_eq_true rfl) (hZ.up (by decide)) rfl rfl rfl ?_
  refine e_putF2 (C.N 45) hN 0 [(ad 62, .inr (1, [.ref (ad 38), .ref (ad 39), .ref (ad 40), .ref (ad 41), .ref (ad 42), .ref (ad 43), .ref (ad 44), .null]))] dX1_init_57 (fi_RX1_28 _ rfl) rfl rfl rfl (show 6 < 8 by decide) rfl ?_
  refine e_aload_n (C.N 45) dX1_init_60 rfl rfl ?_
  refine e_bipush (v := nI 16) (C.N 45) dX1_init_61 (by decide +kernel) ?_
  refine e_bipush (v := nI 10) (C.N 45) dX1_init_63 (by decide +kernel) ?_
  refine x_mna C 16 10 61 62 24 256 dX1_init_65 mw_4_1 (fun i hi => (fun i hi => ⟨(hm i hi).1, (hm i hi).2.1, hA.eq (37 + i) (by omega) (hm i hi).2.2 (by omega)⟩ : ∀ i, i < 16 → _ ∧ _ ∧ _) i hi) ⟨rfl, rfl, (hA.eq 36 (by decide) rfl (by omega)), fun j hj => rfl⟩ (by decide) (by decide) (by decide) (Nat.le_of_ble_eq_true rfl) (Nat.le_of_ble_eq_true rfl) (hZ.up (by decide)) rfl rfl rfl rfl ?_
  refine e_putF2 (C.N 62) hN 0 [(ad 62, .inr (1, [.ref (ad 38), .ref (ad 39), .ref (ad 40), .ref (ad 41), .ref (ad 42), .ref (ad 43), .ref (ad 44), .ref (ad 61)]))] dX1_init_69 (fi_RX1_33 _ rfl) rfl rfl rfl (show 7 < 8 by decide) rfl ?_
  refine e_commit2 (wX D kc ad 63) rfl ((zE_ob rfl).trans (rfl)) (show 11 ≤ 62 by decide) rfl ?_
  refine e_aload_n (C.N 63) dX1_init_72 rfl rfl ?_
  refine e_gets (C.N 63) (id := 3) dX1_init_73 (show 3 < 11 by decide) rfl mw_4_3 ?_
  refine e_aload_n (C.N 63) dX1_init_76 rfl rfl ?_
  refine e_getR (C.N 63) dX1_init_77 (fx_RX1_13 D kc ad 63) (show 11 ≤ 62 by decide) (show 62 < 63 by decide) ?_
  refine e_callV0 (T := TX1) (N := 8) (C.N 63) dX1_init_80 (k_X1_load l D kc ad 63 (by decide) 3 ⟨rfl, rfl, by decide, by decide⟩ 39 ⟨⟨rfl, rfl, by decide, by decide⟩, by decide⟩ s0) zy_X1_load mw_4_4 rfl rfl (show 11 ≤ 62 by decide) (show 62 < 63 by decide) rfl rfl (Nat.le_of_ble_eq_true rfl) ⟨rfl, rfl, Nat.le_of_ble_eq_true rfl, Nat.le_of_ble_eq_true rfl⟩ ⟨Nat.le_of_ble_eq_true rfl, Nat.le_of_ble_eq_true rfl⟩ ?_
  exact e_vret (C.N 63) hR dX1_init_83
abbrev rI_X6_init : Room := { frames := 2, cells := 21, slots := 160, locals := 32 }
set_option maxHeartbeats 4000000 in
set_option maxRecDepth 100000 in
theorem i_X6_init (l : Launch) (D : va_G) (kc : Nat → ClassId) (ad : Nat → Nat) (B : Nat) (hA : aX B ad) (s0 : zSt) (hZ : Z0 180 0 s0) : zMI l yX6_init cX6_init 4 rI_X6_init (wX D kc ad 180) 202 (ad 201) (.inr (6, [.null, .null, .null, .null, .null, .null, .null, .null, .null, .null, .null, .null])) [.ref (ad 201), .ref (ad 83), .ref (ad 66), .ref (ad 179)] s0 s0 (B + 171) 21 160 := by
  refine zI_of (own := RX6) (by decide +kernel) rfl rfl (Nat.le_of_ble_eq_true rfl) ?_
  intro κ C hN hR
  refine e_at [(0, .ref (ad 201)), (1, .ref (ad 83)), (2, .ref (ad 66)), (3, .ref (ad 179))] ⟨rfl, rfl, rfl, rfl, trivial⟩ ?_
  have C : zCX κ l (wX D kc ad 11) cX6_init RX6 rI_X6_init 4 (B + 171) := C.N 11
  refine e_aload_n (C.N 180) dX6_init_0 rfl rfl ?_
  refine e_obj (C.N 180) dX6_init_1 mw_8_9 (by decide) (Nat.le_of_ble_eq_true rfl) ?_
  refine e_aload_n (C.N 180) dX6_init_4 rfl rfl ?_
  refine e_bipush (v := nI 8) (C.N 180) dX6_init_5 (by decide +kernel) ?_
  refine x_newL C 8 181 1 8 dX6_init_7 rfl rfl (hA.eq 171 (by decide) rfl (by omega)) (by decide) (by decide) (Nat.le_of_ble_eq_true rfl) (Nat.le_of_ble_eq_true rfl) hZ rfl rfl rfl ?_
  refine e_putF2 (C.N 181) hN 0 [(ad 201, .inr (6, [.null, .null, .null, .ref (ad 180), .null, .null, .null, .null, .null, .null, .null, .null]))] dX6_init_9 (fi_RX6_9 _ rfl) rfl rfl rfl (show 3 < 12 by decide) rfl ?_
  refine e_aload_n (C.N 181) dX6_init_12 rfl rfl ?_
  refine e_iconst (v := nI 4) (C.N 181) dX6_init_13 (by decide +kernel) ?_
  refine x_newL C 4 182 2 12 dX6_init_14 rfl rfl (hA.eq 172 (by decide) rfl (by omega)) (by decide) (by decide) (Nat.le_of_ble_eq_true rfl) (Nat.le_of_ble_eq_true rfl) (hZ.up (by decide)) rfl rfl rfl ?_
  refine e_putF2 (C.N 182) hN 0 [(ad 201, .inr (6, [.null, .null, .null, .ref (ad 180), .ref (ad 181), .null, .null, .null, .null, .null, .null, .null]))] dX6_init_16 (fi_RX6_17 _ rfl) rfl rfl rfl (show 4 < 12 by decide) rfl ?_
  refine e_aload_n (C.N 182) dX6_init_19 rfl rfl ?_
  refine e_iconst (v := nI 4) (C.N 182) dX6_init_20 (by decide +kernel) ?_
  refine x_newL C 4 183 3 16 dX6_init_21 rfl rfl (hA.eq 173 (by decide) rfl (by omega)) (by decide) (by decide) (Nat.le_of_ble_eq_true rfl) (Nat.le_of_ble_eq_true rfl) (hZ.up (by decide)) rfl rfl rfl ?_
  refine e_putF2 (C.N 183) hN 0 [(ad 201, .inr (6, [.null, .null, .null, .ref (ad 180), .ref (ad 181), .ref (ad 182), .null, .null, .null, .null, .null, .null]))] dX6_init_23 (fi_RX6_20 _ rfl) rfl rfl rfl (show 5 < 12 by decide) rfl ?_
  refine e_aload_n (C.N 183) dX6_init_26 rfl rfl ?_
  refine e_iconst (v := nI 4) (C.N 183) dX6_init_27 (by decide +kernel) ?_
  refine x_newL C 4 184 4 20 dX6_init_28 rfl rfl (hA.eq 174 (by decide) rfl (by omega)) (by decide) (by decide) (Nat.le_of_ble_eq_true rfl) (Nat.le_of_ble_eq_true rfl) (hZ.up (by decide)) rfl rfl rfl ?_
  refine e_putF2 (C.N 184) hN 0 [(ad 201, .inr (6, [.null, .null, .null, .ref (ad 180), .ref (ad 181), .ref (ad 182), .ref (ad 183), .null, .null, .null, .null, .null]))] dX6_init_30 (fi_RX6_23 _ rfl) rfl rfl rfl (show 6 < 12 by decide) rfl ?_
  refine e_aload_n (C.N 184) dX6_init_33 rfl rfl ?_
  refine e_iconst (v := nI 4) (C.N 184) dX6_init_34 (by decide +kernel) ?_
  refine x_newL C 4 185 5 24 dX6_init_35 rfl rfl (hA.eq 175 (by decide) rfl (by omega)) (by decide) (by decide) (Nat.le_of_ble_eq_true rfl) (Nat.le_of_ble_eq_true rfl) (hZ.up (by decide)) rfl rfl rfl ?_
  refine e_putF2 (C.N 185) hN 0 [(ad 201, .inr (6, [.null, .null, .null, .ref (ad 180), .ref (ad 181), .ref (ad 182), .ref (ad 183), .ref (ad 184), .null, .null, .null, .null]))] dX6_init_37 (fi_RX6_26 _ rfl) rfl rfl rfl (show 7 < 12 by decide) rfl ?_
  refine e_aload_n (C.N 185) dX6_init_40 rfl rfl ?_
  refine e_iconst (v := nI 4) (C.N 185) dX6_init_41 (by decide +kernel) ?_
  refine x_newL C 4 186 6 28 dX6_init_42 rfl rfl (hA.eq 176 (by decide) rfl (by omega)) (by decide) (by decide) (Nat.le_of_ble_eq_true rfl) (Nat.le_of_ble_eq_true rfl) (hZ.up (by decide)) rfl rfl rfl ?_
  refine e_putF2 (C.N 186) hN 0 [(ad 201, .inr (6, [.null, .null, .null, .ref (ad 180), .ref (ad 181), .ref (ad 182), .ref (ad 183), .ref (ad 184), .ref (ad 185), .null, .null, .null]))] dX6_init_44 (fi_RX6_29 _ rfl) rfl rfl rfl (show 8 < 12 by decide) rfl ?_
  refine e_aload_n (C.N 186) dX6_init_47 rfl rfl ?_
  refine e_new2 (ci := 3) (C.N 186) (ad 190) 7 32 [.null, .null, .null, .null] tyX3 dX6_init_48 rfl inlX3 tyX3_ok mw_8_16 mw_3_4 mw_3_5 (fun j hj => nd_X3 j hj) (Nat.le_of_ble_eq_true rfl) (Nat.le_of_ble_eq_true rfl) (hA.eq 177 (by decide) rfl (by omega)) rfl rfl ?_
  refine e_dup (C.N 186) dX6_init_51 rfl ?_
  refine e_callIN2 (C.N 186) (wX D kc ad 191) 11 72 dX6_init_52 (i_X3_init l D kc ad 186 rfl _ (pt_4 hA 177 rfl rfl (by omega)) _ (hZ.up (by decide))) zi_X3 (fun U h => h.2.2.2.2.2.1) rfl rfl (Nat.le_of_ble_eq_true rfl) ⟨rfl, rfl, Nat.le_of_ble_eq_true rfl, Nat.le_of_ble_eq_true rfl⟩ ⟨Nat.le_of_ble_eq_true rfl, Nat.le_of_ble_eq_true rfl⟩ rfl rfl rfl ?_
  refine e_putF2 (C.N 191) hN 0 [(ad 201, .inr (6, [.null, .null, .null, .ref (ad 180), .ref (ad 181), .ref (ad 182), .ref (ad 183), .ref (ad 184), .ref (ad 185), .ref (ad 190), .null, .null]))] dX6_init_55 (fi_RX6_35 _ rfl) rfl rfl rfl (show 9 < 12 by decide) rfl ?_
  refine e_aload_n (C.N 191) dX6_init_58 rfl rfl ?_
  refine e_new2 (ci := 3) (C.N 191) (ad 195) 12 76 [.null, .null, .null, .null] tyX3 dX6_init_59 rfl inlX3 tyX3_ok mw_8_16 mw_3_4 mw_3_5 (fun j hj => nd_X3 j hj) (Nat.le_of_ble_eq_true rfl) (Nat.le_of_ble_eq_true rfl) (hA.eq 182 (by decide) rfl (by omega)) rfl rfl ?_
  refine e_dup (C.N 191) dX6_init_62 rfl ?_
  refine e_callIN2 (C.N 191) (wX D kc ad 196) 16 116 dX6_init_63 (i_X3_init l D kc ad 191 rfl _ (pt_4 hA 182 rfl rfl (by omega)) _ (hZ.up (by decide))) zi_X3 (fun U h => h.2.2.2.2.2.1) rfl rfl (Nat.le_of_ble_eq_true rfl) ⟨rfl, rfl, Nat.le_of_ble_eq_true rfl, Nat.le_of_ble_eq_true rfl⟩ ⟨Nat.le_of_ble_eq_true rfl, Nat.le_of_ble_eq_true rfl⟩ rfl rfl rfl ?_
  refine e_putF2 (C.N 196) hN 0 [(ad 201, .inr (6, [.null, .null, .null, .ref (ad 180), .ref (ad 181), .ref (ad 182), .ref (ad 183), .ref (ad 184), .ref (ad 185), .ref (ad 190), .ref (ad 195), .null]))] dX6_init_66 (fi_RX6_39 _ rfl) rfl rfl rfl (show 10 < 12 by decide) rfl ?_
  refine e_aload_n (C.N 196) dX6_init_69 rfl rfl ?_
  refine e_new2 (ci := 3) (C.N 196) (ad 200) 17 120 [.null, .null, .null, .null] tyX3 dX6_init_70 rfl inlX3 tyX3_ok mw_8_16 mw_3_4 mw_3_5 (fun j hj => nd_X3 j hj) (Nat.le_of_ble_eq_true rfl) (Nat.le_of_ble_eq_true rfl) (hA.eq 187 (by decide) rfl (by omega)) rfl rfl ?_
  refine e_dup (C.N 196) dX6_init_73 rfl ?_
  refine e_callIN2 (C.N 196) (wX D kc ad 201) 21 160 dX6_init_74 (i_X3_init l D kc ad 196 rfl _ (pt_4 hA 187 rfl rfl (by omega)) _ (hZ.up (by decide))) zi_X3 (fun U h => h.2.2.2.2.2.1) rfl rfl (Nat.le_of_ble_eq_true rfl) ⟨rfl, rfl, Nat.le_of_ble_eq_true rfl, Nat.le_of_ble_eq_true rfl⟩ ⟨Nat.le_of_ble_eq_true rfl, Nat.le_of_ble_eq_true rfl⟩ rfl rfl rfl ?_
  refine e_putF2 (C.N 201) hN 0 [(ad 201, .inr (6, [.null, .null, .null, .ref (ad 180), .ref (ad 181), .ref (ad 182), .ref (ad 183), .ref (ad 184), .ref (ad 185), .ref (ad 190), .ref (ad 195), .ref (ad 200)]))] dX6_init_77 (fi_RX6_42 _ rfl) rfl rfl rfl (show 11 < 12 by decide) rfl ?_
  refine e_aload_n (C.N 201) dX6_init_80 rfl rfl ?_
  refine e_aload_n (C.N 201) dX6_init_81 rfl rfl ?_
  refine e_putF2 (C.N 201) hN 0 [(ad 201, .inr (6, [.ref (ad 83), .null, .null, .ref (ad 180), .ref (ad 181), .ref (ad 182), .ref (ad 183), .ref (ad 184), .ref (ad 185), .ref (ad 190), .ref (ad 195), .ref (ad 200)]))] dX6_init_82 (fi_RX6_45 _ rfl) rfl rfl rfl (show 0 < 12 by decide) rfl ?_
  refine e_aload_n (C.N 201) dX6_init_85 rfl rfl ?_
  refine e_aload_n (C.N 201) dX6_init_86 rfl rfl ?_
  refine e_putF2 (C.N 201) hN 0 [(ad 201, .inr (6, [.ref (ad 83), .ref (ad 66), .null, .ref (ad 180), .ref (ad 181), .ref (ad 182), .ref (ad 183), .ref (ad 184), .ref (ad 185), .ref (ad 190), .ref (ad 195), .ref (ad 200)]))] dX6_init_87 (fi_RX6_49 _ rfl) rfl rfl rfl (show 1 < 12 by decide) rfl ?_
  refine e_aload_n (C.N 201) dX6_init_90 rfl rfl ?_
  refine e_aload_n (C.N 201) dX6_init_91 rfl rfl ?_
  refine e_putF2 (C.N 201) hN 0 [(ad 201, .inr (6, [.ref (ad 83), .ref (ad 66), .ref (ad 179), .ref (ad 180), .ref (ad 181), .ref (ad 182), .ref (ad 183), .ref (ad 184), .ref (ad 185), .ref (ad 190), .ref (ad 195), .ref (ad 200)]))] dX6_init_92 (fi_RX6_53 _ rfl) rfl rfl rfl (show 2 < 12 by decide) rfl ?_
  refine e_commit2 (wX D kc ad 202) rfl ((zE_ob rfl).trans (rfl)) (show 11 ≤ 201 by decide) rfl ?_
  exact e_vret (C.N 202) hR dX6_init_95
abbrev rI_X0_init : Room := { frames := 3, cells := 97, slots := 868, locals := 72 }
/-- the cells of a row count up to its length alone -/
theorem e_setX {κ : zK} {X : va_W} {bc ns : Nat} {pc : Nat} {lv : Nat → Option Value} {st : List Value} {σ : zSt} (i : Nat) (w : zWl) (a : Nat) (c : ClassId) (N : Nat) (f g : Nat → Option Nat) (he : X[i]? = some (a, .inl (c, N, .inr (.inr (.inr (.inr f)))))) (h : ∀ j, j < N → f j = g j) (k : zJX κ w (X.set i (a, .inl (c, N, .inr (.inr (.inr (.inr g)))))) bc ns pc lv st σ) : zJX κ w X bc ns pc lv st σ := by
  obtain ⟨p, l1, e, R, s, m, args, below, meth, c', Q, nL, cells, slots, A⟩ := κ
  intro H locs ls hP hz hS hl
  refine k H locs ls (hP.set he ?_ (fun _ _ => rfl)) hz hS hl
  have h1 : H[a]? = some (vp_cell c (N, .inr (.inr (.inr (.inr f))))) := hP.at (x := (a, .inl (c, N, .inr (.inr (.inr (.inr f)))))) (List.mem_append_right _ (List.mem_of_getElem? he))
  show H[a]? = some (vp_cell c (N, .inr (.inr (.inr (.inr g)))))
  rw [h1, vp_cell_q, vp_cell_q]
  exact congrArg some (arrV_eq _ fun j hj => by rw [h j hj])
theorem z0_keep {n m n' : Nat} {s s' : zSt} (h : Z0 n m s) (hn : n ≤ n') (h1 : ∀ id, n' ≤ id → s'.1 id = s.1 id) (h2 : zk2 s' = zk2 s) : Z0 n' m s' := ⟨fun id hi => ⟨(h1 id hi).trans (h.1 id (by omega)).1, by rw [z2_B h2 id]; exact (h.1 id (by omega)).2⟩, fun k => by rw [z2_I h2 k]; exact h.2 k⟩
theorem z0_X1 {s : zSt} (h : Z0 38 0 s) : Z0 63 0 (fX1_load 3 39 s) := z0_keep h (by decide) (fun id hi => (cX_load (by decide)).1 id (by omega)) (k2_fX1_load 3 39 s)
theorem one10 (x : Nat) {s : zSt} : ∀ id, id ≠ x → (fX1_become x (1 : Int64) s).1 id = s.1 id := fun id h => by
  have hF : fX1_become x (1 : Int64) s = zW (fJ7_fill_d0a16 x 10 0 s) x 0 1 := rfl
  rw [hF, zW_ne _ _ _ h]
  exact funext fun j => (fillL x 10 0 s).1 id j (Or.inl h)
def ZS (s : zSt) : Prop := ∀ id, id < 11 → ∀ j, j < lnX id → s.1 id j = svX id j
theorem ZS.rn {s : zSt} (h : ZS s) {id : Nat} (h1 : id < 11) (h2 : lnX id = 4) : rN (s.1 id) 4 = rN (svX id) 4 := rN_congr (fun i hi => h id h1 i (by omega))
def gX0 (s : zSt) : zSt := (fX0_complete 67 (fX1_load 8 68 (fX1_load 7 67 (fX1_add 73 73 74 (fX1_load 6 73 (fX1_become 72 (1 : Int64) s))))))
theorem X0_done {s : zSt} (hs : ZS s) : (∀ id, id ≠ 40 → id ≠ 67 → id ≠ 68 → id ≠ 69 → id ≠ 70 → id ≠ 72 → id ≠ 73 → id ≠ 74 → (gX0 s).1 id = s.1 id) ∧ zf (gX0 s) 72 1 1 ∧ zf (gX0 s) 73 cd 1 ∧ zf (gX0 s) 74 (cd + cd) 2 ∧ rX (gX0 s) 67 bP ∧ zk2 (gX0 s) = zk2 s := by
  have k0 : zk2 (gX0 s) = zk2 s := (k2_fX0_complete 67 _).trans ((k2_fX1_load 8 68 _).trans ((k2_fX1_load 7 67 _).trans ((k2_fX1_add 73 73 74 _).trans ((k2_fX1_load 6 73 _).trans (k2_fX1_become 72 1 s)))))
  suffices h : (∀ id, id ≠ 40 → id ≠ 67 → id ≠ 68 → id ≠ 69 → id ≠ 70 → id ≠ 72 → id ≠ 73 → id ≠ 74 → (gX0 s).1 id = s.1 id) ∧ zf (gX0 s) 72 1 1 ∧ zf (gX0 s) 73 cd 1 ∧ zf (gX0 s) 74 (cd + cd) 2 ∧ rX (gX0 s) 67 bP from ⟨h.1, h.2.1, h.2.2.1, h.2.2.2.1, h.2.2.2.2, k0⟩
  clear k0
  unfold gX0
  have e6 := hs.rn (id := 6) (by decide) rfl
  have e7 := hs.rn (id := 7) (by decide) rfl
  have e8 := hs.rn (id := 8) (by decide) rfl
  have n6 : ((rN (svX 6) 4 % 2 ^ 255 : Nat) : Int) = cd := by decide +kernel
  have n7 : ((rN (svX 7) 4 % 2 ^ 255 : Nat) : Int) = bP.1 := by decide +kernel
  have n8 : ((rN (svX 8) 4 % 2 ^ 255 : Nat) : Int) = bP.2 := by decide +kernel
  obtain ⟨a1, a2⟩ := cX_one (s := s) (a := 72)
  generalize fX1_become 72 (1 : Int64) s = s1 at a1 a2 ⊢
  obtain ⟨b1, b2⟩ := cX_load (s := s1) (ws := 6) (out := 73) (by decide)
  rw [a1 6 (by decide), e6, n6] at b2
  generalize fX1_load 6 73 s1 = s2 at b1 b2 ⊢
  obtain ⟨c1, c2⟩ := cX_add (out := 74) b2 b2 (by decide)
  generalize fX1_add 73 73 74 s2 = s3 at c1 c2 ⊢
  obtain ⟨d1, d2⟩ := cX_load (s := s3) (ws := 7) (out := 67) (by decide)
  rw [c1 7 (by decide), b1 7 (by decide), a1 7 (by decide), e7, n7] at d2
  generalize fX1_load 7 67 s3 = s4 at d1 d2 ⊢
  obtain ⟨f1, f2⟩ := cX_load (s := s4) (ws := 8) (out := 68) (by decide)
  rw [d1 8 (by decide), c1 8 (by decide), b1 8 (by decide), a1 8 (by decide), e8, n8] at f2
  have d3 := zf_row (t := fX1_load 8 68 s4) d2 (f1 67 (by decide))
  generalize fX1_load 8 68 s4 = s5 at f1 f2 d3 ⊢
  have ho : oc bP := ⟨313912869351021175552095638354475319435719866822403256103793839727111434695402522007437748672709022944181123840026140012976076642505601989877288187536393899427418215919658923821043034718165221043996317890960162518762831745378375357102403309936170782468110973434315685750709096189645234905588967493870803545, by decide +kernel⟩
  obtain ⟨g1, g2, -, -⟩ := cX_comp (P := 67) (x := bP.1) (y := bP.2) d3 f2 ho (by decide)
  generalize fX0_complete 67 s5 = s6 at g1 g2 ⊢
  refine ⟨fun id q1 q2 q3 q4 q5 q6 q7 q8 => by rw [g1 id q1 q4 q5, f1 id q3, d1 id q2, c1 id q8, b1 id q7, a1 id q6], ?_, ?_, ?_, g2⟩
  · exact zf_row a2 (by rw [g1 72 (by decide) (by decide) (by decide), f1 72 (by decide), d1 72 (by decide), c1 72 (by decide), b1 72 (by decide)])
  · exact zf_row b2 (by rw [g1 73 (by decide) (by decide) (by decide), f1 73 (by decide), d1 73 (by decide), c1 73 (by decide)])
  · exact zf_row c2 (by rw [g1 74 (by decide) (by decide) (by decide), f1 74 (by decide), d1 74 (by decide)])
theorem z0_X0 {s : zSt} (hs : ZS s) (h : Z0 67 0 s) : Z0 84 0 (gX0 s) := z0_keep h (by decide) (fun id hi => (X0_done hs).1 id (by omega) (by omega) (by omega) (by omega) (by omega) (by omega) (by omega) (by omega)) (X0_done hs).2.2.2.2.2
theorem zs_X1 {s : zSt} (h : ZS s) : ZS (fX1_load 3 39 s) := fun id hi j hj => by rw [(cX_load (s := s) (ws := 3) (out := 39) (by decide)).1 id (by omega)]; exact h id hi j hj

set_option maxHeartbeats 4000000 in
set_option maxRecDepth 100000 in
theorem X0_loop (l : Launch) (D : va_G) (kc : Nat → ClassId) (ad : Nat → Nat) (B : Nat) (hA : aX B ad) {κ : zK} (C : zCX κ l (wX D kc ad 11) cX0_init RX0 rI_X0_init 3 (B + 58)) (hN : zNm κ) (s : zSt) (hZ : Z0 84 0 s) (hR : zRX κ (wX D kc ad 165) s (B + 58) 97 868) : ∀ m i, i + m = 16 → zJX κ (wX D kc ad (84 + 5 * i)) [(ad 164, .inl (kc 4, 16, .inr (.inr (.inr (.inr (fun j => if j < i then some (ad (84 + 5 * j + 4)) else none))))))] (17 + 5 * i) (164 + 44 * i) 190 (zlof [(0, .ref (ad 83)), (1, .ref (ad 62)), (2, .int (nI i))]) [] s := by
  have hoff : ∀ i, i < 16 → offX (84 + 5 * i + 4) = 75 + 5 * i := by decide +kernel
  intro m
  induction m with
  | zero =>
    intro i hi
    have e : i = 16 := by omega
    subst e
    refine e_iload_n (C.N _) dX0_init_190 rfl rfl ?_
    refine e_aload_n (C.N _) dX0_init_191 rfl rfl ?_
    refine e_getR (C.N _) dX0_init_192 (fx_RX0_54 D kc ad _) (show 11 ≤ 83 by decide) (show 83 < 164 by decide) ?_
    refine e_alenX (t0 := 3) (C.N _) 0 dX0_init_195 rfl rfl ?_
    refine e_icmp_geN (tgt := 218) (C.N _) dX0_init_196 (by decide) (by decide) (by decide) (fun _ => ?_) (fun q => absurd q (by decide))
    refine e_at [] trivial ?_
    have e1 : (fun j => if j < 16 then some (ad (84 + 5 * j + 4)) else none : Nat → Option Nat) = fun j => if j < 16 then some (ad (84 + 5 * j + 4)) else none := rfl
    refine e_setX 0 (wX D kc ad (84 + 5 * 16)) (ad 164) (kc 4) 16 _ (fun j => some (ad (84 + 5 * j + 4))) rfl (fun j hj => if_pos hj) ?_
    refine e_commit2 (wX D kc ad 165) rfl rfl (show 11 ≤ 164 by decide) rfl ?_
    exact e_vret (C.N 165) hR dX0_init_218
  | succ m ih =>
    intro i hi
    have ho := hoff i (by omega)
    refine e_iload_n (C.N _) dX0_init_190 rfl rfl ?_
    refine e_aload_n (C.N _) dX0_init_191 rfl rfl ?_
    refine e_getR (C.N _) dX0_init_192 (fx_RX0_54 D kc ad _) (show 11 ≤ 83 by decide) (show 83 < 84 + 5 * i by omega) ?_
    refine e_alenX (t0 := 3) (C.N _) 0 dX0_init_195 rfl rfl ?_
    refine e_icmp_geN (tgt := 218) (C.N _) dX0_init_196 (by decide) (by omega) (by decide) (fun q => False.elim (by omega)) (fun _ => ?_)
    refine e_aload_n (C.N _) dX0_init_199 rfl rfl ?_
    refine e_getR (C.N _) dX0_init_200 (fx_RX0_54 D kc ad _) (show 11 ≤ 83 by decide) (show 83 < 84 + 5 * i by omega) ?_
    refine e_iload_n (C.N _) dX0_init_203 rfl rfl ?_
    refine e_new2 (ci := 3) (C.N _) (ad (84 + 5 * i + 4)) (17 + 5 * i + 1) (164 + 44 * i + 4) [.null, .null, .null, .null] tyX3 dX0_init_204 rfl inlX3 tyX3_ok mw_4_20 mw_3_4 mw_3_5 (fun j hj => nd_X3 j hj) (show 17 + 5 * i + 1 ≤ 97 by omega) (show 164 + 44 * i + 4 ≤ 868 by omega) (hA.eq (75 + 5 * i) (by omega) ho (by omega)) rfl rfl ?_
    refine e_dup (C.N _) dX0_init_207 rfl ?_
    refine e_callIN2 (C.N _) (wX D kc ad (84 + 5 * (i + 1))) (17 + 5 * (i + 1)) (164 + 44 * (i + 1)) dX0_init_208 (i_X3_init l D kc ad (84 + 5 * i) (pt_tab i (by omega)) _ (pt_4 hA (75 + 5 * i) (pt_tab i (by omega)) ho (by omega)) _ (hZ.up (by omega))) zi_X3 (fun U h => h.2.2.2.2.1) rfl rfl (Nat.le_of_ble_eq_true rfl) ⟨rfl, rfl, Nat.le_of_ble_eq_true rfl, Nat.le_of_ble_eq_true rfl⟩ ⟨show 17 + 5 * (i + 1) ≤ 97 by omega, show 164 + 44 * (i + 1) ≤ 868 by omega⟩ (by omega) (by omega) (by show wX D kc ad (84 + 5 * i + 5) = _; rw [show 84 + 5 * i + 5 = 84 + 5 * (i + 1) by omega]) ?_
    have hq := pt_all _ (pt_mem (pt_tab i (by omega)))
    refine e_astX (t0 := 3) (id := 84 + 5 * i + 4) (T := TX3) (Np := 4) (C.N _) 0 dX0_init_211 rfl rfl (by omega) (by decide) hq.1 (by show vwCl[(obX (84 + 5 * i + 4)).1]? = _; rw [hq.2.1]; rfl) (show 11 ≤ 84 + 5 * i + 4 by omega) (show 84 + 5 * i + 4 < 84 + 5 * (i + 1) by omega) ?_
    refine e_iincN (b := 1) (C.N _) dX0_init_212 rfl (by decide +kernel) (by decide) ?_
    refine e_goto (tgt := 190) (C.N _) dX0_init_215 (by decide) ?_
    refine e_at [(0, .ref (ad 83)), (1, .ref (ad 62)), (2, .int (nI (i + 1)))] ⟨rfl, rfl, rfl, trivial⟩ ?_
    have e2 : va_up (fun j => if j < i then some (ad (84 + 5 * j + 4)) else none) i (some (ad (84 + 5 * i + 4))) = (fun j => if j < i + 1 then some (ad (84 + 5 * j + 4)) else none) := funext fun j => by
      unfold va_up
      by_cases q : j = i
      · subst q
        simp
      · by_cases q2 : j < i
        · simp [q, q2, Nat.lt_succ_of_lt q2]
        · simp [q, q2, show ¬ j < i + 1 by omega]
    show zJX κ _ [(ad 164, .inl (kc 4, 16, .inr (.inr (.inr (.inr (va_up (fun j => if j < i then some (ad (84 + 5 * j + 4)) else none) i (some (ad (84 + 5 * i + 4)))))))))] _ _ _ _ _ _
    rw [e2]
    exact ih (i + 1) (by omega)

set_option maxHeartbeats 4000000 in
set_option maxRecDepth 100000 in
theorem i_X0_init (l : Launch) (D : va_G) (kc : Nat → ClassId) (ad : Nat → Nat) (B : Nat) (hA : aX B ad) (s0 : zSt) (hZ : Z0 67 0 s0) (hs : ZS s0) : zMI l yX0_init cX0_init 3 rI_X0_init (wX D kc ad 67) 165 (ad 83) (.inr (0, [.null, .null, .null, .null, .null, .null, .null, .null, .null, .null, .null, .null, .null, .null])) [.ref (ad 83), .ref (ad 62)] s0 (gX0 s0) (B + 58) 97 868 := by
  refine zI_of (own := RX0) (by decide +kernel) rfl rfl (Nat.le_of_ble_eq_true rfl) ?_
  intro κ C hN hR
  refine e_at [(0, .ref (ad 83)), (1, .ref (ad 62))] ⟨rfl, rfl, trivial⟩ ?_
  have C : zCX κ l (wX D kc ad 11) cX0_init RX0 rI_X0_init 3 (B + 58) := C.N 11
  have hZ6 : Z0 84 0 (gX0 s0) := z0_X0 hs hZ
  refine e_aload_n (C.N 67) dX0_init_0 rfl rfl ?_
  refine e_obj (C.N 67) dX0_init_1 mw_4_19 (by decide) (Nat.le_of_ble_eq_true rfl) ?_
  refine e_aload_n (C.N 67) dX0_init_4 rfl rfl ?_
  refine e_new2 (ci := 3) (C.N 67) (ad 71) 1 4 [.null, .null, .null, .null] tyX3 dX0_init_5 rfl inlX3 tyX3_ok mw_4_20 mw_3_4 mw_3_5 (fun j hj => nd_X3 j hj) (Nat.le_of_ble_eq_true rfl) (Nat.le_of_ble_eq_true rfl) (hA.eq 58 (by decide) rfl (by omega)) rfl rfl ?_
  refine e_dup (C.N 67) dX0_init_8 rfl ?_
  refine e_callIN2 (C.N 67) (wX D kc ad 72) 5 44 dX0_init_9 (i_X3_init l D kc ad 67 rfl _ (pt_4 hA 58 rfl rfl (by omega)) _ (hZ.up (by decide))) zi_X3 (fun U h => h.2.2.2.2.1) rfl rfl (Nat.le_of_ble_eq_true rfl) ⟨rfl, rfl, Nat.le_of_ble_eq_true rfl, Nat.le_of_ble_eq_true rfl⟩ ⟨Nat.le_of_ble_eq_true rfl, Nat.le_of_ble_eq_true rfl⟩ rfl rfl rfl ?_
  refine e_putF2 (C.N 72) hN 0 [(ad 83, .inr (0, [.ref (ad 71), .null, .null, .null, .null, .null, .null, .null, .null, .null, .null, .null, .null, .null]))] dX0_init_12 (fi_RX0_10 _ rfl) rfl rfl rfl (show 0 < 14 by decide) rfl ?_
  refine e_aload_n (C.N 72) dX0_init_15 rfl rfl ?_
  refine e_bipush (v := nI 10) (C.N 72) dX0_init_16 (by decide +kernel) ?_
  refine x_newL C 10 73 6 54 dX0_init_18 rfl rfl (hA.eq 63 (by decide) rfl (by omega)) (by decide) (by decide) (Nat.le_of_ble_eq_true rfl) (Nat.le_of_ble_eq_true rfl) (hZ.up (by decide)) rfl rfl rfl ?_
  refine e_putF2 (C.N 73) hN 0 [(ad 83, .inr (0, [.ref (ad 71), .null, .ref (ad 72), .null, .null, .null, .null, .null, .null, .null, .null, .null, .null, .null]))] dX0_init_20 (fi_RX0_18 _ rfl) rfl rfl rfl (show 2 < 14 by decide) rfl ?_
  refine e_aload_n (C.N 73) dX0_init_23 rfl rfl ?_
  refine e_bipush (v := nI 10) (C.N 73) dX0_init_24 (by decide +kernel) ?_
  refine x_newL C 10 74 7 64 dX0_init_26 rfl rfl (hA.eq 64 (by decide) rfl (by omega)) (by decide) (by decide) (Nat.le_of_ble_eq_true rfl) (Nat.le_of_ble_eq_true rfl) (hZ.up (by decide)) rfl rfl rfl ?_
  refine e_putF2 (C.N 74) hN 0 [(ad 83, .inr (0, [.ref (ad 71), .null, .ref (ad 72), .ref (ad 73), .null, .null, .null, .null, .null, .null, .null, .null, .null, .null]))] dX0_init_28 (fi_RX0_22 _ rfl) rfl rfl rfl (show 3 < 14 by decide) rfl ?_
  refine e_aload_n (C.N 74) dX0_init_31 rfl rfl ?_
  refine e_bipush (v := nI 10) (C.N 74) dX0_init_32 (by decide +kernel) ?_
  refine x_newL C 10 75 8 74 dX0_init_34 rfl rfl (hA.eq 65 (by decide) rfl (by omega)) (by decide) (by decide) (Nat.le_of_ble_eq_true rfl) (Nat.le_of_ble_eq_true rfl) (hZ.up (by decide)) rfl rfl rfl ?_
  refine e_putF2 (C.N 75) hN 0 [(ad 83, .inr (0, [.ref (ad 71), .null, .ref (ad 72), .ref (ad 73), .ref (ad 74), .null, .null, .null, .null, .null, .null, .null, .null, .null]))] dX0_init_36 (fi_RX0_25 _ rfl) rfl rfl rfl (show 4 < 14 by decide) rfl ?_
  refine e_aload_n (C.N 75) dX0_init_39 rfl rfl ?_
  refine e_bipush (v := nI 10) (C.N 75) dX0_init_40 (by decide +kernel) ?_
  refine x_newL C 10 76 9 84 dX0_init_42 rfl rfl (hA.eq 66 (by decide) rfl (by omega)) (by decide) (by decide) (Nat.le_of_ble_eq_true rfl) (Nat.le_of_ble_eq_true rfl) (hZ.up (by decide)) rfl rfl rfl ?_
  refine e_putF2 (C.N 76) hN 0 [(ad 83, .inr (0, [.ref (ad 71), .null, .ref (ad 72), .ref (ad 73), .ref (ad 74), .ref (ad 75), .null, .null, .null, .null, .null, .null, .null, .null]))] dX0_init_44 (fi_RX0_28 _ rfl) rfl rfl rfl (show 5 < 14 by decide) rfl ?_
  refine e_aload_n (C.N 76) dX0_init_47 rfl rfl ?_
  refine e_bipush (v := nI 10) (C.N 76) dX0_init_48 (by decide +kernel) ?_
  refine x_newL C 10 77 10 94 dX0_init_50 rfl rfl (hA.eq 67 (by decide) rfl (by omega)) (by decide) (by decide) (Nat.le_of_ble_eq_true rfl) (Nat.le_of_ble_eq_true rfl) (hZ.up (by decide)) rfl rfl rfl ?_
  refine e_putF2 (C.N 77) hN 0 [(ad 83, .inr (0, [.ref (ad 71), .null, .ref (ad 72), .ref (ad 73), .ref (ad 74), .ref (ad 75), .ref (ad 76), .null, .null, .null, .null, .null, .null, .null]))] dX0_init_52 (fi_RX0_31 _ rfl) rfl rfl rfl (show 6 < 14 by decide) rfl ?_
  refine e_aload_n (C.N 77) dX0_init_55 rfl rfl ?_
  refine e_bipush (v := nI 10) (C.N 77) dX0_init_56 (by decide +kernel) ?_
  refine x_newL C 10 78 11 104 dX0_init_58 rfl rfl (hA.eq 68 (by decide) rfl (by omega)) (by decide) (by decide) (Nat.le_of_ble_eq_true rfl) (Nat.le_of_ble_eq_true rfl) (hZ.up (by decide)) rfl rfl rfl ?_
  refine e_putF2 (C.N 78) hN 0 [(ad 83, .inr (0, [.ref (ad 71), .null, .ref (ad 72), .ref (ad 73), .ref (ad 74), .ref (ad 75), .ref (ad 76), .ref (ad 77), .null, .null, .null, .null, .null, .null]))] dX0_init_60 (fi_RX0_34 _ rfl) rfl rfl rfl (show 7 < 14 by decide) rfl ?_
  refine e_aload_n (C.N 78) dX0_init_63 rfl rfl ?_
  refine e_bipush (v := nI 10) (C.N 78) dX0_init_64 (by decide +kernel) ?_
  refine x_newL C 10 79 12 114 dX0_init_66 rfl rfl (hA.eq 69 (by decide) rfl (by omega)) (by decide) (by decide) (Nat.le_of_ble_eq_true rfl) (Nat.le_of_ble_eq_true rfl) (hZ.up (by decide)) rfl rfl rfl ?_
  refine e_putF2 (C.N 79) hN 0 [(ad 83, .inr (0, [.ref (ad 71), .null, .ref (ad 72), .ref (ad 73), .ref (ad 74), .ref (ad 75), .ref (ad 76), .ref (ad 77), .ref (ad 78), .null, .null, .null, .null, .null]))] dX0_init_68 (fi_RX0_37 _ rfl) rfl rfl rfl (show 8 < 14 by decide) rfl ?_
  refine e_aload_n (C.N 79) dX0_init_71 rfl rfl ?_
  refine e_bipush (v := nI 10) (C.N 79) dX0_init_72 (by decide +kernel) ?_
  refine x_newL C 10 80 13 124 dX0_init_74 rfl rfl (hA.eq 70 (by decide) rfl (by omega)) (by decide) (by decide) (Nat.le_of_ble_eq_true rfl) (Nat.le_of_ble_eq_true rfl) (hZ.up (by decide)) rfl rfl rfl ?_
  refine e_putF2 (C.N 80) hN 0 [(ad 83, .inr (0, [.ref (ad 71), .null, .ref (ad 72), .ref (ad 73), .ref (ad 74), .ref (ad 75), .ref (ad 76), .ref (ad 77), .ref (ad 78), .ref (ad 79), .null, .null, .null, .null]))] dX0_init_76 (fi_RX0_40 _ rfl) rfl rfl rfl (show 9 < 14 by decide) rfl ?_
  refine e_aload_n (C.N 80) dX0_init_79 rfl rfl ?_
  refine e_bipush (v := nI 10) (C.N 80) dX0_init_80 (by decide +kernel) ?_
  refine x_newL C 10 81 14 134 dX0_init_82 rfl rfl (hA.eq 71 (by decide) rfl (by omega)) (by decide) (by decide) (Nat.le_of_ble_eq_true rfl) (Nat.le_of_ble_eq_true rfl) (hZ.up (by decide)) rfl rfl rfl ?_
  refine e_putF2 (C.N 81) hN 0 [(ad 83, .inr (0, [.ref (ad 71), .null, .ref (ad 72), .ref (ad 73), .ref (ad 74), .ref (ad 75), .ref (ad 76), .ref (ad 77), .ref (ad 78), .ref (ad 79), .ref (ad 80), .null, .null, .null]))] dX0_init_84 (fi_RX0_43 _ rfl) rfl rfl rfl (show 10 < 14 by decide) rfl ?_
  refine e_aload_n (C.N 81) dX0_init_87 rfl rfl ?_
  refine e_bipush (v := nI 10) (C.N 81) dX0_init_88 (by decide +kernel) ?_
  refine x_newL C 10 82 15 144 dX0_init_90 rfl rfl (hA.eq 72 (by decide) rfl (by omega)) (by decide) (by decide) (Nat.le_of_ble_eq_true rfl) (Nat.le_of_ble_eq_true rfl) (hZ.up (by decide)) rfl rfl rfl ?_
  refine e_putF2 (C.N 82) hN 0 [(ad 83, .inr (0, [.ref (ad 71), .null, .ref (ad 72), .ref (ad 73), .ref (ad 74), .ref (ad 75), .ref (ad 76), .ref (ad 77), .ref (ad 78), .ref (ad 79), .ref (ad 80), .ref (ad 81), .null, .null]))] dX0_init_92 (fi_RX0_46 _ rfl) rfl rfl rfl (show 11 < 14 by decide) rfl ?_
  refine e_aload_n (C.N 82) dX0_init_95 rfl rfl ?_
  refine e_iconst (v := nI 4) (C.N 82) dX0_init_96 (by decide +kernel) ?_
  refine x_newL C 4 83 16 148 dX0_init_97 rfl rfl (hA.eq 73 (by decide) rfl (by omega)) (by decide) (by decide) (Nat.le_of_ble_eq_true rfl) (Nat.le_of_ble_eq_true rfl) (hZ.up (by decide)) rfl rfl rfl ?_
  refine e_putF2 (C.N 83) hN 0 [(ad 83, .inr (0, [.ref (ad 71), .null, .ref (ad 72), .ref (ad 73), .ref (ad 74), .ref (ad 75), .ref (ad 76), .ref (ad 77), .ref (ad 78), .ref (ad 79), .ref (ad 80), .ref (ad 81), .ref (ad 82), .null]))] dX0_init_99 (fi_RX0_51 _ rfl) rfl rfl rfl (show 12 < 14 by decide) rfl ?_
  refine e_aload_n (C.N 83) dX0_init_102 rfl rfl ?_
  refine e_bipush (v := nI 16) (C.N 83) dX0_init_103 (by decide +kernel) ?_
  refine e_anew2 (t0 := 3) (C.N 83) (ad 164) 17 164 dX0_init_105 mw_4_20 rfl (by decide) (Nat.le_of_ble_eq_true rfl) (Nat.le_of_ble_eq_true rfl) (hA.eq 74 (by decide) rfl (by omega)) rfl rfl ?_
  refine e_putF2 (C.N 83) hN 1 [(ad 164, .inl (kc 4, 16, .inr (.inr (.inr (.inr (fun _ => none)))))), (ad 83, .inr (0, [.ref (ad 71), .null, .ref (ad 72), .ref (ad 73), .ref (ad 74), .ref (ad 75), .ref (ad 76), .ref (ad 77), .ref (ad 78), .ref (ad 79), .ref (ad 80), .ref (ad 81), .ref (ad 82), .ref (ad 164)]))] dX0_init_108 (fi_RX0_54 _ rfl) rfl rfl rfl (show 13 < 14 by decide) rfl ?_
  refine e_aload_n (C.N 83) dX0_init_111 rfl rfl ?_
  refine e_aload_n (C.N 83) dX0_init_112 rfl rfl ?_
  refine e_putF2 (C.N 83) hN 1 [(ad 164, .inl (kc 4, 16, .inr (.inr (.inr (.inr (fun _ => none)))))), (ad 83, .inr (0, [.ref (ad 71), .ref (ad 62), .ref (ad 72), .ref (ad 73), .ref (ad 74), .ref (ad 75), .ref (ad 76), .ref (ad 77), .ref (ad 78), .ref (ad 79), .ref (ad 80), .ref (ad 81), .ref (ad 82), .ref (ad 164)]))] dX0_init_113 (fi_RX0_58 _ rfl) rfl rfl rfl (show 1 < 14 by decide) rfl ?_
  refine e_perm (List.Perm.swap _ _ _) ?_
  refine e_commit2 (wX D kc ad 84) rfl ((zE_ob rfl).trans (rfl)) (show 11 ≤ 83 by decide) rfl ?_
  refine e_aload_n (C.N 84) dX0_init_116 rfl rfl ?_
  refine e_aload_n (C.N 84) dX0_init_117 rfl rfl ?_
  refine e_getR (C.N 84) dX0_init_118 (fx_RX0_18 D kc ad 84) (show 11 ≤ 83 by decide) (show 83 < 84 by decide) ?_
  refine e_lconst (v := 1) (C.N 84) dX0_init_121 (by decide +kernel) ?_
  refine e_callV0 (T := TX1) (N := 8) (C.N 84) dX0_init_122 (k_X1_become l D kc ad 84 (by decide) 72 ⟨⟨rfl, rfl, by decide, by decide⟩, by decide⟩ (1 : Int64) _) zy_X1_become mw_5_23 rfl rfl (show 11 ≤ 62 by decide) (show 62 < 84 by decide) rfl rfl (Nat.le_of_ble_eq_true rfl) ⟨rfl, rfl, Nat.le_of_ble_eq_true rfl, Nat.le_of_ble_eq_true rfl⟩ ⟨Nat.le_of_ble_eq_true rfl, Nat.le_of_ble_eq_true rfl⟩ ?_
  refine e_aload_n (C.N 84) dX0_init_125 rfl rfl ?_
  refine e_gets (C.N 84) (id := 6) dX0_init_126 (show 6 < 11 by decide) rfl mw_5_11 ?_
  refine e_aload_n (C.N 84) dX0_init_129 rfl rfl ?_
  refine e_getR (C.N 84) dX0_init_130 (fx_RX0_22 D kc ad 84) (show 11 ≤ 83 by decide) (show 83 < 84 by decide) ?_
  refine e_callV0 (T := TX1) (N := 8) (C.N 84) dX0_init_133 (k_X1_load l D kc ad 84 (by decide) 6 ⟨rfl, rfl, by decide, by decide⟩ 73 ⟨⟨rfl, rfl, by decide, by decide⟩, by decide⟩ _) zy_X1_load mw_6_7 rfl rfl (show 11 ≤ 62 by decide) (show 62 < 84 by decide) rfl rfl (Nat.le_of_ble_eq_true rfl) ⟨rfl, rfl, Nat.le_of_ble_eq_true rfl, Nat.le_of_ble_eq_true rfl⟩ ⟨Nat.le_of_ble_eq_true rfl, Nat.le_of_ble_eq_true rfl⟩ ?_
  refine e_aload_n (C.N 84) dX0_init_136 rfl rfl ?_
  refine e_aload_n (C.N 84) dX0_init_137 rfl rfl ?_
  refine e_getR (C.N 84) dX0_init_138 (fx_RX0_22 D kc ad 84) (show 11 ≤ 83 by decide) (show 83 < 84 by decide) ?_
  refine e_aload_n (C.N 84) dX0_init_141 rfl rfl ?_
  refine e_getR (C.N 84) dX0_init_142 (fx_RX0_22 D kc ad 84) (show 11 ≤ 83 by decide) (show 83 < 84 by decide) ?_
  refine e_aload_n (C.N 84) dX0_init_145 rfl rfl ?_
  refine e_getR (C.N 84) dX0_init_146 (fx_RX0_25 D kc ad 84) (show 11 ≤ 83 by decide) (show 83 < 84 by decide) ?_
  refine e_callV0 (T := TX1) (N := 8) (C.N 84) dX0_init_149 (k_X1_add l D kc ad 84 (by decide) 73 ⟨rfl, rfl, by decide, by decide⟩ 73 ⟨rfl, rfl, by decide, by decide⟩ 74 ⟨⟨rfl, rfl, by decide, by decide⟩, by decide⟩ _) zy_X1_add mw_6_8 rfl rfl (show 11 ≤ 62 by decide) (show 62 < 84 by decide) rfl rfl (Nat.le_of_ble_eq_true rfl) ⟨rfl, rfl, Nat.le_of_ble_eq_true rfl, Nat.le_of_ble_eq_true rfl⟩ ⟨Nat.le_of_ble_eq_true rfl, Nat.le_of_ble_eq_true rfl⟩ ?_
  refine e_aload_n (C.N 84) dX0_init_152 rfl rfl ?_
  refine e_gets (C.N 84) (id := 7) dX0_init_153 (show 7 < 11 by decide) rfl mw_5_12 ?_
  refine e_aload_n (C.N 84) dX0_init_156 rfl rfl ?_
  refine e_getR (C.N 84) dX0_init_157 (fx_RX0_10 D kc ad 84) (show 11 ≤ 83 by decide) (show 83 < 84 by decide) ?_
  refine e_getR (C.N 84) dX0_init_160 (fx_RX0_80 D kc ad 84 (P := 67) rfl) (show 11 ≤ 71 by decide) (show 71 < 84 by decide) ?_
  refine e_callV0 (T := TX1) (N := 8) (C.N 84) dX0_init_163 (k_X1_load l D kc ad 84 (by decide) 7 ⟨rfl, rfl, by decide, by decide⟩ 67 ⟨⟨rfl, rfl, by decide, by decide⟩, by decide⟩ _) zy_X1_load mw_6_7 rfl rfl (show 11 ≤ 62 by decide) (show 62 < 84 by decide) rfl rfl (Nat.le_of_ble_eq_true rfl) ⟨rfl, rfl, Nat.le_of_ble_eq_true rfl, Nat.le_of_ble_eq_true rfl⟩ ⟨Nat.le_of_ble_eq_true rfl, Nat.le_of_ble_eq_true rfl⟩ ?_
  refine e_aload_n (C.N 84) dX0_init_166 rfl rfl ?_
  refine e_gets (C.N 84) (id := 8) dX0_init_167 (show 8 < 11 by decide) rfl mw_5_14 ?_
  refine e_aload_n (C.N 84) dX0_init_170 rfl rfl ?_
  refine e_getR (C.N 84) dX0_init_171 (fx_RX0_10 D kc ad 84) (show 11 ≤ 83 by decide) (show 83 < 84 by decide) ?_
  refine e_getR (C.N 84) dX0_init_174 (fx_RX0_86 D kc ad 84 (P := 67) rfl) (show 11 ≤ 71 by decide) (show 71 < 84 by decide) ?_
  refine e_callV0 (T := TX1) (N := 8) (C.N 84) dX0_init_177 (k_X1_load l D kc ad 84 (by decide) 8 ⟨rfl, rfl, by decide, by decide⟩ 68 ⟨⟨rfl, rfl, by decide, by decide⟩, by decide⟩ _) zy_X1_load mw_6_7 rfl rfl (show 11 ≤ 62 by decide) (show 62 < 84 by decide) rfl rfl (Nat.le_of_ble_eq_true rfl) ⟨rfl, rfl, Nat.le_of_ble_eq_true rfl, Nat.le_of_ble_eq_true rfl⟩ ⟨Nat.le_of_ble_eq_true rfl, Nat.le_of_ble_eq_true rfl⟩ ?_
  refine e_aload_n (C.N 84) dX0_init_180 rfl rfl ?_
  refine e_aload_n (C.N 84) dX0_init_181 rfl rfl ?_
  refine e_getR (C.N 84) dX0_init_182 (fx_RX0_10 D kc ad 84) (show 11 ≤ 83 by decide) (show 83 < 84 by decide) ?_
  refine e_callV0 (T := TX0) (N := 14) (C.N 84) dX0_init_185 (k_X0_complete l D kc ad 84 (by decide) 67 rfl (by decide) _) zy_X0_complete mw_6_12 rfl rfl (show 11 ≤ 83 by decide) (show 83 < 84 by decide) rfl rfl (Nat.le_of_ble_eq_true rfl) ⟨rfl, rfl, Nat.le_of_ble_eq_true rfl, Nat.le_of_ble_eq_true rfl⟩ ⟨Nat.le_of_ble_eq_true rfl, Nat.le_of_ble_eq_true rfl⟩ ?_
  refine e_iconst (v := nI 0) (C.N 84) dX0_init_188 (by decide +kernel) ?_
  refine e_istore_n (C.N 84) dX0_init_189 rfl (by decide) ?_
  refine e_at [(0, .ref (ad 83)), (1, .ref (ad 62)), (2, .int (nI 0))] ⟨rfl, rfl, rfl, trivial⟩ ?_
  have e0 : (fun j => if j < 0 then some (ad (84 + 5 * j + 4)) else none : Nat → Option Nat) = fun _ => none := funext fun j => if_neg (Nat.not_lt_zero j)
  rw [← e0]
  exact X0_loop l D kc ad B hA C hN _ hZ6 hR 16 0 rfl
abbrev rI_X9_init : Room := { frames := 4, cells := 204, slots := 2680, locals := 94 }
set_option maxHeartbeats 4000000 in
set_option maxRecDepth 100000 in
theorem i_X9_init (l : Launch) (D : va_G) (kc : Nat → ClassId) (ad : Nat → Nat) (B : Nat) (hA : aX B ad) (s0 : zSt) (hZ : Z0 11 0 s0) (hs : ZS s0) : zMI l yX9_init cX9_init 1 rI_X9_init (wX D kc ad 11) 216 (ad 215) (.inr (8, [.null, .null, .int 0, .int 0, .int 0, .int 0, .null, .null, .null, .null, .null, .null, .null, .null, .null, .null, .null])) [.ref (ad 215)] s0 (gX0 (fX1_load 3 39 s0)) (B + 1) 204 2680 := by
  refine zI_of (own := RX9) (by decide +kernel) rfl rfl (Nat.le_of_ble_eq_true rfl) ?_
  intro κ C hN hR
  refine e_at [(0, .ref (ad 215))] ⟨rfl, trivial⟩ ?_
  have C : zCX κ l (wX D kc ad 11) cX9_init RX9 rI_X9_init 1 (B + 1) := C.N 11
  have hm : ∀ i, i < 24 → kdX (11 + i) = 0 ∧ lnX (11 + i) = 4 ∧ offX (11 + i) = 2 + i := by decide +kernel
  have hZ1 : Z0 63 0 (fX1_load 3 39 s0) := z0_X1 (hZ.up (by decide))
  have hZ2 : Z0 84 0 (gX0 (fX1_load 3 39 s0)) := z0_X0 (zs_X1 hs) (hZ1.up (by decide))
  have hs1 : ZS (fX1_load 3 39 s0) := zs_X1 hs
  refine e_aload_n (C.N 11) dX9_init_0 rfl rfl ?_
  refine e_obj (C.N 11) dX9_init_1 mw_1_10 (by decide) (Nat.le_of_ble_eq_true rfl) ?_
  refine e_aload_n (C.N 11) dX9_init_4 rfl rfl ?_
  refine e_bipush (v := nI 24) (C.N 11) dX9_init_5 (by decide +kernel) ?_
  refine e_iconst (v := nI 4) (C.N 11) dX9_init_7 (by decide +kernel) ?_
  refine x_mna C 24 4 35 36 25 120 dX9_init_8 mw_1_13 (fun i hi => (fun i hi => ⟨(hm i hi).1, (hm i hi).2.1, hA.eq (2 + i) (by omega) (hm i hi).2.2 (by omega)⟩ : ∀ i, i < 24 → _ ∧ _ ∧ _) i hi) ⟨rfl, rfl, (hA.eq 1 (by decide) rfl (by omega)), fun j hj => rfl⟩ (by decide) (by decide) (by decide) (Nat.le_of_ble_eq_true rfl) (Nat.le_of_ble_eq_true rfl) hZ rfl rfl rfl rfl ?_
  refine e_putF2 (C.N 36) hN 0 [(ad 215, .inr (8, [.ref (ad 35), .null, .int 0, .int 0, .int 0, .int 0, .null, .null, .null, .null, .null, .null, .null, .null, .null, .null, .null]))] dX9_init_12 (fi_RX9_13 _ rfl) rfl rfl rfl (show 0 < 17 by decide) rfl ?_
  refine e_aload_n (C.N 36) dX9_init_15 rfl rfl ?_
  refine e_new2 (ci := 7) (C.N 36) (ad 37) 26 122 [.null, .int 0] tyX7 dX9_init_16 rfl inlX7 tyX7_ok mw_1_16 mw_1_17 mw_1_18 (fun j hj => nd_X7 j hj) (Nat.le_of_ble_eq_true rfl) (Nat.le_of_ble_eq_true rfl) (hA.eq 26 (by decide) rfl (by omega)) rfl rfl ?_
  refine e_dup (C.N 36) dX9_init_19 rfl ?_
  refine e_callIN2 (C.N 36) (wX D kc ad 38) 27 522 dX9_init_20 (i_X7_init l D kc ad B hA _ (hZ.up (by decide))) zi_X7 (fun U h => h.1) rfl rfl (Nat.le_of_ble_eq_true rfl) ⟨rfl, rfl, Nat.le_of_ble_eq_true rfl, Nat.le_of_ble_eq_true rfl⟩ ⟨Nat.le_of_ble_eq_true rfl, Nat.le_of_ble_eq_true rfl⟩ rfl rfl rfl ?_
  refine e_putF2 (C.N 38) hN 0 [(ad 215, .inr (8, [.ref (ad 35), .ref (ad 37), .int 0, .int 0, .int 0, .int 0, .null, .null, .null, .null, .null, .null, .null, .null, .null, .null, .null]))] dX9_init_23 (fi_RX9_19 _ rfl) rfl rfl rfl (show 1 < 17 by decide) rfl ?_
  refine e_aload_n (C.N 38) dX9_init_26 rfl rfl ?_
  refine e_sipush (v := nI 400) (C.N 38) dX9_init_27 (by decide +kernel) ?_
  refine e_putN2 (C.N 38) 0 [(ad 215, .inr (8, [.ref (ad 35), .ref (ad 37), .int (nI 400), .int 0, .int 0, .int 0, .null, .null, .null, .null, .null, .null, .null, .null, .null, .null, .null]))] dX9_init_30 (fi_RX9_23 _ rfl) rfl rfl rfl (show 2 < 17 by decide) rfl ?_
  refine e_aload_n (C.N 38) dX9_init_33 rfl rfl ?_
  refine e_iconst (v := nI 0) (C.N 38) dX9_init_34 (by decide +kernel) ?_
  refine e_putN2 (C.N 38) 0 [(ad 215, .inr (8, [.ref (ad 35), .ref (ad 37), .int (nI 400), .int (nI 0), .int 0, .int 0, .null, .null, .null, .null, .null, .null, .null, .null, .null, .null, .null]))] dX9_init_35 (fi_RX9_27 _ rfl) rfl rfl rfl (show 3 < 17 by decide) rfl ?_
  refine e_aload_n (C.N 38) dX9_init_38 rfl rfl ?_
  refine e_iconst (v := nI 0) (C.N 38) dX9_init_39 (by decide +kernel) ?_
  refine e_putN2 (C.N 38) 0 [(ad 215, .inr (8, [.ref (ad 35), .ref (ad 37), .int (nI 400), .int (nI 0), .int (nI 0), .int 0, .null, .null, .null, .null, .null, .null, .null, .null, .null, .null, .null]))] dX9_init_40 (fi_RX9_30 _ rfl) rfl rfl rfl (show 4 < 17 by decide) rfl ?_
  refine e_aload_n (C.N 38) dX9_init_43 rfl rfl ?_
  refine e_iconst (v := nI 0) (C.N 38) dX9_init_44 (by decide +kernel) ?_
  refine e_putN2 (C.N 38) 0 [(ad 215, .inr (8, [.ref (ad 35), .ref (ad 37), .int (nI 400), .int (nI 0), .int (nI 0), .int (nI 0), .null, .null, .null, .null, .null, .null, .null, .null, .null, .null, .null]))] dX9_init_45 (fi_RX9_33 _ rfl) rfl rfl rfl (show 5 < 17 by decide) rfl ?_
  refine e_aload_n (C.N 38) dX9_init_48 rfl rfl ?_
  refine e_new2 (ci := 1) (C.N 38) (ad 62) 28 530 [.null, .null, .null, .null, .null, .null, .null, .null] tyX1 dX9_init_49 rfl inlX1 tyX1_ok mw_2_0 mw_2_1 mw_2_2 (fun j hj => nd_X1 j hj) (Nat.le_of_ble_eq_true rfl) (Nat.le_of_ble_eq_true rfl) (hA.eq 28 (by decide) rfl (by omega)) rfl rfl ?_
  refine e_dup (C.N 38) dX9_init_52 rfl ?_
  refine e_callI2 (C.N 38) (wX D kc ad 63) 52 786 dX9_init_53 (i_X1_init l D kc ad B hA _ (hZ.up (by decide))) zi_X1 mw_3_14 rfl rfl (Nat.le_of_ble_eq_true rfl) ⟨rfl, rfl, Nat.le_of_ble_eq_true rfl, Nat.le_of_ble_eq_true rfl⟩ ⟨Nat.le_of_ble_eq_true rfl, Nat.le_of_ble_eq_true rfl⟩ rfl rfl rfl ?_
  refine e_putF2 (C.N 63) hN 0 [(ad 215, .inr (8, [.ref (ad 35), .ref (ad 37), .int (nI 400), .int (nI 0), .int (nI 0), .int (nI 0), .ref (ad 62), .null, .null, .null, .null, .null, .null, .null, .null, .null, .null]))] dX9_init_56 (fi_RX9_39 _ rfl) rfl rfl rfl (show 6 < 17 by decide) rfl ?_
  refine e_aload_n (C.N 63) dX9_init_59 rfl rfl ?_
  refine e_new2 (ci := 4) (C.N 63) (ad 66) 53 789 [.null, .null, .null] tyX4 dX9_init_60 rfl inlX4 tyX4_ok mw_2_4 mw_2_5 mw_2_6 (fun j hj => nd_X4 j hj) (Nat.le_of_ble_eq_true rfl) (Nat.le_of_ble_eq_true rfl) (hA.eq 53 (by decide) rfl (by omega)) rfl rfl ?_
  refine e_dup (C.N 63) dX9_init_63 rfl ?_
  refine e_callIN2 (C.N 63) (wX D kc ad 67) 56 801 dX9_init_64 (i_X4_init l D kc ad B hA _ (hZ1.up (by decide))) zi_X4 (fun U h => h.2.1) rfl rfl (Nat.le_of_ble_eq_true rfl) ⟨rfl, rfl, Nat.le_of_ble_eq_true rfl, Nat.le_of_ble_eq_true rfl⟩ ⟨Nat.le_of_ble_eq_true rfl, Nat.le_of_ble_eq_true rfl⟩ rfl rfl rfl ?_
  refine e_putF2 (C.N 67) hN 0 [(ad 215, .inr (8, [.ref (ad 35), .ref (ad 37), .int (nI 400), .int (nI 0), .int (nI 0), .int (nI 0), .ref (ad 62), .ref (ad 66), .null, .null, .null, .null, .null, .null, .null, .null, .null]))] dX9_init_67 (fi_RX9_46 _ rfl) rfl rfl rfl (show 7 < 17 by decide) rfl ?_
  refine e_aload_n (C.N 67) dX9_init_70 rfl rfl ?_
  refine e_new2 (ci := 0) (C.N 67) (ad 83) 57 815 [.null, .null, .null, .null, .null, .null, .null, .null, .null, .null, .null, .null, .null, .null] tyX0 dX9_init_71 rfl inlX0 tyX0_ok mw_2_8 mw_2_9 mw_2_10 (fun j hj => nd_X0 j hj) (Nat.le_of_ble_eq_true rfl) (Nat.le_of_ble_eq_true rfl) (hA.eq 57 (by decide) rfl (by omega)) rfl rfl ?_
  refine e_dup (C.N 67) dX9_init_74 rfl ?_
  refine e_aload_n (C.N 67) dX9_init_75 rfl rfl ?_
  refine e_getX (C.N 67) 1 dX9_init_76 (fi_RX9_39 _ rfl) rfl rfl ?_
  refine e_callI2 (C.N 67) (wX D kc ad 165) 154 1683 dX9_init_79 (i_X0_init l D kc ad B hA _ (hZ1.up (by decide)) hs1) zi_X0 mw_4_16 rfl rfl (Nat.le_of_ble_eq_true rfl) ⟨rfl, rfl, Nat.le_of_ble_eq_true rfl, Nat.le_of_ble_eq_true rfl⟩ ⟨Nat.le_of_ble_eq_true rfl, Nat.le_of_ble_eq_true rfl⟩ rfl rfl rfl ?_
  refine e_putF2 (C.N 165) hN 0 [(ad 215, .inr (8, [.ref (ad 35), .ref (ad 37), .int (nI 400), .int (nI 0), .int (nI 0), .int (nI 0), .ref (ad 62), .ref (ad 66), .ref (ad 83), .null, .null, .null, .null, .null, .null, .null, .null]))] dX9_init_82 (fi_RX9_55 _ rfl) rfl rfl rfl (show 8 < 17 by decide) rfl ?_
  refine e_aload_n (C.N 165) dX9_init_85 rfl rfl ?_
  refine e_new2 (ci := 2) (C.N 165) (ad 175) 155 1694 [.null, .null, .null, .null, .null, .null, .null, .null, .null, .null, .null] tyX2 dX9_init_86 rfl inlX2 tyX2_ok mw_2_12 mw_2_13 mw_2_14 (fun j hj => nd_X2 j hj) (Nat.le_of_ble_eq_true rfl) (Nat.le_of_ble_eq_true rfl) (hA.eq 155 (by decide) rfl (by omega)) rfl rfl ?_
  refine e_dup (C.N 165) dX9_init_89 rfl ?_
  refine e_aload_n (C.N 165) dX9_init_90 rfl rfl ?_
  refine e_getX (C.N 165) 1 dX9_init_91 (fi_RX9_39 _ rfl) rfl rfl ?_
  refine e_callI2 (C.N 165) (wX D kc ad 176) 165 1788 dX9_init_94 (i_X2_init l D kc ad B hA _ (hZ2.up (by decide))) zi_X2 mw_7_8 rfl rfl (Nat.le_of_ble_eq_true rfl) ⟨rfl, rfl, Nat.le_of_ble_eq_true rfl, Nat.le_of_ble_eq_true rfl⟩ ⟨Nat.le_of_ble_eq_true rfl, Nat.le_of_ble_eq_true rfl⟩ rfl rfl rfl ?_
  refine e_putF2 (C.N 176) hN 0 [(ad 215, .inr (8, [.ref (ad 35), .ref (ad 37), .int (nI 400), .int (nI 0), .int (nI 0), .int (nI 0), .ref (ad 62), .ref (ad 66), .ref (ad 83), .ref (ad 175), .null, .null, .null, .null, .null, .null, .null]))] dX9_init_97 (fi_RX9_62 _ rfl) rfl rfl rfl (show 9 < 17 by decide) rfl ?_
  refine e_aload_n (C.N 176) dX9_init_100 rfl rfl ?_
  refine e_new2 (ci := 5) (C.N 176) (ad 179) 166 1792 [.null, .int 0, .null, .null] tyX5 dX9_init_101 rfl inlX5 tyX5_ok mw_2_16 mw_2_17 mw_2_18 (fun j hj => nd_X5 j hj) (Nat.le_of_ble_eq_true rfl) (Nat.le_of_ble_eq_true rfl) (hA.eq 166 (by decide) rfl (by omega)) rfl rfl ?_
  refine e_dup (C.N 176) dX9_init_104 rfl ?_
  refine e_callIN2 (C.N 176) (wX D kc ad 180) 169 2392 dX9_init_105 (i_X5_init l D kc ad B hA _ (hZ2.up (by decide))) zi_X5 (fun U h => h.2.2.1) rfl rfl (Nat.le_of_ble_eq_true rfl) ⟨rfl, rfl, Nat.le_of_ble_eq_true rfl, Nat.le_of_ble_eq_true rfl⟩ ⟨Nat.le_of_ble_eq_true rfl, Nat.le_of_ble_eq_true rfl⟩ rfl rfl rfl ?_
  refine e_putF2 (C.N 180) hN 0 [(ad 215, .inr (8, [.ref (ad 35), .ref (ad 37), .int (nI 400), .int (nI 0), .int (nI 0), .int (nI 0), .ref (ad 62), .ref (ad 66), .ref (ad 83), .ref (ad 175), .ref (ad 179), .null, .null, .null, .null, .null, .null]))] dX9_init_108 (fi_RX9_69 _ rfl) rfl rfl rfl (show 10 < 17 by decide) rfl ?_
  refine e_aload_n (C.N 180) dX9_init_111 rfl rfl ?_
  refine e_new2 (ci := 6) (C.N 180) (ad 201) 170 2404 [.null, .null, .null, .null, .null, .null, .null, .null, .null, .null, .null, .null] tyX6 dX9_init_112 rfl inlX6 tyX6_ok mw_2_20 mw_2_21 mw_2_22 (fun j hj => nd_X6 j hj) (Nat.le_of_ble_eq_true rfl) (Nat.le_of_ble_eq_true rfl) (hA.eq 170 (by decide) rfl (by omega)) rfl rfl ?_
  refine e_dup (C.N 180) dX9_init_115 rfl ?_
  refine e_aload_n (C.N 180) dX9_init_116 rfl rfl ?_
  refine e_getX (C.N 180) 1 dX9_init_117 (fi_RX9_55 _ rfl) rfl rfl ?_
  refine e_aload_n (C.N 180) dX9_init_120 rfl rfl ?_
  refine e_getX (C.N 180) 1 dX9_init_121 (fi_RX9_46 _ rfl) rfl rfl ?_
  refine e_aload_n (C.N 180) dX9_init_124 rfl rfl ?_
  refine e_getX (C.N 180) 1 dX9_init_125 (fi_RX9_69 _ rfl) rfl rfl ?_
  refine e_callI2 (C.N 180) (wX D kc ad 202) 191 2564 dX9_init_128 (i_X6_init l D kc ad B hA _ (hZ2.up (by decide))) zi_X6 mw_8_6 rfl rfl (Nat.le_of_ble_eq_true rfl) ⟨rfl, rfl, Nat.le_of_ble_eq_true rfl, Nat.le_of_ble_eq_true rfl⟩ ⟨Nat.le_of_ble_eq_true rfl, Nat.le_of_ble_eq_true rfl⟩ rfl rfl rfl ?_
  refine e_putF2 (C.N 202) hN 0 [(ad 215, .inr (8, [.ref (ad 35), .ref (ad 37), .int (nI 400), .int (nI 0), .int (nI 0), .int (nI 0), .ref (ad 62), .ref (ad 66), .ref (ad 83), .ref (ad 175), .ref (ad 179), .ref (ad 201), .null, .null, .null, .null, .null]))] dX9_init_131 (fi_RX9_78 _ rfl) rfl rfl rfl (show 11 < 17 by decide) rfl ?_
  refine e_aload_n (C.N 202) dX9_init_134 rfl rfl ?_
  refine e_bipush (v := nI 10) (C.N 202) dX9_init_135 (by decide +kernel) ?_
  refine x_newL C 10 203 192 2574 dX9_init_137 rfl rfl (hA.eq 192 (by decide) rfl (by omega)) (by decide) (by decide) (Nat.le_of_ble_eq_true rfl) (Nat.le_of_ble_eq_true rfl) (hZ2.up (by decide)) rfl rfl rfl ?_
  refine e_putF2 (C.N 203) hN 0 [(ad 215, .inr (8, [.ref (ad 35), .ref (ad 37), .int (nI 400), .int (nI 0), .int (nI 0), .int (nI 0), .ref (ad 62), .ref (ad 66), .ref (ad 83), .ref (ad 175), .ref (ad 179), .ref (ad 201), .ref (ad 202), .null, .null, .null, .null]))] dX9_init_139 (fi_RX9_82 _ rfl) rfl rfl rfl (show 12 < 17 by decide) rfl ?_
  refine e_aload_n (C.N 203) dX9_init_142 rfl rfl ?_
  refine e_bipush (v := nI 10) (C.N 203) dX9_init_143 (by decide +kernel) ?_
  refine x_newL C 10 204 193 2584 dX9_init_145 rfl rfl (hA.eq 193 (by decide) rfl (by omega)) (by decide) (by decide) (Nat.le_of_ble_eq_true rfl) (Nat.le_of_ble_eq_true rfl) (hZ2.up (by decide)) rfl rfl rfl ?_
  refine e_putF2 (C.N 204) hN 0 [(ad 215, .inr (8, [.ref (ad 35), .ref (ad 37), .int (nI 400), .int (nI 0), .int (nI 0), .int (nI 0), .ref (ad 62), .ref (ad 66), .ref (ad 83), .ref (ad 175), .ref (ad 179), .ref (ad 201), .ref (ad 202), .ref (ad 203), .null, .null, .null]))] dX9_init_147 (fi_RX9_86 _ rfl) rfl rfl rfl (show 13 < 17 by decide) rfl ?_
  refine e_aload_n (C.N 204) dX9_init_150 rfl rfl ?_
  refine e_bipush (v := nI 8) (C.N 204) dX9_init_151 (by decide +kernel) ?_
  refine x_newL C 8 205 194 2592 dX9_init_153 rfl rfl (hA.eq 194 (by decide) rfl (by omega)) (by decide) (by decide) (Nat.le_of_ble_eq_true rfl) (Nat.le_of_ble_eq_true rfl) (hZ2.up (by decide)) rfl rfl rfl ?_
  refine e_putF2 (C.N 205) hN 0 [(ad 215, .inr (8, [.ref (ad 35), .ref (ad 37), .int (nI 400), .int (nI 0), .int (nI 0), .int (nI 0), .ref (ad 62), .ref (ad 66), .ref (ad 83), .ref (ad 175), .ref (ad 179), .ref (ad 201), .ref (ad 202), .ref (ad 203), .ref (ad 204), .null, .null]))] dX9_init_155 (fi_RX9_89 _ rfl) rfl rfl rfl (show 14 < 17 by decide) rfl ?_
  refine e_aload_n (C.N 205) dX9_init_158 rfl rfl ?_
  refine e_new2 (ci := 3) (C.N 205) (ad 209) 195 2596 [.null, .null, .null, .null] tyX3 dX9_init_159 rfl inlX3 tyX3_ok mw_3_3 mw_3_4 mw_3_5 (fun j hj => nd_X3 j hj) (Nat.le_of_ble_eq_true rfl) (Nat.le_of_ble_eq_true rfl) (hA.eq 195 (by decide) rfl (by omega)) rfl rfl ?_
  refine e_dup (C.N 205) dX9_init_162 rfl ?_
  refine e_callIN2 (C.N 205) (wX D kc ad 210) 199 2636 dX9_init_163 (i_X3_init l D kc ad 205 rfl _ (pt_4 hA 195 rfl rfl (by omega)) _ (hZ2.up (by decide))) zi_X3 (fun U h => h.2.2.2.1) rfl rfl (Nat.le_of_ble_eq_true rfl) ⟨rfl, rfl, Nat.le_of_ble_eq_true rfl, Nat.le_of_ble_eq_true rfl⟩ ⟨Nat.le_of_ble_eq_true rfl, Nat.le_of_ble_eq_true rfl⟩ rfl rfl rfl ?_
  refine e_putF2 (C.N 210) hN 0 [(ad 215, .inr (8, [.ref (ad 35), .ref (ad 37), .int (nI 400), .int (nI 0), .int (nI 0), .int (nI 0), .ref (ad 62), .ref (ad 66), .ref (ad 83), .ref (ad 175), .ref (ad 179), .ref (ad 201), .ref (ad 202), .ref (ad 203), .ref (ad 204), .ref (ad 209), .null]))] dX9_init_166 (fi_RX9_95 _ rfl) rfl rfl rfl (show 15 < 17 by decide) rfl ?_
  refine e_aload_n (C.N 210) dX9_init_169 rfl rfl ?_
  refine e_new2 (ci := 3) (C.N 210) (ad 214) 200 2640 [.null, .null, .null, .null] tyX3 dX9_init_170 rfl inlX3 tyX3_ok mw_3_3 mw_3_4 mw_3_5 (fun j hj => nd_X3 j hj) (Nat.le_of_ble_eq_true rfl) (Nat.le_of_ble_eq_true rfl) (hA.eq 200 (by decide) rfl (by omega)) rfl rfl ?_
  refine e_dup (C.N 210) dX9_init_173 rfl ?_
  refine e_callIN2 (C.N 210) (wX D kc ad 215) 204 2680 dX9_init_174 (i_X3_init l D kc ad 210 rfl _ (pt_4 hA 200 rfl rfl (by omega)) _ (hZ2.up (by decide))) zi_X3 (fun U h => h.2.2.2.1) rfl rfl (Nat.le_of_ble_eq_true rfl) ⟨rfl, rfl, Nat.le_of_ble_eq_true rfl, Nat.le_of_ble_eq_true rfl⟩ ⟨Nat.le_of_ble_eq_true rfl, Nat.le_of_ble_eq_true rfl⟩ rfl rfl rfl ?_
  refine e_putF2 (C.N 215) hN 0 [(ad 215, .inr (8, [.ref (ad 35), .ref (ad 37), .int (nI 400), .int (nI 0), .int (nI 0), .int (nI 0), .ref (ad 62), .ref (ad 66), .ref (ad 83), .ref (ad 175), .ref (ad 179), .ref (ad 201), .ref (ad 202), .ref (ad 203), .ref (ad 204), .ref (ad 209), .ref (ad 214)]))] dX9_init_177 (fi_RX9_99 _ rfl) rfl rfl rfl (show 16 < 17 by decide) rfl ?_
  refine e_commit2 (wX D kc ad 216) rfl ((zE_ob rfl).trans (by show Sum.inr (8, [_, _, Value.int ((gX0 (fX1_load 3 39 s0)).2.2 0), Value.int ((gX0 (fX1_load 3 39 s0)).2.2 1), Value.int ((gX0 (fX1_load 3 39 s0)).2.2 2), Value.int ((gX0 (fX1_load 3 39 s0)).2.2 3), _, _, _, _, _, _, _, _, _, _, _]) = _; rw [hZ2.2 0, hZ2.2 1, hZ2.2 2, hZ2.2 3]; rfl)) (show 11 ≤ 215 by decide) rfl ?_
  exact e_vret (C.N 216) hR dX9_init_180
