/-! the reference's constructor -/
theorem aM.eq {B : Nat} {ad : Nat → Nat} (h : aM B ad) {id v : Nat} (o : Nat) (h2 : offM id = o) (h3 : B + o = v) : ad id = v := by rw [h id, h2, h3]
theorem zi_X10 : zYI yX10_init cX10_init 1 0 := ⟨⟨mw_9_1, mw_1_5, by decide +kernel⟩, mw_9_0, rfl⟩
theorem fi_RX10_7 (w : zWl) (h : w.2.1 = vwCl) : zFi w RX10 7 9 0 true (tyX10 0) := ⟨RX10, TX10, 23, tyX10, by rw [h]; rfl, inlX10, tyX10_ok, nmX10, by decide, mw_9_3, rfl, rfl, rfl⟩
theorem fi_RX10_13 (w : zWl) (h : w.2.1 = vwCl) : zFi w RX10 13 9 1 true (tyX10 1) := ⟨RX10, TX10, 23, tyX10, by rw [h]; rfl, inlX10, tyX10_ok, nmX10, by decide, mw_9_5, rfl, rfl, rfl⟩
theorem fi_RX10_17 (w : zWl) (h : w.2.1 = vwCl) : zFi w RX10 17 9 3 false (tyX10 3) := ⟨RX10, TX10, 23, tyX10, by rw [h]; rfl, inlX10, tyX10_ok, nmX10, by decide, mw_9_6, rfl, rfl, rfl⟩
theorem fi_RX10_21 (w : zWl) (h : w.2.1 = vwCl) : zFi w RX10 21 9 7 true (tyX10 7) := ⟨RX10, TX10, 23, tyX10, by rw [h]; rfl, inlX10, tyX10_ok, nmX10, by decide, mw_9_7, rfl, rfl, rfl⟩
theorem fi_RX10_24 (w : zWl) (h : w.2.1 = vwCl) : zFi w RX10 24 9 8 true (tyX10 8) := ⟨RX10, TX10, 23, tyX10, by rw [h]; rfl, inlX10, tyX10_ok, nmX10, by decide, mw_9_8, rfl, rfl, rfl⟩
theorem fi_RX10_27 (w : zWl) (h : w.2.1 = vwCl) : zFi w RX10 27 9 9 true (tyX10 9) := ⟨RX10, TX10, 23, tyX10, by rw [h]; rfl, inlX10, tyX10_ok, nmX10, by decide, mw_9_9, rfl, rfl, rfl⟩
theorem fi_RX10_30 (w : zWl) (h : w.2.1 = vwCl) : zFi w RX10 30 9 10 true (tyX10 10) := ⟨RX10, TX10, 23, tyX10, by rw [h]; rfl, inlX10, tyX10_ok, nmX10, by decide, mw_9_10, rfl, rfl, rfl⟩
theorem fi_RX10_33 (w : zWl) (h : w.2.1 = vwCl) : zFi w RX10 33 9 11 true (tyX10 11) := ⟨RX10, TX10, 23, tyX10, by rw [h]; rfl, inlX10, tyX10_ok, nmX10, by decide, mw_9_11, rfl, rfl, rfl⟩
theorem fi_RX10_36 (w : zWl) (h : w.2.1 = vwCl) : zFi w RX10 36 9 12 true (tyX10 12) := ⟨RX10, TX10, 23, tyX10, by rw [h]; rfl, inlX10, tyX10_ok, nmX10, by decide, mw_9_12, rfl, rfl, rfl⟩
theorem fi_RX10_39 (w : zWl) (h : w.2.1 = vwCl) : zFi w RX10 39 9 13 true (tyX10 13) := ⟨RX10, TX10, 23, tyX10, by rw [h]; rfl, inlX10, tyX10_ok, nmX10, by decide, mw_9_13, rfl, rfl, rfl⟩
theorem fi_RX10_42 (w : zWl) (h : w.2.1 = vwCl) : zFi w RX10 42 9 14 true (tyX10 14) := ⟨RX10, TX10, 23, tyX10, by rw [h]; rfl, inlX10, tyX10_ok, nmX10, by decide, mw_9_14, rfl, rfl, rfl⟩
theorem fi_RX10_45 (w : zWl) (h : w.2.1 = vwCl) : zFi w RX10 45 9 15 true (tyX10 15) := ⟨RX10, TX10, 23, tyX10, by rw [h]; rfl, inlX10, tyX10_ok, nmX10, by decide, mw_9_15, rfl, rfl, rfl⟩
theorem fi_RX10_48 (w : zWl) (h : w.2.1 = vwCl) : zFi w RX10 48 9 17 true (tyX10 17) := ⟨RX10, TX10, 23, tyX10, by rw [h]; rfl, inlX10, tyX10_ok, nmX10, by decide, mw_9_16, rfl, rfl, rfl⟩
theorem fi_RX10_51 (w : zWl) (h : w.2.1 = vwCl) : zFi w RX10 51 9 18 true (tyX10 18) := ⟨RX10, TX10, 23, tyX10, by rw [h]; rfl, inlX10, tyX10_ok, nmX10, by decide, mw_9_17, rfl, rfl, rfl⟩
theorem fi_RX10_54 (w : zWl) (h : w.2.1 = vwCl) : zFi w RX10 54 9 19 true (tyX10 19) := ⟨RX10, TX10, 23, tyX10, by rw [h]; rfl, inlX10, tyX10_ok, nmX10, by decide, mw_9_18, rfl, rfl, rfl⟩
theorem fi_RX10_57 (w : zWl) (h : w.2.1 = vwCl) : zFi w RX10 57 9 20 true (tyX10 20) := ⟨RX10, TX10, 23, tyX10, by rw [h]; rfl, inlX10, tyX10_ok, nmX10, by decide, mw_9_19, rfl, rfl, rfl⟩
theorem fi_RX10_60 (w : zWl) (h : w.2.1 = vwCl) : zFi w RX10 60 9 21 true (tyX10 21) := ⟨RX10, TX10, 23, tyX10, by rw [h]; rfl, inlX10, tyX10_ok, nmX10, by decide, mw_9_20, rfl, rfl, rfl⟩
theorem fi_RX10_63 (w : zWl) (h : w.2.1 = vwCl) : zFi w RX10 63 9 22 true (tyX10 22) := ⟨RX10, TX10, 23, tyX10, by rw [h]; rfl, inlX10, tyX10_ok, nmX10, by decide, mw_9_21, rfl, rfl, rfl⟩
def gM (s0 : zSt) : zSt :=
  let t1 := fX10_words 36 (-19) (-1) (-1) 9223372036854775807 s0
  let t2 := fX10_words 32 6346243789798364141 1503914060200516822 0 1152921504606846976 t1
  let t3 := fX10_put 1 1 t2
  let t4 := fX10_put 26 2 t3
  let t5 := fX10_words 0 (-5) (-1) (-1) 2305843009213693951 t4
  let t6 := fX10_raise 4 26 0 t5
  let t7 := fX10_put 26 121665 t6
  let t8 := fX10_subtract 26 0 26 t7
  let t9 := fX10_put 41 121666 t8
  let t10 := fX10_invert 41 41 t9
  let t11 := fX10_multiply 2 26 41 t10
  let t12 := fX10_add 3 2 2 t11
  let t13 := fX10_reduce 3 t12
  let t14 := fX10_put 26 4 t13
  let t15 := fX10_put 41 5 t14
  let t16 := fX10_invert 41 41 t15
  let t17 := fX10_multiply 42 26 41 t16
  let t18 := fX10_pack 24 42 t17
  t18
abbrev rI_X10_init : Room := { frames := 5, cells := 17, slots := 2470, locals := 119 }
set_option maxHeartbeats 4000000 in
set_option maxRecDepth 100000 in
theorem i_X10_init (l : Launch) (D : va_G) (kc : Nat → ClassId) (ad : Nat → Nat) (B : Nat) (hA : aM B ad) (s0 : zSt) (hZ : Z0 0 1 s0) (hopen : zfst (fX10_open 5 24 (gM s0)) = true) : zMI l yX10_init cX10_init 1 rI_X10_init (wMn D kc ad 0) 18 (ad 17) (.inr (9, [.null, .null, .int 0, .int 0, .int 0, .int 0, .int 0, .null, .null, .null, .null, .null, .null, .null, .null, .null, .int 0, .null, .null, .null, .null, .null, .null])) [.ref (ad 17)] s0 (fX10_roots_ (zsnd (fX10_open 5 24 (gM s0)))) (B + 206) 17 2470 := by
  refine zI_of (own := RX10) (by decide +kernel) rfl rfl (Nat.le_of_ble_eq_true rfl) ?_
  intro κ C hN hR
  refine e_at [(0, .ref (ad 17))] ⟨rfl, trivial⟩ ?_
  have CM : zCX κ l (wM D kc ad) cX10_init RX10 rI_X10_init 1 (B + 206) := C.N 18
  refine e_aload_n (C.N 0) dX10_init_0 rfl rfl ?_
  refine e_obj (C.N 0) dX10_init_1 mw_9_2 (by decide) (Nat.le_of_ble_eq_true rfl) ?_
  refine e_aload_n (C.N 0) dX10_init_4 rfl rfl ?_
  refine e_bipush (v := nI 96) (C.N 0) dX10_init_5 (by decide +kernel) ?_
  refine m_newL C 96 1 1 96 dX10_init_7 rfl rfl (hA.eq 206 rfl (by omega)) (by decide) (by decide) (Nat.le_of_ble_eq_true rfl) (Nat.le_of_ble_eq_true rfl) hZ rfl rfl rfl ?_
  refine e_putF2 (C.N 1) hN 0 [(ad 17, .inr (9, [.ref (ad 0), .null, .int 0, .int 0, .int 0, .int 0, .int 0, .null, .null, .null, .null, .null, .null, .null, .null, .null, .int 0, .null, .null, .null, .null, .null, .null]))] dX10_init_9 (fi_RX10_7 _ rfl) rfl rfl rfl (show 0 < 23 by decide) rfl ?_
  refine e_aload_n (C.N 1) dX10_init_12 rfl rfl ?_
  refine e_sipush (v := nI 400) (C.N 1) dX10_init_13 (by decide +kernel) ?_
  refine m_newI C 400 2 2 496 dX10_init_16 rfl rfl (hA.eq 207 rfl (by omega)) (by decide) (by decide) (Nat.le_of_ble_eq_true rfl) (Nat.le_of_ble_eq_true rfl) (hZ.up (by decide)) rfl rfl rfl ?_
  refine e_putF2 (C.N 2) hN 0 [(ad 17, .inr (9, [.ref (ad 0), .ref (ad 1), .int 0, .int 0, .int 0, .int 0, .int 0, .null, .null, .null, .null, .null, .null, .null, .null, .null, .int 0, .null, .null, .null, .null, .null, .null]))] dX10_init_18 (fi_RX10_13 _ rfl) rfl rfl rfl (show 1 < 23 by decide) rfl ?_
  refine e_aload_n (C.N 2) dX10_init_21 rfl rfl ?_
  refine e_sipush (v := nI 400) (C.N 2) dX10_init_22 (by decide +kernel) ?_
  refine e_putN2 (C.N 2) 0 [(ad 17, .inr (9, [.ref (ad 0), .ref (ad 1), .int 0, .int (nI 400), .int 0, .int 0, .int 0, .null, .null, .null, .null, .null, .null, .null, .null, .null, .int 0, .null, .null, .null, .null, .null, .null]))] dX10_init_25 (fi_RX10_17 _ rfl) rfl rfl rfl (show 3 < 23 by decide) rfl ?_
  refine e_aload_n (C.N 2) dX10_init_28 rfl rfl ?_
  refine e_sipush (v := nI 768) (C.N 2) dX10_init_29 (by decide +kernel) ?_
  refine m_newL C 768 3 3 1264 dX10_init_32 rfl rfl (hA.eq 208 rfl (by omega)) (by decide) (by decide) (Nat.le_of_ble_eq_true rfl) (Nat.le_of_ble_eq_true rfl) (hZ.up (by decide)) rfl rfl rfl ?_
  refine e_putF2 (C.N 3) hN 0 [(ad 17, .inr (9, [.ref (ad 0), .ref (ad 1), .int 0, .int (nI 400), .int 0, .int 0, .int 0, .ref (ad 2), .null, .null, .null, .null, .null, .null, .null, .null, .int 0, .null, .null, .null, .null, .null, .null]))] dX10_init_34 (fi_RX10_21 _ rfl) rfl rfl rfl (show 7 < 23 by decide) rfl ?_
  refine e_aload_n (C.N 3) dX10_init_37 rfl rfl ?_
  refine e_bipush (v := nI 32) (C.N 3) dX10_init_38 (by decide +kernel) ?_
  refine m_newL C 32 4 4 1296 dX10_init_40 rfl rfl (hA.eq 209 rfl (by omega)) (by decide) (by decide) (Nat.le_of_ble_eq_true rfl) (Nat.le_of_ble_eq_true rfl) (hZ.up (by decide)) rfl rfl rfl ?_
  refine e_putF2 (C.N 4) hN 0 [(ad 17, .inr (9, [.ref (ad 0), .ref (ad 1), .int 0, .int (nI 400), .int 0, .int 0, .int 0, .ref (ad 2), .ref (ad 3), .null, .null, .null, .null, .null, .null, .null, .int 0, .null, .null, .null, .null, .null, .null]))] dX10_init_42 (fi_RX10_24 _ rfl) rfl rfl rfl (show 8 < 23 by decide) rfl ?_
  refine e_aload_n (C.N 4) dX10_init_45 rfl rfl ?_
  refine e_bipush (v := nI 64) (C.N 4) dX10_init_46 (by decide +kernel) ?_
  refine m_newL C 64 5 5 1360 dX10_init_48 rfl rfl (hA.eq 210 rfl (by omega)) (by decide) (by decide) (Nat.le_of_ble_eq_true rfl) (Nat.le_of_ble_eq_true rfl) (hZ.up (by decide)) rfl rfl rfl ?_
  refine e_putF2 (C.N 5) hN 0 [(ad 17, .inr (9, [.ref (ad 0), .ref (ad 1), .int 0, .int (nI 400), .int 0, .int 0, .int 0, .ref (ad 2), .ref (ad 3), .ref (ad 4), .null, .null, .null, .null, .null, .null, .int 0, .null, .null, .null, .null, .null, .null]))] dX10_init_50 (fi_RX10_27 _ rfl) rfl rfl rfl (show 9 < 23 by decide) rfl ?_
  refine e_aload_n (C.N 5) dX10_init_53 rfl rfl ?_
  refine e_bipush (v := nI 8) (C.N 5) dX10_init_54 (by decide +kernel) ?_
  refine m_newL C 8 6 6 1368 dX10_init_56 rfl rfl (hA.eq 211 rfl (by omega)) (by decide) (by decide) (Nat.le_of_ble_eq_true rfl) (Nat.le_of_ble_eq_true rfl) (hZ.up (by decide)) rfl rfl rfl ?_
  refine e_putF2 (C.N 6) hN 0 [(ad 17, .inr (9, [.ref (ad 0), .ref (ad 1), .int 0, .int (nI 400), .int 0, .int 0, .int 0, .ref (ad 2), .ref (ad 3), .ref (ad 4), .ref (ad 5), .null, .null, .null, .null, .null, .int 0, .null, .null, .null, .null, .null, .null]))] dX10_init_58 (fi_RX10_30 _ rfl) rfl rfl rfl (show 10 < 23 by decide) rfl ?_
  refine e_aload_n (C.N 6) dX10_init_61 rfl rfl ?_
  refine e_bipush (v := nI 80) (C.N 6) dX10_init_62 (by decide +kernel) ?_
  refine m_newL C 80 7 7 1448 dX10_init_64 rfl rfl (hA.eq 212 rfl (by omega)) (by decide) (by decide) (Nat.le_of_ble_eq_true rfl) (Nat.le_of_ble_eq_true rfl) (hZ.up (by decide)) rfl rfl rfl ?_
  refine e_putF2 (C.N 7) hN 0 [(ad 17, .inr (9, [.ref (ad 0), .ref (ad 1), .int 0, .int (nI 400), .int 0, .int 0, .int 0, .ref (ad 2), .ref (ad 3), .ref (ad 4), .ref (ad 5), .ref (ad 6), .null, .null, .null, .null, .int 0, .null, .null, .null, .null, .null, .null]))] dX10_init_66 (fi_RX10_33 _ rfl) rfl rfl rfl (show 11 < 23 by decide) rfl ?_
  refine e_aload_n (C.N 7) dX10_init_69 rfl rfl ?_
  refine e_bipush (v := nI 6) (C.N 7) dX10_init_70 (by decide +kernel) ?_
  refine m_newL C 6 8 8 1454 dX10_init_72 rfl rfl (hA.eq 213 rfl (by omega)) (by decide) (by decide) (Nat.le_of_ble_eq_true rfl) (Nat.le_of_ble_eq_true rfl) (hZ.up (by decide)) rfl rfl rfl ?_
  refine e_putF2 (C.N 8) hN 0 [(ad 17, .inr (9, [.ref (ad 0), .ref (ad 1), .int 0, .int (nI 400), .int 0, .int 0, .int 0, .ref (ad 2), .ref (ad 3), .ref (ad 4), .ref (ad 5), .ref (ad 6), .ref (ad 7), .null, .null, .null, .int 0, .null, .null, .null, .null, .null, .null]))] dX10_init_74 (fi_RX10_36 _ rfl) rfl rfl rfl (show 12 < 23 by decide) rfl ?_
  refine e_aload_n (C.N 8) dX10_init_77 rfl rfl ?_
  refine e_bipush (v := nI 12) (C.N 8) dX10_init_78 (by decide +kernel) ?_
  refine m_newL C 12 9 9 1466 dX10_init_80 rfl rfl (hA.eq 214 rfl (by omega)) (by decide) (by decide) (Nat.le_of_ble_eq_true rfl) (Nat.le_of_ble_eq_true rfl) (hZ.up (by decide)) rfl rfl rfl ?_
  refine e_putF2 (C.N 9) hN 0 [(ad 17, .inr (9, [.ref (ad 0), .ref (ad 1), .int 0, .int (nI 400), .int 0, .int 0, .int 0, .ref (ad 2), .ref (ad 3), .ref (ad 4), .ref (ad 5), .ref (ad 6), .ref (ad 7), .ref (ad 8), .null, .null, .int 0, .null, .null, .null, .null, .null, .null]))] dX10_init_82 (fi_RX10_39 _ rfl) rfl rfl rfl (show 13 < 23 by decide) rfl ?_
  refine e_aload_n (C.N 9) dX10_init_85 rfl rfl ?_
  refine e_bipush (v := nI 18) (C.N 9) dX10_init_86 (by decide +kernel) ?_
  refine m_newL C 18 10 10 1484 dX10_init_88 rfl rfl (hA.eq 215 rfl (by omega)) (by decide) (by decide) (Nat.le_of_ble_eq_true rfl) (Nat.le_of_ble_eq_true rfl) (hZ.up (by decide)) rfl rfl rfl ?_
  refine e_putF2 (C.N 10) hN 0 [(ad 17, .inr (9, [.ref (ad 0), .ref (ad 1), .int 0, .int (nI 400), .int 0, .int 0, .int 0, .ref (ad 2), .ref (ad 3), .ref (ad 4), .ref (ad 5), .ref (ad 6), .ref (ad 7), .ref (ad 8), .ref (ad 9), .null, .int 0, .null, .null, .null, .null, .null, .null]))] dX10_init_90 (fi_RX10_42 _ rfl) rfl rfl rfl (show 14 < 23 by decide) rfl ?_
  refine e_aload_n (C.N 10) dX10_init_93 rfl rfl ?_
  refine e_sipush (v := nI 768) (C.N 10) dX10_init_94 (by decide +kernel) ?_
  refine m_newI C 768 11 11 2252 dX10_init_97 rfl rfl (hA.eq 216 rfl (by omega)) (by decide) (by decide) (Nat.le_of_ble_eq_true rfl) (Nat.le_of_ble_eq_true rfl) (hZ.up (by decide)) rfl rfl rfl ?_
  refine e_putF2 (C.N 11) hN 0 [(ad 17, .inr (9, [.ref (ad 0), .ref (ad 1), .int 0, .int (nI 400), .int 0, .int 0, .int 0, .ref (ad 2), .ref (ad 3), .ref (ad 4), .ref (ad 5), .ref (ad 6), .ref (ad 7), .ref (ad 8), .ref (ad 9), .ref (ad 10), .int 0, .null, .null, .null, .null, .null, .null]))] dX10_init_99 (fi_RX10_45 _ rfl) rfl rfl rfl (show 15 < 23 by decide) rfl ?_
  refine e_aload_n (C.N 11) dX10_init_102 rfl rfl ?_
  refine e_bipush (v := nI 80) (C.N 11) dX10_init_103 (by decide +kernel) ?_
  refine m_newL C 80 12 12 2332 dX10_init_105 rfl rfl (hA.eq 217 rfl (by omega)) (by decide) (by decide) (Nat.le_of_ble_eq_true rfl) (Nat.le_of_ble_eq_true rfl) (hZ.up (by decide)) rfl rfl rfl ?_
  refine e_putF2 (C.N 12) hN 0 [(ad 17, .inr (9, [.ref (ad 0), .ref (ad 1), .int 0, .int (nI 400), .int 0, .int 0, .int 0, .ref (ad 2), .ref (ad 3), .ref (ad 4), .ref (ad 5), .ref (ad 6), .ref (ad 7), .ref (ad 8), .ref (ad 9), .ref (ad 10), .int 0, .ref (ad 11), .null, .null, .null, .null, .null]))] dX10_init_107 (fi_RX10_48 _ rfl) rfl rfl rfl (show 17 < 23 by decide) rfl ?_
  refine e_aload_n (C.N 12) dX10_init_110 rfl rfl ?_
  refine e_bipush (v := nI 8) (C.N 12) dX10_init_111 (by decide +kernel) ?_
  refine m_newL C 8 13 13 2340 dX10_init_113 rfl rfl (hA.eq 218 rfl (by omega)) (by decide) (by decide) (Nat.le_of_ble_eq_true rfl) (Nat.le_of_ble_eq_true rfl) (hZ.up (by decide)) rfl rfl rfl ?_
  refine e_putF2 (C.N 13) hN 0 [(ad 17, .inr (9, [.ref (ad 0), .ref (ad 1), .int 0, .int (nI 400), .int 0, .int 0, .int 0, .ref (ad 2), .ref (ad 3), .ref (ad 4), .ref (ad 5), .ref (ad 6), .ref (ad 7), .ref (ad 8), .ref (ad 9), .ref (ad 10), .int 0, .ref (ad 11), .ref (ad 12), .null, .null, .null, .null]))] dX10_init_115 (fi_RX10_51 _ rfl) rfl rfl rfl (show 18 < 23 by decide) rfl ?_
  refine e_aload_n (C.N 13) dX10_init_118 rfl rfl ?_
  refine e_bipush (v := nI 8) (C.N 13) dX10_init_119 (by decide +kernel) ?_
  refine m_newL C 8 14 14 2348 dX10_init_121 rfl rfl (hA.eq 219 rfl (by omega)) (by decide) (by decide) (Nat.le_of_ble_eq_true rfl) (Nat.le_of_ble_eq_true rfl) (hZ.up (by decide)) rfl rfl rfl ?_
  refine e_putF2 (C.N 14) hN 0 [(ad 17, .inr (9, [.ref (ad 0), .ref (ad 1), .int 0, .int (nI 400), .int 0, .int 0, .int 0, .ref (ad 2), .ref (ad 3), .ref (ad 4), .ref (ad 5), .ref (ad 6), .ref (ad 7), .ref (ad 8), .ref (ad 9), .ref (ad 10), .int 0, .ref (ad 11), .ref (ad 12), .ref (ad 13), .null, .null, .null]))] dX10_init_123 (fi_RX10_54 _ rfl) rfl rfl rfl (show 19 < 23 by decide) rfl ?_
  refine e_aload_n (C.N 14) dX10_init_126 rfl rfl ?_
  refine e_bipush (v := nI 64) (C.N 14) dX10_init_127 (by decide +kernel) ?_
  refine m_newI C 64 15 15 2412 dX10_init_129 rfl rfl (hA.eq 220 rfl (by omega)) (by decide) (by decide) (Nat.le_of_ble_eq_true rfl) (Nat.le_of_ble_eq_true rfl) (hZ.up (by decide)) rfl rfl rfl ?_
  refine e_putF2 (C.N 15) hN 0 [(ad 17, .inr (9, [.ref (ad 0), .ref (ad 1), .int 0, .int (nI 400), .int 0, .int 0, .int 0, .ref (ad 2), .ref (ad 3), .ref (ad 4), .ref (ad 5), .ref (ad 6), .ref (ad 7), .ref (ad 8), .ref (ad 9), .ref (ad 10), .int 0, .ref (ad 11), .ref (ad 12), .ref (ad 13), .ref (ad 14), .null, .null]))] dX10_init_131 (fi_RX10_57 _ rfl) rfl rfl rfl (show 20 < 23 by decide) rfl ?_
  refine e_aload_n (C.N 15) dX10_init_134 rfl rfl ?_
  refine e_bipush (v := nI 40) (C.N 15) dX10_init_135 (by decide +kernel) ?_
  refine m_newL C 40 16 16 2452 dX10_init_137 rfl rfl (hA.eq 221 rfl (by omega)) (by decide) (by decide) (Nat.le_of_ble_eq_true rfl) (Nat.le_of_ble_eq_true rfl) (hZ.up (by decide)) rfl rfl rfl ?_
  refine e_putF2 (C.N 16) hN 0 [(ad 17, .inr (9, [.ref (ad 0), .ref (ad 1), .int 0, .int (nI 400), .int 0, .int 0, .int 0, .ref (ad 2), .ref (ad 3), .ref (ad 4), .ref (ad 5), .ref (ad 6), .ref (ad 7), .ref (ad 8), .ref (ad 9), .ref (ad 10), .int 0, .ref (ad 11), .ref (ad 12), .ref (ad 13), .ref (ad 14), .ref (ad 15), .null]))] dX10_init_139 (fi_RX10_60 _ rfl) rfl rfl rfl (show 21 < 23 by decide) rfl ?_
  refine e_aload_n (C.N 16) dX10_init_142 rfl rfl ?_
  refine e_bipush (v := nI 18) (C.N 16) dX10_init_143 (by decide +kernel) ?_
  refine m_newL C 18 17 17 2470 dX10_init_145 rfl rfl (hA.eq 222 rfl (by omega)) (by decide) (by decide) (Nat.le_of_ble_eq_true rfl) (Nat.le_of_ble_eq_true rfl) (hZ.up (by decide)) rfl rfl rfl ?_
  refine e_putF2 (C.N 17) hN 0 [(ad 17, .inr (9, [.ref (ad 0), .ref (ad 1), .int 0, .int (nI 400), .int 0, .int 0, .int 0, .ref (ad 2), .ref (ad 3), .ref (ad 4), .ref (ad 5), .ref (ad 6), .ref (ad 7), .ref (ad 8), .ref (ad 9), .ref (ad 10), .int 0, .ref (ad 11), .ref (ad 12), .ref (ad 13), .ref (ad 14), .ref (ad 15), .ref (ad 16)]))] dX10_init_147 (fi_RX10_63 _ rfl) rfl rfl rfl (show 22 < 23 by decide) rfl ?_
  refine e_commit2 (wM D kc ad) rfl ((zE_ob rfl).trans (by show Sum.inr (9, [_, _, Value.int (s0.2.2 0), Value.int (s0.2.2 1), Value.int (s0.2.2 2), Value.int (s0.2.2 3), Value.int (s0.2.2 4), _, _, _, _, _, _, _, _, _, Value.int (s0.2.2 5), _, _, _, _, _, _]) = _; rw [hZ.2 0, hZ.2 1, hZ.2 2, hZ.2 3, hZ.2 4, hZ.2 5]; rfl)) (Nat.zero_le _) rfl ?_
  refine e_aload_n CM dX10_init_150 rfl rfl ?_
  refine e_bipush (v := nI 36) CM dX10_init_151 (by decide +kernel) ?_
  refine e_ldc2 (v := (-19)) CM dX10_init_153 mw_9_22 ?_
  refine e_ldc2 (v := (-1)) CM dX10_init_156 mw_9_23 ?_
  refine e_ldc2 (v := (-1)) CM dX10_init_159 mw_9_23 ?_
  refine e_ldc2 (v := (9223372036854775807)) CM dX10_init_162 mw_10_0 ?_
  refine e_callV0 (T := TX10) (N := 23) CM dX10_init_165 (k_X10_words l D kc ad 36 (by decide) (-19) (-1) (-1) 9223372036854775807 _) zy_X10_words mw_10_11 rfl rfl (Nat.zero_le _) (show 17 < 18 by decide) rfl rfl (Nat.le_of_ble_eq_true rfl) ⟨rfl, rfl, Nat.le_of_ble_eq_true rfl, Nat.le_of_ble_eq_true rfl⟩ ⟨Nat.le_of_ble_eq_true rfl, Nat.le_of_ble_eq_true rfl⟩ ?_
  refine e_aload_n CM dX10_init_168 rfl rfl ?_
  refine e_bipush (v := nI 32) CM dX10_init_169 (by decide +kernel) ?_
  refine e_ldc2 (v := (6346243789798364141)) CM dX10_init_171 mw_10_1 ?_
  refine e_ldc2 (v := (1503914060200516822)) CM dX10_init_174 mw_10_2 ?_
  refine e_lconst (v := 0) CM dX10_init_177 (by decide +kernel) ?_
  refine e_ldc2 (v := (1152921504606846976)) CM dX10_init_178 mw_10_3 ?_
  refine e_callV0 (T := TX10) (N := 23) CM dX10_init_181 (k_X10_words l D kc ad 32 (by decide) 6346243789798364141 1503914060200516822 0 1152921504606846976 _) zy_X10_words mw_10_11 rfl rfl (Nat.zero_le _) (show 17 < 18 by decide) rfl rfl (Nat.le_of_ble_eq_true rfl) ⟨rfl, rfl, Nat.le_of_ble_eq_true rfl, Nat.le_of_ble_eq_true rfl⟩ ⟨Nat.le_of_ble_eq_true rfl, Nat.le_of_ble_eq_true rfl⟩ ?_
  refine e_aload_n CM dX10_init_184 rfl rfl ?_
  refine e_iconst (v := nI 1) CM dX10_init_185 (by decide +kernel) ?_
  refine e_lconst (v := 1) CM dX10_init_186 (by decide +kernel) ?_
  refine e_callV0 (T := TX10) (N := 23) CM dX10_init_187 (k_X10_put l D kc ad 1 (by decide) 1 _) zy_X10_put mw_10_15 rfl rfl (Nat.zero_le _) (show 17 < 18 by decide) rfl rfl (Nat.le_of_ble_eq_true rfl) ⟨rfl, rfl, Nat.le_of_ble_eq_true rfl, Nat.le_of_ble_eq_true rfl⟩ ⟨Nat.le_of_ble_eq_true rfl, Nat.le_of_ble_eq_true rfl⟩ ?_
  refine e_aload_n CM dX10_init_190 rfl rfl ?_
  refine e_bipush (v := nI 26) CM dX10_init_191 (by decide +kernel) ?_
  refine e_ldc2 (v := (2)) CM dX10_init_193 mw_10_4 ?_
  refine e_callV0 (T := TX10) (N := 23) CM dX10_init_196 (k_X10_put l D kc ad 26 (by decide) 2 _) zy_X10_put mw_10_15 rfl rfl (Nat.zero_le _) (show 17 < 18 by decide) rfl rfl (Nat.le_of_ble_eq_true rfl) ⟨rfl, rfl, Nat.le_of_ble_eq_true rfl, Nat.le_of_ble_eq_true rfl⟩ ⟨Nat.le_of_ble_eq_true rfl, Nat.le_of_ble_eq_true rfl⟩ ?_
  refine e_aload_n CM dX10_init_199 rfl rfl ?_
  refine e_iconst (v := nI 0) CM dX10_init_200 (by decide +kernel) ?_
  refine e_ldc2 (v := (-5)) CM dX10_init_201 mw_10_5 ?_
  refine e_ldc2 (v := (-1)) CM dX10_init_204 mw_9_23 ?_
  refine e_ldc2 (v := (-1)) CM dX10_init_207 mw_9_23 ?_
  refine e_ldc2 (v := (2305843009213693951)) CM dX10_init_210 mw_10_6 ?_
  refine e_callV0 (T := TX10) (N := 23) CM dX10_init_213 (k_X10_words l D kc ad 0 (by decide) (-5) (-1) (-1) 2305843009213693951 _) zy_X10_words mw_10_11 rfl rfl (Nat.zero_le _) (show 17 < 18 by decide) rfl rfl (Nat.le_of_ble_eq_true rfl) ⟨rfl, rfl, Nat.le_of_ble_eq_true rfl, Nat.le_of_ble_eq_true rfl⟩ ⟨Nat.le_of_ble_eq_true rfl, Nat.le_of_ble_eq_true rfl⟩ ?_
  refine e_aload_n CM dX10_init_216 rfl rfl ?_
  refine e_iconst (v := nI 4) CM dX10_init_217 (by decide +kernel) ?_
  refine e_bipush (v := nI 26) CM dX10_init_218 (by decide +kernel) ?_
  refine e_iconst (v := nI 0) CM dX10_init_220 (by decide +kernel) ?_
  refine e_callV0 (T := TX10) (N := 23) CM dX10_init_221 (k_X10_raise l D kc ad 4 (by decide) 26 (by decide) 0 (by decide) _) zy_X10_raise mw_10_20 rfl rfl (Nat.zero_le _) (show 17 < 18 by decide) rfl rfl (Nat.le_of_ble_eq_true rfl) ⟨rfl, rfl, Nat.le_of_ble_eq_true rfl, Nat.le_of_ble_eq_true rfl⟩ ⟨Nat.le_of_ble_eq_true rfl, Nat.le_of_ble_eq_true rfl⟩ ?_
  refine e_aload_n CM dX10_init_224 rfl rfl ?_
  refine e_bipush (v := nI 26) CM dX10_init_225 (by decide +kernel) ?_
  refine e_ldc2 (v := (121665)) CM dX10_init_227 mw_10_7 ?_
  refine e_callV0 (T := TX10) (N := 23) CM dX10_init_230 (k_X10_put l D kc ad 26 (by decide) 121665 _) zy_X10_put mw_10_15 rfl rfl (Nat.zero_le _) (show 17 < 18 by decide) rfl rfl (Nat.le_of_ble_eq_true rfl) ⟨rfl, rfl, Nat.le_of_ble_eq_true rfl, Nat.le_of_ble_eq_true rfl⟩ ⟨Nat.le_of_ble_eq_true rfl, Nat.le_of_ble_eq_true rfl⟩ ?_
  refine e_aload_n CM dX10_init_233 rfl rfl ?_
  refine e_bipush (v := nI 26) CM dX10_init_234 (by decide +kernel) ?_
  refine e_iconst (v := nI 0) CM dX10_init_236 (by decide +kernel) ?_
  refine e_bipush (v := nI 26) CM dX10_init_237 (by decide +kernel) ?_
  refine e_callV0 (T := TX10) (N := 23) CM dX10_init_239 (k_X10_subtract l D kc ad 26 (by decide) 0 (by decide) 26 (by decide) _) zy_X10_subtract mw_11_17 rfl rfl (Nat.zero_le _) (show 17 < 18 by decide) rfl rfl (Nat.le_of_ble_eq_true rfl) ⟨rfl, rfl, Nat.le_of_ble_eq_true rfl, Nat.le_of_ble_eq_true rfl⟩ ⟨Nat.le_of_ble_eq_true rfl, Nat.le_of_ble_eq_true rfl⟩ ?_
  refine e_aload_n CM dX10_init_242 rfl rfl ?_
  refine e_bipush (v := nI 41) CM dX10_init_243 (by decide +kernel) ?_
  refine e_ldc2 (v := (121666)) CM dX10_init_245 mw_10_8 ?_
  refine e_callV0 (T := TX10) (N := 23) CM dX10_init_248 (k_X10_put l D kc ad 41 (by decide) 121666 _) zy_X10_put mw_10_15 rfl rfl (Nat.zero_le _) (show 17 < 18 by decide) rfl rfl (Nat.le_of_ble_eq_true rfl) ⟨rfl, rfl, Nat.le_of_ble_eq_true rfl, Nat.le_of_ble_eq_true rfl⟩ ⟨Nat.le_of_ble_eq_true rfl, Nat.le_of_ble_eq_true rfl⟩ ?_
  refine e_aload_n CM dX10_init_251 rfl rfl ?_
  refine e_bipush (v := nI 41) CM dX10_init_252 (by decide +kernel) ?_
  refine e_bipush (v := nI 41) CM dX10_init_254 (by decide +kernel) ?_
  refine e_callV0 (T := TX10) (N := 23) CM dX10_init_256 (k_X10_invert l D kc ad 41 (by decide) 41 (by decide) _) zy_X10_invert mw_11_21 rfl rfl (Nat.zero_le _) (show 17 < 18 by decide) rfl rfl (Nat.le_of_ble_eq_true rfl) ⟨rfl, rfl, Nat.le_of_ble_eq_true rfl, Nat.le_of_ble_eq_true rfl⟩ ⟨Nat.le_of_ble_eq_true rfl, Nat.le_of_ble_eq_true rfl⟩ ?_
  refine e_aload_n CM dX10_init_259 rfl rfl ?_
  refine e_iconst (v := nI 2) CM dX10_init_260 (by decide +kernel) ?_
  refine e_bipush (v := nI 26) CM dX10_init_261 (by decide +kernel) ?_
  refine e_bipush (v := nI 41) CM dX10_init_263 (by decide +kernel) ?_
  refine e_callV0 (T := TX10) (N := 23) CM dX10_init_265 (k_X10_multiply l D kc ad 2 (by decide) 26 (by decide) 41 (by decide) _) zy_X10_multiply mw_11_4 rfl rfl (Nat.zero_le _) (show 17 < 18 by decide) rfl rfl (Nat.le_of_ble_eq_true rfl) ⟨rfl, rfl, Nat.le_of_ble_eq_true rfl, Nat.le_of_ble_eq_true rfl⟩ ⟨Nat.le_of_ble_eq_true rfl, Nat.le_of_ble_eq_true rfl⟩ ?_
  refine e_aload_n CM dX10_init_268 rfl rfl ?_
  refine e_iconst (v := nI 3) CM dX10_init_269 (by decide +kernel) ?_
  refine e_iconst (v := nI 2) CM dX10_init_270 (by decide +kernel) ?_
  refine e_iconst (v := nI 2) CM dX10_init_271 (by decide +kernel) ?_
  refine e_callV0 (T := TX10) (N := 23) CM dX10_init_272 (k_X10_add l D kc ad 3 (by decide) 2 (by decide) 2 (by decide) _) zy_X10_add mw_12_2 rfl rfl (Nat.zero_le _) (show 17 < 18 by decide) rfl rfl (Nat.le_of_ble_eq_true rfl) ⟨rfl, rfl, Nat.le_of_ble_eq_true rfl, Nat.le_of_ble_eq_true rfl⟩ ⟨Nat.le_of_ble_eq_true rfl, Nat.le_of_ble_eq_true rfl⟩ ?_
  refine e_aload_n CM dX10_init_275 rfl rfl ?_
  refine e_iconst (v := nI 3) CM dX10_init_276 (by decide +kernel) ?_
  refine e_callV0 (T := TX10) (N := 23) CM dX10_init_277 (k_X10_reduce l D kc ad 3 (by decide) _) zy_X10_reduce mw_11_9 rfl rfl (Nat.zero_le _) (show 17 < 18 by decide) rfl rfl (Nat.le_of_ble_eq_true rfl) ⟨rfl, rfl, Nat.le_of_ble_eq_true rfl, Nat.le_of_ble_eq_true rfl⟩ ⟨Nat.le_of_ble_eq_true rfl, Nat.le_of_ble_eq_true rfl⟩ ?_
  refine e_aload_n CM dX10_init_280 rfl rfl ?_
  refine e_bipush (v := nI 26) CM dX10_init_281 (by decide +kernel) ?_
  refine e_ldc2 (v := (4)) CM dX10_init_283 mw_10_9 ?_
  refine e_callV0 (T := TX10) (N := 23) CM dX10_init_286 (k_X10_put l D kc ad 26 (by decide) 4 _) zy_X10_put mw_10_15 rfl rfl (Nat.zero_le _) (show 17 < 18 by decide) rfl rfl (Nat.le_of_ble_eq_true rfl) ⟨rfl, rfl, Nat.le_of_ble_eq_true rfl, Nat.le_of_ble_eq_true rfl⟩ ⟨Nat.le_of_ble_eq_true rfl, Nat.le_of_ble_eq_true rfl⟩ ?_
  refine e_aload_n CM dX10_init_289 rfl rfl ?_
  refine e_bipush (v := nI 41) CM dX10_init_290 (by decide +kernel) ?_
  refine e_ldc2 (v := (5)) CM dX10_init_292 mw_10_10 ?_
  refine e_callV0 (T := TX10) (N := 23) CM dX10_init_295 (k_X10_put l D kc ad 41 (by decide) 5 _) zy_X10_put mw_10_15 rfl rfl (Nat.zero_le _) (show 17 < 18 by decide) rfl rfl (Nat.le_of_ble_eq_true rfl) ⟨rfl, rfl, Nat.le_of_ble_eq_true rfl, Nat.le_of_ble_eq_true rfl⟩ ⟨Nat.le_of_ble_eq_true rfl, Nat.le_of_ble_eq_true rfl⟩ ?_
  refine e_aload_n CM dX10_init_298 rfl rfl ?_
  refine e_bipush (v := nI 41) CM dX10_init_299 (by decide +kernel) ?_
  refine e_bipush (v := nI 41) CM dX10_init_301 (by decide +kernel) ?_
  refine e_callV0 (T := TX10) (N := 23) CM dX10_init_303 (k_X10_invert l D kc ad 41 (by decide) 41 (by decide) _) zy_X10_invert mw_11_21 rfl rfl (Nat.zero_le _) (show 17 < 18 by decide) rfl rfl (Nat.le_of_ble_eq_true rfl) ⟨rfl, rfl, Nat.le_of_ble_eq_true rfl, Nat.le_of_ble_eq_true rfl⟩ ⟨Nat.le_of_ble_eq_true rfl, Nat.le_of_ble_eq_true rfl⟩ ?_
  refine e_aload_n CM dX10_init_306 rfl rfl ?_
  refine e_bipush (v := nI 42) CM dX10_init_307 (by decide +kernel) ?_
  refine e_bipush (v := nI 26) CM dX10_init_309 (by decide +kernel) ?_
  refine e_bipush (v := nI 41) CM dX10_init_311 (by decide +kernel) ?_
  refine e_callV0 (T := TX10) (N := 23) CM dX10_init_313 (k_X10_multiply l D kc ad 42 (by decide) 26 (by decide) 41 (by decide) _) zy_X10_multiply mw_11_4 rfl rfl (Nat.zero_le _) (show 17 < 18 by decide) rfl rfl (Nat.le_of_ble_eq_true rfl) ⟨rfl, rfl, Nat.le_of_ble_eq_true rfl, Nat.le_of_ble_eq_true rfl⟩ ⟨Nat.le_of_ble_eq_true rfl, Nat.le_of_ble_eq_true rfl⟩ ?_
  refine e_aload_n CM dX10_init_316 rfl rfl ?_
  refine e_bipush (v := nI 24) CM dX10_init_317 (by decide +kernel) ?_
  refine e_bipush (v := nI 42) CM dX10_init_319 (by decide +kernel) ?_
  refine e_callV0 (T := TX10) (N := 23) CM dX10_init_321 (k_X10_pack l D kc ad 24 (by decide) 42 (by decide) _) zy_X10_pack mw_12_6 rfl rfl (Nat.zero_le _) (show 17 < 18 by decide) rfl rfl (Nat.le_of_ble_eq_true rfl) ⟨rfl, rfl, Nat.le_of_ble_eq_true rfl, Nat.le_of_ble_eq_true rfl⟩ ⟨Nat.le_of_ble_eq_true rfl, Nat.le_of_ble_eq_true rfl⟩ ?_
  refine e_aload_n CM dX10_init_324 rfl rfl ?_
  refine e_iconst (v := nI 5) CM dX10_init_325 (by decide +kernel) ?_
  refine e_bipush (v := nI 24) CM dX10_init_326 (by decide +kernel) ?_
  refine e_callV1 (T := TX10) (N := 23) CM dX10_init_328 (k_X10_open l D kc ad 5 (by decide) 24 (by decide) _) zy_X10_open mw_12_16 rfl rfl (Nat.zero_le _) (show 17 < 18 by decide) rfl rfl (Nat.le_of_ble_eq_true rfl) ⟨rfl, rfl, Nat.le_of_ble_eq_true rfl, Nat.le_of_ble_eq_true rfl⟩ ⟨Nat.le_of_ble_eq_true rfl, Nat.le_of_ble_eq_true rfl⟩ ?_
  refine e_if_neB (tgt := 339) CM dX10_init_331 (by decide) (fun _ => ?_) (fun q => absurd (hopen.symm.trans q) (by decide))
  refine e_aload_n CM dX10_init_339 rfl rfl ?_
  refine e_callV0 (T := TX10) (N := 23) CM dX10_init_340 (k_X10_roots_ l D kc ad  _) zy_X10_roots_ mw_13_22 rfl rfl (Nat.zero_le _) (show 17 < 18 by decide) rfl rfl (Nat.le_of_ble_eq_true rfl) ⟨rfl, rfl, Nat.le_of_ble_eq_true rfl, Nat.le_of_ble_eq_true rfl⟩ ⟨Nat.le_of_ble_eq_true rfl, Nat.le_of_ble_eq_true rfl⟩ ?_
  exact e_vret CM hR dX10_init_343
