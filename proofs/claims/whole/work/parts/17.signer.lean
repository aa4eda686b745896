def fX6_unfold (ws : Nat) (s0 : zSt) : zSt :=
    let t1 := fX5_begin  s0
    let t2 := fX5_takeRow ws 0 t1
    let t3 := fX5_finish 180 32 t2
    let t4 := zL t3 181 (va_cpy (t3.1 180) (t3.1 181) 0 0 4)
    let t5 := zL t4 182 (va_cpy (t4.1 180) (t4.1 182) 4 0 4)
    let t6 := fX8_clamp 181 t5
    t6
set_option maxHeartbeats 4000000 in
set_option maxRecDepth 100000 in
theorem k_X6_unfold (l : Launch) (D : va_G) (kc : Nat → ClassId) (ad : Nat → Nat) (n : Nat) (hn : 202 ≤ n) (ws : Nat) (hws : ra n 4 ws) (s0 : zSt) : zM l yX6_unfold cX6_unfold 2 none rX6_unfold (wX D kc ad n) [.ref (zad (wX D kc ad n) 201), .ref (zad (wX D kc ad n) ws)] s0 (zV0 (fX6_unfold ws s0)) := by
  refine z_of (own := RX6) (by decide +kernel) rfl (Nat.le_of_ble_eq_true rfl) ?_
  intro κ C R0
  refine j_at [(0, .ref (zad (wX D kc ad n) 201)), (1, .ref (zad (wX D kc ad n) ws))] ⟨rfl, rfl, trivial⟩ ?_
  refine j_aload_n C dX6_unfold_0 rfl rfl ?_
  refine j_getR C dX6_unfold_1 (fx_RX6_53 D kc ad n) (show 11 ≤ 201 by decide) (show 201 < n by omega) ?_
  refine j_callV0 (T := TX5) (N := 4) C dX6_unfold_4 (k_X5_begin l D kc ad n (by omega)  _ ) zy_X5_begin mw_37_18 rfl rfl (show 11 ≤ 179 by decide) (show 179 < n by omega) rfl rfl (Nat.le_of_ble_eq_true rfl) ⟨rfl, rfl, Nat.le_of_ble_eq_true rfl, Nat.le_of_ble_eq_true rfl⟩ ?_
  refine j_nmS (fun t1 et1 => ?_)
  refine j_aload_n C dX6_unfold_7 rfl rfl ?_
  refine j_getR C dX6_unfold_8 (fx_RX6_53 D kc ad n) (show 11 ≤ 201 by decide) (show 201 < n by omega) ?_
  refine j_aload_n C dX6_unfold_11 rfl rfl ?_
  refine j_callV0 (T := TX5) (N := 4) C dX6_unfold_12 (k_X5_takeRow l D kc ad n (by omega) ws hws 0 _ (by (try rw [et1]); simp (maxDischargeDepth := 12) only [i2_fX8_clamp, zL_I, zW_I, fin_oth, tr_len, tt_len, bg_len, tr_4, tt_4, bg_4]) (by omega)) zy_X5_takeRow mw_37_19 rfl rfl (show 11 ≤ 179 by decide) (show 179 < n by omega) rfl rfl (Nat.le_of_ble_eq_true rfl) ⟨rfl, rfl, Nat.le_of_ble_eq_true rfl, Nat.le_of_ble_eq_true rfl⟩ ?_
  refine j_nmS (fun t2 et2 => ?_)
  refine j_aload_n C dX6_unfold_15 rfl rfl ?_
  refine j_getR C dX6_unfold_16 (fx_RX6_53 D kc ad n) (show 11 ≤ 201 by decide) (show 201 < n by omega) ?_
  refine j_aload_n C dX6_unfold_19 rfl rfl ?_
  refine j_getR C dX6_unfold_20 (fx_RX6_9 D kc ad n) (show 11 ≤ 201 by decide) (show 201 < n by omega) ?_
  refine j_callV0 (T := TX5) (N := 4) C dX6_unfold_23 (k_X5_finish l D kc ad n (by omega) 180 (⟨⟨rfl, rfl, by omega, by decide⟩, by decide⟩ : wa n 8 180) 32 _ (by (try rw [et2]); (try rw [et1]); simp (maxDischargeDepth := 12) only [i2_fX8_clamp, zL_I, zW_I, fin_oth, tr_len, tt_len, bg_len, tr_4, tt_4, bg_4]) (by omega)) zy_X5_finish mw_37_23 rfl rfl (show 11 ≤ 179 by decide) (show 179 < n by omega) rfl rfl (Nat.le_of_ble_eq_true rfl) ⟨rfl, rfl, Nat.le_of_ble_eq_true rfl, Nat.le_of_ble_eq_true rfl⟩ ?_
  refine j_nmS (fun t3 et3 => ?_)
  refine j_aload_n C dX6_unfold_26 rfl rfl ?_
  refine j_getR C dX6_unfold_27 (fx_RX6_9 D kc ad n) (show 11 ≤ 201 by decide) (show 201 < n by omega) ?_
  refine j_iconst (v := nI 0) C dX6_unfold_30 (by decide +kernel) ?_
  refine j_aload_n C dX6_unfold_31 rfl rfl ?_
  refine j_getR C dX6_unfold_32 (fx_RX6_17 D kc ad n) (show 11 ≤ 201 by decide) (show 201 < n by omega) ?_
  refine j_iconst (v := nI 0) C dX6_unfold_35 (by decide +kernel) ?_
  refine j_iconst (v := nI 4) C dX6_unfold_36 (by decide +kernel) ?_
  refine x_copyl C dX6_unfold_37 mw_37_17 (⟨⟨rfl, rfl, by omega, by decide⟩, by decide⟩ : wa n 8 180).1 (⟨⟨rfl, rfl, by omega, by decide⟩, by decide⟩ : wa n 4 181) (by omega) (by omega) ⟨Nat.le_of_ble_eq_true rfl, Nat.le_of_ble_eq_true rfl⟩ ?_
  refine j_nmS (fun t4 et4 => ?_)
  refine j_aload_n C dX6_unfold_40 rfl rfl ?_
  refine j_getR C dX6_unfold_41 (fx_RX6_9 D kc ad n) (show 11 ≤ 201 by decide) (show 201 < n by omega) ?_
  refine j_iconst (v := nI 4) C dX6_unfold_44 (by decide +kernel) ?_
  refine j_aload_n C dX6_unfold_45 rfl rfl ?_
  refine j_getR C dX6_unfold_46 (fx_RX6_20 D kc ad n) (show 11 ≤ 201 by decide) (show 201 < n by omega) ?_
  refine j_iconst (v := nI 0) C dX6_unfold_49 (by decide +kernel) ?_
  refine j_iconst (v := nI 4) C dX6_unfold_50 (by decide +kernel) ?_
  refine x_copyl C dX6_unfold_51 mw_37_17 (⟨⟨rfl, rfl, by omega, by decide⟩, by decide⟩ : wa n 8 180).1 (⟨⟨rfl, rfl, by omega, by decide⟩, by decide⟩ : wa n 4 182) (by omega) (by omega) ⟨Nat.le_of_ble_eq_true rfl, Nat.le_of_ble_eq_true rfl⟩ ?_
  refine j_nmS (fun t5 et5 => ?_)
  refine j_aload_n C dX6_unfold_54 rfl rfl ?_
  refine j_getR C dX6_unfold_55 (fx_RX6_17 D kc ad n) (show 11 ≤ 201 by decide) (show 201 < n by omega) ?_
  refine j_callS0 C dX6_unfold_58 (k_X8_clamp l D kc ad n (by omega) 181 (⟨⟨rfl, rfl, by omega, by decide⟩, by decide⟩ : wa n 4 181) _ ) zy_X8_clamp mw_38_0 rfl rfl (Nat.le_of_ble_eq_true rfl) ⟨rfl, rfl, Nat.le_of_ble_eq_true rfl, Nat.le_of_ble_eq_true rfl⟩ ?_
  refine j_nmS (fun t6 et6 => ?_)
  exact j_vret (st := []) C R0 dX6_unfold_61 ⟨rfl, (by (try rw [et6]); (try rw [et5]); (try rw [et4]); (try rw [et3]); (try rw [et2]); (try rw [et1]); unfold fX6_unfold; (try dsimp only); all_goals ((try simp only [zfst_mk, zsnd_mk]); all_goals rfl))⟩

theorem zL_zi (σ : zSt) (a : Nat) (f : Nat → Int64) (k : Nat) : zi (zL σ a f) k = zi σ k := id rfl
theorem fin_zi (out L0 : Nat) (s : zSt) (k : Nat) : zi (fX5_finish out L0 s) k = zi s k := zi_o (fin_oth out L0 s k)
theorem tr_zi (ws L0 : Nat) (s : zSt) (k : Nat) (h : k ≠ 5) : zi (fX5_takeRow ws L0 s) k = zi s k := zi_o (tr_oth ws L0 s k h)
theorem tt_zi (L0 T0 : Nat) (s : zSt) (k : Nat) (h : k ≠ 5) : zi (fX5_takeText L0 T0 s) k = zi s k := zi_o (tt_oth L0 T0 s k h)
theorem bg_zi (s : zSt) (k : Nat) (h : k ≠ 5) : zi (fX5_begin s) k = zi s k := zi_o (bg_oth s k h)
theorem un_zi (ws : Nat) (s : zSt) (k : Nat) (h : k ≠ 5) : zi (fX6_unfold ws s) k = zi s k := by
  unfold fX6_unfold
  dsimp only
  rw [i3_fX8_clamp, zL_zi, zL_zi, fin_zi, tr_zi _ _ _ k h, bg_zi _ k h]
theorem un_4 (ws : Nat) (s : zSt) : (fX6_unfold ws s).2.2 4 = s.2.2 4 := zo_i (un_zi ws s 4 (by decide))
def fX6_findChallenge (r1 : Nat) (k1 : Nat) (T0 : Nat) (s0 : zSt) : zSt :=
    let t1 := fX5_begin  s0
    let t2 := fX5_takeRow r1 0 t1
    let t3 := fX5_takeRow k1 32 t2
    let t4 := fX5_takeText 64 T0 t3
    let t5 := fX5_finish 180 (64 + T0) t4
    let t6 := fX4_reduce 180 8 512 184 t5
    t6
set_option maxHeartbeats 4000000 in
set_option maxRecDepth 100000 in
theorem k_X6_findChallenge (l : Launch) (D : va_G) (kc : Nat → ClassId) (ad : Nat → Nat) (n : Nat) (hn : 202 ≤ n) (r1 : Nat) (hr1 : ra n 4 r1) (k1 : Nat) (hk1 : ra n 4 k1) (T0 : Nat) (s0 : zSt) (htx : s0.2.2 4 = nI T0) (hT0 : T0 ≤ 400) : zM l yX6_findChallenge cX6_findChallenge 4 none rX6_findChallenge (wX D kc ad n) [.ref (zad (wX D kc ad n) 201), .ref (zad (wX D kc ad n) r1), .ref (zad (wX D kc ad n) k1), .ref (zad (wX D kc ad n) 37)] s0 (zV0 (fX6_findChallenge r1 k1 T0 s0)) := by
  refine z_of (own := RX6) (by decide +kernel) rfl (Nat.le_of_ble_eq_true rfl) ?_
  intro κ C R0
  refine j_at [(0, .ref (zad (wX D kc ad n) 201)), (1, .ref (zad (wX D kc ad n) r1)), (2, .ref (zad (wX D kc ad n) k1)), (3, .ref (zad (wX D kc ad n) 37))] ⟨rfl, rfl, rfl, rfl, trivial⟩ ?_
  refine j_aload_n C dX6_findChallenge_0 rfl rfl ?_
  refine j_getR C dX6_findChallenge_1 (fx_RX6_53 D kc ad n) (show 11 ≤ 201 by decide) (show 201 < n by omega) ?_
  refine j_callV0 (T := TX5) (N := 4) C dX6_findChallenge_4 (k_X5_begin l D kc ad n (by omega)  _ ) zy_X5_begin mw_37_18 rfl rfl (show 11 ≤ 179 by decide) (show 179 < n by omega) rfl rfl (Nat.le_of_ble_eq_true rfl) ⟨rfl, rfl, Nat.le_of_ble_eq_true rfl, Nat.le_of_ble_eq_true rfl⟩ ?_
  refine j_nmS (fun t1 et1 => ?_)
  refine j_aload_n C dX6_findChallenge_7 rfl rfl ?_
  refine j_getR C dX6_findChallenge_8 (fx_RX6_53 D kc ad n) (show 11 ≤ 201 by decide) (show 201 < n by omega) ?_
  refine j_aload_n C dX6_findChallenge_11 rfl rfl ?_
  refine j_callV0 (T := TX5) (N := 4) C dX6_findChallenge_12 (k_X5_takeRow l D kc ad n (by omega) r1 hr1 0 _ (by (try rw [et1]); simp (maxDischargeDepth := 12) only [i2_fX4_reduce, zL_I, zW_I, fin_oth, tr_len, tt_len, bg_len, tr_4, tt_4, bg_4, htx, un_4]) (by omega)) zy_X5_takeRow mw_37_19 rfl rfl (show 11 ≤ 179 by decide) (show 179 < n by omega) rfl rfl (Nat.le_of_ble_eq_true rfl) ⟨rfl, rfl, Nat.le_of_ble_eq_true rfl, Nat.le_of_ble_eq_true rfl⟩ ?_
  refine j_nmS (fun t2 et2 => ?_)
  refine j_aload_n C dX6_findChallenge_15 rfl rfl ?_
  refine j_getR C dX6_findChallenge_16 (fx_RX6_53 D kc ad n) (show 11 ≤ 201 by decide) (show 201 < n by omega) ?_
  refine j_aload_n C dX6_findChallenge_19 rfl rfl ?_
  refine j_callV0 (T := TX5) (N := 4) C dX6_findChallenge_20 (k_X5_takeRow l D kc ad n (by omega) k1 hk1 32 _ (by (try rw [et2]); (try rw [et1]); simp (maxDischargeDepth := 12) only [i2_fX4_reduce, zL_I, zW_I, fin_oth, tr_len, tt_len, bg_len, tr_4, tt_4, bg_4, htx, un_4]) (by omega)) zy_X5_takeRow mw_37_19 rfl rfl (show 11 ≤ 179 by decide) (show 179 < n by omega) rfl rfl (Nat.le_of_ble_eq_true rfl) ⟨rfl, rfl, Nat.le_of_ble_eq_true rfl, Nat.le_of_ble_eq_true rfl⟩ ?_
  refine j_nmS (fun t3 et3 => ?_)
  refine j_aload_n C dX6_findChallenge_23 rfl rfl ?_
  refine j_getR C dX6_findChallenge_24 (fx_RX6_53 D kc ad n) (show 11 ≤ 201 by decide) (show 201 < n by omega) ?_
  refine j_aload_n C dX6_findChallenge_27 rfl rfl ?_
  refine j_callV0 (T := TX5) (N := 4) C dX6_findChallenge_28 (k_X5_takeText l D kc ad n (by omega) 64 T0 _ (by (try rw [et3]); (try rw [et2]); (try rw [et1]); simp (maxDischargeDepth := 12) only [i2_fX4_reduce, zL_I, zW_I, fin_oth, tr_len, tt_len, bg_len, tr_4, tt_4, bg_4, htx, un_4]) (by (try rw [et3]); (try rw [et2]); (try rw [et1]); simp (maxDischargeDepth := 12) only [i2_fX4_reduce, zL_I, zW_I, fin_oth, tr_len, tt_len, bg_len, tr_4, tt_4, bg_4, htx, un_4]) (by omega) (by omega)) zy_X5_takeText mw_38_23 rfl rfl (show 11 ≤ 179 by decide) (show 179 < n by omega) rfl rfl (Nat.le_of_ble_eq_true rfl) ⟨rfl, rfl, Nat.le_of_ble_eq_true rfl, Nat.le_of_ble_eq_true rfl⟩ ?_
  refine j_nmS (fun t4 et4 => ?_)
  refine j_aload_n C dX6_findChallenge_31 rfl rfl ?_
  refine j_getR C dX6_findChallenge_32 (fx_RX6_53 D kc ad n) (show 11 ≤ 201 by decide) (show 201 < n by omega) ?_
  refine j_aload_n C dX6_findChallenge_35 rfl rfl ?_
  refine j_getR C dX6_findChallenge_36 (fx_RX6_9 D kc ad n) (show 11 ≤ 201 by decide) (show 201 < n by omega) ?_
  refine j_callV0 (T := TX5) (N := 4) C dX6_findChallenge_39 (k_X5_finish l D kc ad n (by omega) 180 (⟨⟨rfl, rfl, by omega, by decide⟩, by decide⟩ : wa n 8 180) (64 + T0) _ (by (try rw [et4]); (try rw [et3]); (try rw [et2]); (try rw [et1]); simp (maxDischargeDepth := 12) only [i2_fX4_reduce, zL_I, zW_I, fin_oth, tr_len, tt_len, bg_len, tr_4, tt_4, bg_4, htx, un_4]) (by omega)) zy_X5_finish mw_37_23 rfl rfl (show 11 ≤ 179 by decide) (show 179 < n by omega) rfl rfl (Nat.le_of_ble_eq_true rfl) ⟨rfl, rfl, Nat.le_of_ble_eq_true rfl, Nat.le_of_ble_eq_true rfl⟩ ?_
  refine j_nmS (fun t5 et5 => ?_)
  refine j_aload_n C dX6_findChallenge_42 rfl rfl ?_
  refine j_getR C dX6_findChallenge_43 (fx_RX6_9 D kc ad n) (show 11 ≤ 201 by decide) (show 201 < n by omega) ?_
  refine j_sipush (v := nI 512) C dX6_findChallenge_46 (by decide +kernel) ?_
  refine j_aload_n C dX6_findChallenge_49 rfl rfl ?_
  refine j_getR C dX6_findChallenge_50 (fx_RX6_26 D kc ad n) (show 11 ≤ 201 by decide) (show 201 < n by omega) ?_
  refine j_callS0 C dX6_findChallenge_53 (k_X4_reduce l D kc ad n (by omega) 180 8 (⟨⟨rfl, rfl, by omega, by decide⟩, by decide⟩ : wa n 8 180).1 512 (by omega) 184 (⟨⟨rfl, rfl, by omega, by decide⟩, by decide⟩ : wa n 4 184) _ (by omega) (by omega)) zy_X4_reduce mw_39_0 rfl rfl (Nat.le_of_ble_eq_true rfl) ⟨rfl, rfl, Nat.le_of_ble_eq_true rfl, Nat.le_of_ble_eq_true rfl⟩ ?_
  refine j_nmS (fun t6 et6 => ?_)
  exact j_vret (st := []) C R0 dX6_findChallenge_56 ⟨rfl, (by (try rw [et6]); (try rw [et5]); (try rw [et4]); (try rw [et3]); (try rw [et2]); (try rw [et1]); unfold fX6_findChallenge; (try dsimp only); all_goals ((try simp only [zfst_mk, zsnd_mk]); all_goals rfl))⟩

theorem fc_zi (r1 k1 T0 : Nat) (s : zSt) (k : Nat) (h : k ≠ 5) : zi (fX6_findChallenge r1 k1 T0 s) k = zi s k := by
  unfold fX6_findChallenge
  dsimp only
  rw [i3_fX4_reduce, fin_zi, tt_zi _ _ _ k h, tr_zi _ _ _ k h, tr_zi _ _ _ k h, bg_zi _ k h]
theorem fc_4 (r1 k1 T0 : Nat) (s : zSt) : (fX6_findChallenge r1 k1 T0 s).2.2 4 = s.2.2 4 := zo_i (fc_zi r1 k1 T0 s 4 (by decide))
def fX6_makeKey (ws : Nat) (out : Nat) (s0 : zSt) : zSt :=
    let t1 := fX6_unfold ws s0
    let t2 := fX0_multiply 181 67 196 t1
    let t3 := fX0_write 196 out t2
    t3
set_option maxHeartbeats 4000000 in
set_option maxRecDepth 100000 in
theorem k_X6_makeKey (l : Launch) (D : va_G) (kc : Nat → ClassId) (ad : Nat → Nat) (n : Nat) (hn : 202 ≤ n) (ws : Nat) (hws : ra n 4 ws) (out : Nat) (hout : wa n 4 out) (s0 : zSt) : zM l yX6_makeKey cX6_makeKey 3 none rX6_makeKey (wX D kc ad n) [.ref (zad (wX D kc ad n) 201), .ref (zad (wX D kc ad n) ws), .ref (zad (wX D kc ad n) out)] s0 (zV0 (fX6_makeKey ws out s0)) := by
  refine z_of (own := RX6) (by decide +kernel) rfl (Nat.le_of_ble_eq_true rfl) ?_
  intro κ C R0
  refine j_at [(0, .ref (zad (wX D kc ad n) 201)), (1, .ref (zad (wX D kc ad n) ws)), (2, .ref (zad (wX D kc ad n) out))] ⟨rfl, rfl, rfl, trivial⟩ ?_
  refine j_aload_n C dX6_makeKey_0 rfl rfl ?_
  refine j_aload_n C dX6_makeKey_1 rfl rfl ?_
  refine j_callV0 (T := TX6) (N := 12) C dX6_makeKey_2 (k_X6_unfold l D kc ad n (by omega) ws hws _ ) zy_X6_unfold mw_37_13 rfl rfl (show 11 ≤ 201 by decide) (show 201 < n by omega) rfl rfl (Nat.le_of_ble_eq_true rfl) ⟨rfl, rfl, Nat.le_of_ble_eq_true rfl, Nat.le_of_ble_eq_true rfl⟩ ?_
  refine j_nmS (fun t1 et1 => ?_)
  refine j_aload_n C dX6_makeKey_5 rfl rfl ?_
  refine j_getR C dX6_makeKey_6 (fx_RX6_45 D kc ad n) (show 11 ≤ 201 by decide) (show 201 < n by omega) ?_
  refine j_aload_n C dX6_makeKey_9 rfl rfl ?_
  refine j_getR C dX6_makeKey_10 (fx_RX6_17 D kc ad n) (show 11 ≤ 201 by decide) (show 201 < n by omega) ?_
  refine j_aload_n C dX6_makeKey_13 rfl rfl ?_
  refine j_getR C dX6_makeKey_14 (fx_RX6_45 D kc ad n) (show 11 ≤ 201 by decide) (show 201 < n by omega) ?_
  refine j_getR C dX6_makeKey_17 (fx_RX6_61 D kc ad n) (show 11 ≤ 83 by decide) (show 83 < n by omega) ?_
  refine j_aload_n C dX6_makeKey_20 rfl rfl ?_
  refine j_getR C dX6_makeKey_21 (fx_RX6_42 D kc ad n) (show 11 ≤ 201 by decide) (show 201 < n by omega) ?_
  refine j_callV0 (T := TX0) (N := 14) C dX6_makeKey_24 (k_X0_multiply l D kc ad n (by omega) 181 (⟨⟨rfl, rfl, by omega, by decide⟩, by decide⟩ : wa n 4 181).1 67 (by decide) (by omega) 196 (by decide) (by omega) _ ) zy_X0_multiply mw_38_1 rfl rfl (show 11 ≤ 83 by decide) (show 83 < n by omega) rfl rfl (Nat.le_of_ble_eq_true rfl) ⟨rfl, rfl, Nat.le_of_ble_eq_true rfl, Nat.le_of_ble_eq_true rfl⟩ ?_
  refine j_nmS (fun t2 et2 => ?_)
  refine j_aload_n C dX6_makeKey_27 rfl rfl ?_
  refine j_getR C dX6_makeKey_28 (fx_RX6_45 D kc ad n) (show 11 ≤ 201 by decide) (show 201 < n by omega) ?_
  refine j_aload_n C dX6_makeKey_31 rfl rfl ?_
  refine j_getR C dX6_makeKey_32 (fx_RX6_42 D kc ad n) (show 11 ≤ 201 by decide) (show 201 < n by omega) ?_
  refine j_aload_n C dX6_makeKey_35 rfl rfl ?_
  refine j_callV0 (T := TX0) (N := 14) C dX6_makeKey_36 (k_X0_write l D kc ad n (by omega) 196 (by decide) (by omega) out hout _ ) zy_X0_write mw_38_2 rfl rfl (show 11 ≤ 83 by decide) (show 83 < n by omega) rfl rfl (Nat.le_of_ble_eq_true rfl) ⟨rfl, rfl, Nat.le_of_ble_eq_true rfl, Nat.le_of_ble_eq_true rfl⟩ ?_
  refine j_nmS (fun t3 et3 => ?_)
  exact j_vret (st := []) C R0 dX6_makeKey_39 ⟨rfl, (by (try rw [et3]); (try rw [et2]); (try rw [et1]); unfold fX6_makeKey; (try dsimp only); all_goals ((try simp only [zfst_mk, zsnd_mk]); all_goals rfl))⟩

def fX6_makeSignature (ws : Nat) (oR : Nat) (oS : Nat) (T0 : Nat) (s0 : zSt) : zSt :=
    let t1 := fX6_unfold ws s0
    let t2 := fX0_multiply 181 67 196 t1
    let t3 := fX0_write 196 185 t2
    let t4 := fX5_begin  t3
    let t5 := fX5_takeRow 182 0 t4
    let t6 := fX5_takeText 32 T0 t5
    let t7 := fX5_finish 180 (32 + T0) t6
    let t8 := fX4_reduce 180 8 512 183 t7
    let t9 := fX0_multiply 183 67 196 t8
    let t10 := fX0_write 196 oR t9
    let t11 := fX6_findChallenge oR 185 T0 t10
    let t12 := fX4_multiplyAndAdd 184 181 183 oS t11
    t12
set_option maxHeartbeats 4000000 in
set_option maxRecDepth 100000 in
theorem k_X6_makeSignature (l : Launch) (D : va_G) (kc : Nat → ClassId) (ad : Nat → Nat) (n : Nat) (hn : 202 ≤ n) (ws : Nat) (hws : ra n 4 ws) (oR : Nat) (hoR : wa n 4 oR) (oS : Nat) (hoS : wa n 4 oS) (T0 : Nat) (s0 : zSt) (htx : s0.2.2 4 = nI T0) (hT0 : T0 ≤ 400) : zM l yX6_makeSignature cX6_makeSignature 5 none rX6_makeSignature (wX D kc ad n) [.ref (zad (wX D kc ad n) 201), .ref (zad (wX D kc ad n) ws), .ref (zad (wX D kc ad n) 37), .ref (zad (wX D kc ad n) oR), .ref (zad (wX D kc ad n) oS)] s0 (zV0 (fX6_makeSignature ws oR oS T0 s0)) := by
  refine z_of (own := RX6) (by decide +kernel) rfl (Nat.le_of_ble_eq_true rfl) ?_
  intro κ C R0
  refine j_at [(0, .ref (zad (wX D kc ad n) 201)), (1, .ref (zad (wX D kc ad n) ws)), (2, .ref (zad (wX D kc ad n) 37)), (3, .ref (zad (wX D kc ad n) oR)), (4, .ref (zad (wX D kc ad n) oS))] ⟨rfl, rfl, rfl, rfl, rfl, trivial⟩ ?_
  refine j_aload_n C dX6_makeSignature_0 rfl rfl ?_
  refine j_aload_n C dX6_makeSignature_1 rfl rfl ?_
  refine j_callV0 (T := TX6) (N := 12) C dX6_makeSignature_2 (k_X6_unfold l D kc ad n (by omega) ws hws _ ) zy_X6_unfold mw_37_13 rfl rfl (show 11 ≤ 201 by decide) (show 201 < n by omega) rfl rfl (Nat.le_of_ble_eq_true rfl) ⟨rfl, rfl, Nat.le_of_ble_eq_true rfl, Nat.le_of_ble_eq_true rfl⟩ ?_
  refine j_nmS (fun t1 et1 => ?_)
  refine j_aload_n C dX6_makeSignature_5 rfl rfl ?_
  refine j_getR C dX6_makeSignature_6 (fx_RX6_45 D kc ad n) (show 11 ≤ 201 by decide) (show 201 < n by omega) ?_
  refine j_aload_n C dX6_makeSignature_9 rfl rfl ?_
  refine j_getR C dX6_makeSignature_10 (fx_RX6_17 D kc ad n) (show 11 ≤ 201 by decide) (show 201 < n by omega) ?_
  refine j_aload_n C dX6_makeSignature_13 rfl rfl ?_
  refine j_getR C dX6_makeSignature_14 (fx_RX6_45 D kc ad n) (show 11 ≤ 201 by decide) (show 201 < n by omega) ?_
  refine j_getR C dX6_makeSignature_17 (fx_RX6_61 D kc ad n) (show 11 ≤ 83 by decide) (show 83 < n by omega) ?_
  refine j_aload_n C dX6_makeSignature_20 rfl rfl ?_
  refine j_getR C dX6_makeSignature_21 (fx_RX6_42 D kc ad n) (show 11 ≤ 201 by decide) (show 201 < n by omega) ?_
  refine j_callV0 (T := TX0) (N := 14) C dX6_makeSignature_24 (k_X0_multiply l D kc ad n (by omega) 181 (⟨⟨rfl, rfl, by omega, by decide⟩, by decide⟩ : wa n 4 181).1 67 (by decide) (by omega) 196 (by decide) (by omega) _ ) zy_X0_multiply mw_38_1 rfl rfl (show 11 ≤ 83 by decide) (show 83 < n by omega) rfl rfl (Nat.le_of_ble_eq_true rfl) ⟨rfl, rfl, Nat.le_of_ble_eq_true rfl, Nat.le_of_ble_eq_true rfl⟩ ?_
  refine j_nmS (fun t2 et2 => ?_)
  refine j_aload_n C dX6_makeSignature_27 rfl rfl ?_
  refine j_getR C dX6_makeSignature_28 (fx_RX6_45 D kc ad n) (show 11 ≤ 201 by decide) (show 201 < n by omega) ?_
  refine j_aload_n C dX6_makeSignature_31 rfl rfl ?_
  refine j_getR C dX6_makeSignature_32 (fx_RX6_42 D kc ad n) (show 11 ≤ 201 by decide) (show 201 < n by omega) ?_
  refine j_aload_n C dX6_makeSignature_35 rfl rfl ?_
  refine j_getR C dX6_makeSignature_36 (fx_RX6_29 D kc ad n) (show 11 ≤ 201 by decide) (show 201 < n by omega) ?_
  refine j_callV0 (T := TX0) (N := 14) C dX6_makeSignature_39 (k_X0_write l D kc ad n (by omega) 196 (by decide) (by omega) 185 (⟨⟨rfl, rfl, by omega, by decide⟩, by decide⟩ : wa n 4 185) _ ) zy_X0_write mw_38_2 rfl rfl (show 11 ≤ 83 by decide) (show 83 < n by omega) rfl rfl (Nat.le_of_ble_eq_true rfl) ⟨rfl, rfl, Nat.le_of_ble_eq_true rfl, Nat.le_of_ble_eq_true rfl⟩ ?_
  refine j_nmS (fun t3 et3 => ?_)
  refine j_aload_n C dX6_makeSignature_42 rfl rfl ?_
  refine j_getR C dX6_makeSignature_43 (fx_RX6_53 D kc ad n) (show 11 ≤ 201 by decide) (show 201 < n by omega) ?_
  refine j_callV0 (T := TX5) (N := 4) C dX6_makeSignature_46 (k_X5_begin l D kc ad n (by omega)  _ ) zy_X5_begin mw_37_18 rfl rfl (show 11 ≤ 179 by decide) (show 179 < n by omega) rfl rfl (Nat.le_of_ble_eq_true rfl) ⟨rfl, rfl, Nat.le_of_ble_eq_true rfl, Nat.le_of_ble_eq_true rfl⟩ ?_
  refine j_nmS (fun t4 et4 => ?_)
  refine j_aload_n C dX6_makeSignature_49 rfl rfl ?_
  refine j_getR C dX6_makeSignature_50 (fx_RX6_53 D kc ad n) (show 11 ≤ 201 by decide) (show 201 < n by omega) ?_
  refine j_aload_n C dX6_makeSignature_53 rfl rfl ?_
  refine j_getR C dX6_makeSignature_54 (fx_RX6_20 D kc ad n) (show 11 ≤ 201 by decide) (show 201 < n by omega) ?_
  refine j_callV0 (T := TX5) (N := 4) C dX6_makeSignature_57 (k_X5_takeRow l D kc ad n (by omega) 182 (⟨⟨rfl, rfl, by omega, by decide⟩, by decide⟩ : wa n 4 182).1 0 _ (by (try rw [et4]); (try rw [et3]); (try rw [et2]); (try rw [et1]); simp (maxDischargeDepth := 12) only [i2_fX4_reduce, i2_fX4_multiplyAndAdd, i2_fX0_write, i2_fX0_multiply, zL_I, zW_I, fin_oth, tr_len, tt_len, bg_len, tr_4, tt_4, bg_4, htx, un_4, fc_4]) (by omega)) zy_X5_takeRow mw_37_19 rfl rfl (show 11 ≤ 179 by decide) (show 179 < n by omega) rfl rfl (Nat.le_of_ble_eq_true rfl) ⟨rfl, rfl, Nat.le_of_ble_eq_true rfl, Nat.le_of_ble_eq_true rfl⟩ ?_
  refine j_nmS (fun t5 et5 => ?_)
  refine j_aload_n C dX6_makeSignature_60 rfl rfl ?_
  refine j_getR C dX6_makeSignature_61 (fx_RX6_53 D kc ad n) (show 11 ≤ 201 by decide) (show 201 < n by omega) ?_
  refine j_aload_n C dX6_makeSignature_64 rfl rfl ?_
  refine j_callV0 (T := TX5) (N := 4) C dX6_makeSignature_65 (k_X5_takeText l D kc ad n (by omega) 32 T0 _ (by (try rw [et5]); (try rw [et4]); (try rw [et3]); (try rw [et2]); (try rw [et1]); simp (maxDischargeDepth := 12) only [i2_fX4_reduce, i2_fX4_multiplyAndAdd, i2_fX0_write, i2_fX0_multiply, zL_I, zW_I, fin_oth, tr_len, tt_len, bg_len, tr_4, tt_4, bg_4, htx, un_4, fc_4]) (by (try rw [et5]); (try rw [et4]); (try rw [et3]); (try rw [et2]); (try rw [et1]); simp (maxDischargeDepth := 12) only [i2_fX4_reduce, i2_fX4_multiplyAndAdd, i2_fX0_write, i2_fX0_multiply, zL_I, zW_I, fin_oth, tr_len, tt_len, bg_len, tr_4, tt_4, bg_4, htx, un_4, fc_4]) (by omega) (by omega)) zy_X5_takeText mw_38_23 rfl rfl (show 11 ≤ 179 by decide) (show 179 < n by omega) rfl rfl (Nat.le_of_ble_eq_true rfl) ⟨rfl, rfl, Nat.le_of_ble_eq_true rfl, Nat.le_of_ble_eq_true rfl⟩ ?_
  refine j_nmS (fun t6 et6 => ?_)
  refine j_aload_n C dX6_makeSignature_68 rfl rfl ?_
  refine j_getR C dX6_makeSignature_69 (fx_RX6_53 D kc ad n) (show 11 ≤ 201 by decide) (show 201 < n by omega) ?_
  refine j_aload_n C dX6_makeSignature_72 rfl rfl ?_
  refine j_getR C dX6_makeSignature_73 (fx_RX6_9 D kc ad n) (show 11 ≤ 201 by decide) (show 201 < n by omega) ?_
  refine j_callV0 (T := TX5) (N := 4) C dX6_makeSignature_76 (k_X5_finish l D kc ad n (by omega) 180 (⟨⟨rfl, rfl, by omega, by decide⟩, by decide⟩ : wa n 8 180) (32 + T0) _ (by (try rw [et6]); (try rw [et5]); (try rw [et4]); (try rw [et3]); (try rw [et2]); (try rw [et1]); simp (maxDischargeDepth := 12) only [i2_fX4_reduce, i2_fX4_multiplyAndAdd, i2_fX0_write, i2_fX0_multiply, zL_I, zW_I, fin_oth, tr_len, tt_len, bg_len, tr_4, tt_4, bg_4, htx, un_4, fc_4]) (by omega)) zy_X5_finish mw_37_23 rfl rfl (show 11 ≤ 179 by decide) (show 179 < n by omega) rfl rfl (Nat.le_of_ble_eq_true rfl) ⟨rfl, rfl, Nat.le_of_ble_eq_true rfl, Nat.le_of_ble_eq_true rfl⟩ ?_
  refine j_nmS (fun t7 et7 => ?_)
  refine j_aload_n C dX6_makeSignature_79 rfl rfl ?_
  refine j_getR C dX6_makeSignature_80 (fx_RX6_9 D kc ad n) (show 11 ≤ 201 by decide) (show 201 < n by omega) ?_
  refine j_sipush (v := nI 512) C dX6_makeSignature_83 (by decide +kernel) ?_
  refine j_aload_n C dX6_makeSignature_86 rfl rfl ?_
  refine j_getR C dX6_makeSignature_87 (fx_RX6_23 D kc ad n) (show 11 ≤ 201 by decide) (show 201 < n by omega) ?_
  refine j_callS0 C dX6_makeSignature_90 (k_X4_reduce l D kc ad n (by omega) 180 8 (⟨⟨rfl, rfl, by omega, by decide⟩, by decide⟩ : wa n 8 180).1 512 (by omega) 183 (⟨⟨rfl, rfl, by omega, by decide⟩, by decide⟩ : wa n 4 183) _ (by omega) (by omega)) zy_X4_reduce mw_39_0 rfl rfl (Nat.le_of_ble_eq_true rfl) ⟨rfl, rfl, Nat.le_of_ble_eq_true rfl, Nat.le_of_ble_eq_true rfl⟩ ?_
  refine j_nmS (fun t8 et8 => ?_)
  refine j_aload_n C dX6_makeSignature_93 rfl rfl ?_
  refine j_getR C dX6_makeSignature_94 (fx_RX6_45 D kc ad n) (show 11 ≤ 201 by decide) (show 201 < n by omega) ?_
  refine j_aload_n C dX6_makeSignature_97 rfl rfl ?_
  refine j_getR C dX6_makeSignature_98 (fx_RX6_23 D kc ad n) (show 11 ≤ 201 by decide) (show 201 < n by omega) ?_
  refine j_aload_n C dX6_makeSignature_101 rfl rfl ?_
  refine j_getR C dX6_makeSignature_102 (fx_RX6_45 D kc ad n) (show 11 ≤ 201 by decide) (show 201 < n by omega) ?_
  refine j_getR C dX6_makeSignature_105 (fx_RX6_61 D kc ad n) (show 11 ≤ 83 by decide) (show 83 < n by omega) ?_
  refine j_aload_n C dX6_makeSignature_108 rfl rfl ?_
  refine j_getR C dX6_makeSignature_109 (fx_RX6_42 D kc ad n) (show 11 ≤ 201 by decide) (show 201 < n by omega) ?_
  refine j_callV0 (T := TX0) (N := 14) C dX6_makeSignature_112 (k_X0_multiply l D kc ad n (by omega) 183 (⟨⟨rfl, rfl, by omega, by decide⟩, by decide⟩ : wa n 4 183).1 67 (by decide) (by omega) 196 (by decide) (by omega) _ ) zy_X0_multiply mw_38_1 rfl rfl (show 11 ≤ 83 by decide) (show 83 < n by omega) rfl rfl (Nat.le_of_ble_eq_true rfl) ⟨rfl, rfl, Nat.le_of_ble_eq_true rfl, Nat.le_of_ble_eq_true rfl⟩ ?_
  refine j_nmS (fun t9 et9 => ?_)
  refine j_aload_n C dX6_makeSignature_115 rfl rfl ?_
  refine j_getR C dX6_makeSignature_116 (fx_RX6_45 D kc ad n) (show 11 ≤ 201 by decide) (show 201 < n by omega) ?_
  refine j_aload_n C dX6_makeSignature_119 rfl rfl ?_
  refine j_getR C dX6_makeSignature_120 (fx_RX6_42 D kc ad n) (show 11 ≤ 201 by decide) (show 201 < n by omega) ?_
  refine j_aload_n C dX6_makeSignature_123 rfl rfl ?_
  refine j_callV0 (T := TX0) (N := 14) C dX6_makeSignature_124 (k_X0_write l D kc ad n (by omega) 196 (by decide) (by omega) oR hoR _ ) zy_X0_write mw_38_2 rfl rfl (show 11 ≤ 83 by decide) (show 83 < n by omega) rfl rfl (Nat.le_of_ble_eq_true rfl) ⟨rfl, rfl, Nat.le_of_ble_eq_true rfl, Nat.le_of_ble_eq_true rfl⟩ ?_
  refine j_nmS (fun t10 et10 => ?_)
  refine j_aload_n C dX6_makeSignature_127 rfl rfl ?_
  refine j_aload_n C dX6_makeSignature_128 rfl rfl ?_
  refine j_aload_n C dX6_makeSignature_129 rfl rfl ?_
  refine j_getR C dX6_makeSignature_130 (fx_RX6_29 D kc ad n) (show 11 ≤ 201 by decide) (show 201 < n by omega) ?_
  refine j_aload_n C dX6_makeSignature_133 rfl rfl ?_
  refine j_callV0 (T := TX6) (N := 12) C dX6_makeSignature_134 (k_X6_findChallenge l D kc ad n (by omega) oR hoR.1 185 (⟨⟨rfl, rfl, by omega, by decide⟩, by decide⟩ : wa n 4 185).1 T0 _ (by (try rw [et10]); (try rw [et9]); (try rw [et8]); (try rw [et7]); (try rw [et6]); (try rw [et5]); (try rw [et4]); (try rw [et3]); (try rw [et2]); (try rw [et1]); simp (maxDischargeDepth := 12) only [i2_fX4_reduce, i2_fX4_multiplyAndAdd, i2_fX0_write, i2_fX0_multiply, zL_I, zW_I, fin_oth, tr_len, tt_len, bg_len, tr_4, tt_4, bg_4, htx, un_4, fc_4]) hT0) zy_X6_findChallenge mw_39_1 rfl rfl (show 11 ≤ 201 by decide) (show 201 < n by omega) rfl rfl (Nat.le_of_ble_eq_true rfl) ⟨rfl, rfl, Nat.le_of_ble_eq_true rfl, Nat.le_of_ble_eq_true rfl⟩ ?_
  refine j_nmS (fun t11 et11 => ?_)
  refine j_aload_n C dX6_makeSignature_137 rfl rfl ?_
  refine j_getR C dX6_makeSignature_138 (fx_RX6_49 D kc ad n) (show 11 ≤ 201 by decide) (show 201 < n by omega) ?_
  refine j_aload_n C dX6_makeSignature_141 rfl rfl ?_
  refine j_getR C dX6_makeSignature_142 (fx_RX6_26 D kc ad n) (show 11 ≤ 201 by decide) (show 201 < n by omega) ?_
  refine j_aload_n C dX6_makeSignature_145 rfl rfl ?_
  refine j_getR C dX6_makeSignature_146 (fx_RX6_17 D kc ad n) (show 11 ≤ 201 by decide) (show 201 < n by omega) ?_
  refine j_aload_n C dX6_makeSignature_149 rfl rfl ?_
  refine j_getR C dX6_makeSignature_150 (fx_RX6_23 D kc ad n) (show 11 ≤ 201 by decide) (show 201 < n by omega) ?_
  refine j_aload C dX6_makeSignature_153 rfl ?_
  refine j_callV0 (T := TX4) (N := 3) C dX6_makeSignature_155 (k_X4_multiplyAndAdd l D kc ad n (by omega) 184 (⟨⟨rfl, rfl, by omega, by decide⟩, by decide⟩ : wa n 4 184).1 181 (⟨⟨rfl, rfl, by omega, by decide⟩, by decide⟩ : wa n 4 181).1 183 (⟨⟨rfl, rfl, by omega, by decide⟩, by decide⟩ : wa n 4 183).1 oS hoS _ ) zy_X4_multiplyAndAdd mw_39_5 rfl rfl (show 11 ≤ 66 by decide) (show 66 < n by omega) rfl rfl (Nat.le_of_ble_eq_true rfl) ⟨rfl, rfl, Nat.le_of_ble_eq_true rfl, Nat.le_of_ble_eq_true rfl⟩ ?_
  refine j_nmS (fun t12 et12 => ?_)
  exact j_vret (st := []) C R0 dX6_makeSignature_158 ⟨rfl, (by (try rw [et12]); (try rw [et11]); (try rw [et10]); (try rw [et9]); (try rw [et8]); (try rw [et7]); (try rw [et6]); (try rw [et5]); (try rw [et4]); (try rw [et3]); (try rw [et2]); (try rw [et1]); unfold fX6_makeSignature; (try dsimp only); all_goals ((try simp only [zfst_mk, zsnd_mk]); all_goals rfl))⟩

def fX6_isRight_a1 (t3 : zSt) : Bool × zSt :=
    (false, t3)
def fX6_isRight_139  (i16 : Nat) (z17 : zSt) : zSt :=
    let t19 := fX0_twice 196 196 z17
    t19
def fX6_isRight_a2 (k1 : Nat) (r1 : Nat) (s1 : Nat) (T0 : Nat) (t7 : zSt) : Bool × zSt :=
    let t10 := fX6_findChallenge r1 k1 T0 t7
    let t11 := fX0_multiply 184 186 186 t10
    let t12 := fX0_add 186 191 186 t11
    let t13 := fX0_negate 186 t12
    let t14 := fX0_multiply s1 67 196 t13
    let t15 := fX0_add 196 186 196 t14
    let u22 := ziter fX6_isRight_139 0 3 t15
    let t24 := zsnd (fX0_isNeutral 196 u22)
    (zfst (fX0_isNeutral 196 u22), t24)
def fX6_isRight_a3 (t7 : zSt) : Bool × zSt :=
    (false, t7)
def fX6_isRight_a4 (k1 : Nat) (r1 : Nat) (s1 : Nat) (T0 : Nat) (t3 : zSt) : Bool × zSt :=
    let t7 := zsnd (fX0_read r1 191 t3)
    bif (zfst (fX0_read r1 191 t3)) then
      fX6_isRight_a2 k1 r1 s1 T0 t7
    else
      fX6_isRight_a3 t7
def fX6_isRight_a5 (k1 : Nat) (r1 : Nat) (s1 : Nat) (T0 : Nat) (s0 : zSt) : Bool × zSt :=
    let t3 := zsnd (fX0_read k1 186 s0)
    bif (zfst (fX0_read k1 186 s0)) then
      fX6_isRight_a4 k1 r1 s1 T0 t3
    else
      fX6_isRight_a1 t3
def fX6_isRight_a6 (s0 : zSt) : Bool × zSt :=
    (false, s0)
def fX6_isRight (k1 : Nat) (r1 : Nat) (s1 : Nat) (T0 : Nat) (s0 : zSt) : Bool × zSt :=
    bif (vX4_isBelowOrder s1 s0) then
      fX6_isRight_a5 k1 r1 s1 T0 s0
    else
      fX6_isRight_a6 s0
set_option maxHeartbeats 4000000 in
set_option maxRecDepth 100000 in
theorem k_X6_isRight (l : Launch) (D : va_G) (kc : Nat → ClassId) (ad : Nat → Nat) (n : Nat) (hn : 202 ≤ n) (k1 : Nat) (hk1 : ra n 4 k1) (r1 : Nat) (hr1 : ra n 4 r1) (s1 : Nat) (hs1 : ra n 4 s1) (T0 : Nat) (s0 : zSt) (htx : s0.2.2 4 = nI T0) (hT0 : T0 ≤ 400) : zM l yX6_isRight cX6_isRight 6 (some .boolean) rX6_isRight (wX D kc ad n) [.ref (zad (wX D kc ad n) 201), .ref (zad (wX D kc ad n) k1), .ref (zad (wX D kc ad n) r1), .ref (zad (wX D kc ad n) s1), .ref (zad (wX D kc ad n) 37)] s0 (zV1 (.int (bI (zfst (fX6_isRight k1 r1 s1 T0 s0)))) (zsnd (fX6_isRight k1 r1 s1 T0 s0))) := by
  refine z_of (own := RX6) (by decide +kernel) rfl (Nat.le_of_ble_eq_true rfl) ?_
  intro κ C R0
  refine j_at [(0, .ref (zad (wX D kc ad n) 201)), (1, .ref (zad (wX D kc ad n) k1)), (2, .ref (zad (wX D kc ad n) r1)), (3, .ref (zad (wX D kc ad n) s1)), (4, .ref (zad (wX D kc ad n) 37))] ⟨rfl, rfl, rfl, rfl, rfl, trivial⟩ ?_
  refine j_aload_n C dX6_isRight_0 rfl rfl ?_
  refine j_callS1 C dX6_isRight_1 (k_X4_isBelowOrder l D kc ad n (by omega) s1 hs1 _ ) zy_X4_isBelowOrder mw_39_23 rfl rfl (Nat.le_of_ble_eq_true rfl) ⟨rfl, rfl, Nat.le_of_ble_eq_true rfl, Nat.le_of_ble_eq_true rfl⟩ ?_
  refine j_if_neB (tgt := 9) C dX6_isRight_4 (by decide) (fun q1 => ?_) (fun q1 => ?_)
  · have hA2 : fX6_isRight k1 r1 s1 T0 s0 = fX6_isRight_a5 k1 r1 s1 T0 s0 := by have q1z := q1; (try dsimp only at q1z); unfold fX6_isRight; (try dsimp only); rw [q1z, cond_true]; (try rfl)
    refine j_aload_n C dX6_isRight_9 rfl rfl ?_
    refine j_getR C dX6_isRight_10 (fx_RX6_45 D kc ad n) (show 11 ≤ 201 by decide) (show 201 < n by omega) ?_
    refine j_aload_n C dX6_isRight_13 rfl rfl ?_
    refine j_aload_n C dX6_isRight_14 rfl rfl ?_
    refine j_getR C dX6_isRight_15 (fx_RX6_35 D kc ad n) (show 11 ≤ 201 by decide) (show 201 < n by omega) ?_
    refine j_callV1 (T := TX0) (N := 14) C dX6_isRight_18 (k_X0_read l D kc ad n (by omega) k1 hk1 186 (by decide) (by omega) _ ) zy_X0_read mw_40_0 rfl rfl (show 11 ≤ 83 by decide) (show 83 < n by omega) rfl rfl (Nat.le_of_ble_eq_true rfl) ⟨rfl, rfl, Nat.le_of_ble_eq_true rfl, Nat.le_of_ble_eq_true rfl⟩ ?_
    refine j_nmS (fun t3 et3 => ?_)
    refine j_if_eqB (tgt := 39) C dX6_isRight_21 (by decide) (fun q4 => ?_) (fun q4 => ?_)
    · have hA5 : fX6_isRight_a5 k1 r1 s1 T0 s0 = fX6_isRight_a1 t3 := by (try rw [et3]); have q4z := q4; (try rw [et3] at q4z); (try dsimp only at q4z); unfold fX6_isRight_a5; (try dsimp only); rw [q4z, cond_false]; (try rfl)
      refine j_iconst (v := nI 0) C dX6_isRight_39 (by decide +kernel) ?_
      refine j_top (v := .int (bI false)) (by decide +kernel) ?_
      exact j_zret (st := []) C R0 dX6_isRight_40 ⟨(by rw [hA2, hA5]; unfold fX6_isRight_a1; (try dsimp only); all_goals ((try simp only [zfst_mk, zsnd_mk]); all_goals rfl)), ((by rw [hA2, hA5]; unfold fX6_isRight_a1; (try dsimp only); all_goals ((try simp only [zfst_mk, zsnd_mk]); all_goals rfl)))⟩
    · have hA6 : fX6_isRight_a5 k1 r1 s1 T0 s0 = fX6_isRight_a4 k1 r1 s1 T0 t3 := by (try rw [et3]); have q4z := q4; (try rw [et3] at q4z); (try dsimp only at q4z); unfold fX6_isRight_a5; (try dsimp only); rw [q4z, cond_true]; (try rfl)
      refine j_aload_n C dX6_isRight_24 rfl rfl ?_
      refine j_getR C dX6_isRight_25 (fx_RX6_45 D kc ad n) (show 11 ≤ 201 by decide) (show 201 < n by omega) ?_
      refine j_aload_n C dX6_isRight_28 rfl rfl ?_
      refine j_aload_n C dX6_isRight_29 rfl rfl ?_
      refine j_getR C dX6_isRight_30 (fx_RX6_39 D kc ad n) (show 11 ≤ 201 by decide) (show 201 < n by omega) ?_
      refine j_callV1 (T := TX0) (N := 14) C dX6_isRight_33 (k_X0_read l D kc ad n (by omega) r1 hr1 191 (by decide) (by omega) _ ) zy_X0_read mw_40_0 rfl rfl (show 11 ≤ 83 by decide) (show 83 < n by omega) rfl rfl (Nat.le_of_ble_eq_true rfl) ⟨rfl, rfl, Nat.le_of_ble_eq_true rfl, Nat.le_of_ble_eq_true rfl⟩ ?_
      refine j_nmS (fun t7 et7 => ?_)
      refine j_if_neB (tgt := 41) C dX6_isRight_36 (by decide) (fun q8 => ?_) (fun q8 => ?_)
      · have hA9 : fX6_isRight_a4 k1 r1 s1 T0 t3 = fX6_isRight_a2 k1 r1 s1 T0 t7 := by (try rw [et7]); have q8z := q8; (try rw [et7] at q8z); (try dsimp only at q8z); unfold fX6_isRight_a4; (try dsimp only); rw [q8z, cond_true]; (try rfl)
        refine j_aload_n C dX6_isRight_41 rfl rfl ?_
        refine j_aload_n C dX6_isRight_42 rfl rfl ?_
        refine j_aload_n C dX6_isRight_43 rfl rfl ?_
        refine j_aload C dX6_isRight_44 rfl ?_
        refine j_callV0 (T := TX6) (N := 12) C dX6_isRight_46 (k_X6_findChallenge l D kc ad n (by omega) r1 hr1 k1 hk1 T0 _ (by (try rw [et7]); (try rw [et3]); simp (maxDischargeDepth := 12) only [i2_fX0_read, i2_fX0_negate, i2_fX0_add, i2_fX0_twice, i2_fX0_multiply, i2_fX0_isNeutral, zL_I, zW_I, fin_oth, tr_len, tt_len, bg_len, tr_4, tt_4, bg_4, htx, un_4, fc_4]) hT0) zy_X6_findChallenge mw_39_1 rfl rfl (show 11 ≤ 201 by decide) (show 201 < n by omega) rfl rfl (Nat.le_of_ble_eq_true rfl) ⟨rfl, rfl, Nat.le_of_ble_eq_true rfl, Nat.le_of_ble_eq_true rfl⟩ ?_
        refine j_nmS (fun t10 et10 => ?_)
        refine j_aload_n C dX6_isRight_49 rfl rfl ?_
        refine j_getR C dX6_isRight_50 (fx_RX6_45 D kc ad n) (show 11 ≤ 201 by decide) (show 201 < n by omega) ?_
        refine j_aload_n C dX6_isRight_53 rfl rfl ?_
        refine j_getR C dX6_isRight_54 (fx_RX6_26 D kc ad n) (show 11 ≤ 201 by decide) (show 201 < n by omega) ?_
        refine j_aload_n C dX6_isRight_57 rfl rfl ?_
        refine j_getR C dX6_isRight_58 (fx_RX6_35 D kc ad n) (show 11 ≤ 201 by decide) (show 201 < n by omega) ?_
        refine j_aload_n C dX6_isRight_61 rfl rfl ?_
        refine j_getR C dX6_isRight_62 (fx_RX6_35 D kc ad n) (show 11 ≤ 201 by decide) (show 201 < n by omega) ?_
        refine j_callV0 (T := TX0) (N := 14) C dX6_isRight_65 (k_X0_multiply l D kc ad n (by omega) 184 (⟨⟨rfl, rfl, by omega, by decide⟩, by decide⟩ : wa n 4 184).1 186 (by decide) (by omega) 186 (by decide) (by omega) _ ) zy_X0_multiply mw_38_1 rfl rfl (show 11 ≤ 83 by decide) (show 83 < n by omega) rfl rfl (Nat.le_of_ble_eq_true rfl) ⟨rfl, rfl, Nat.le_of_ble_eq_true rfl, Nat.le_of_ble_eq_true rfl⟩ ?_
        refine j_nmS (fun t11 et11 => ?_)
        refine j_aload_n C dX6_isRight_68 rfl rfl ?_
        refine j_getR C dX6_isRight_69 (fx_RX6_45 D kc ad n) (show 11 ≤ 201 by decide) (show 201 < n by omega) ?_
        refine j_aload_n C dX6_isRight_72 rfl rfl ?_
        refine j_getR C dX6_isRight_73 (fx_RX6_35 D kc ad n) (show 11 ≤ 201 by decide) (show 201 < n by omega) ?_
        refine j_aload_n C dX6_isRight_76 rfl rfl ?_
        refine j_getR C dX6_isRight_77 (fx_RX6_39 D kc ad n) (show 11 ≤ 201 by decide) (show 201 < n by omega) ?_
        refine j_aload_n C dX6_isRight_80 rfl rfl ?_
        refine j_getR C dX6_isRight_81 (fx_RX6_35 D kc ad n) (show 11 ≤ 201 by decide) (show 201 < n by omega) ?_
        refine j_callV0 (T := TX0) (N := 14) C dX6_isRight_84 (k_X0_add l D kc ad n (by omega) 186 (by decide) (by omega) 191 (by decide) (by omega) 186 (by decide) (by omega) _ ) zy_X0_add mw_40_1 rfl rfl (show 11 ≤ 83 by decide) (show 83 < n by omega) rfl rfl (Nat.le_of_ble_eq_true rfl) ⟨rfl, rfl, Nat.le_of_ble_eq_true rfl, Nat.le_of_ble_eq_true rfl⟩ ?_
        refine j_nmS (fun t12 et12 => ?_)
        refine j_aload_n C dX6_isRight_87 rfl rfl ?_
        refine j_getR C dX6_isRight_88 (fx_RX6_45 D kc ad n) (show 11 ≤ 201 by decide) (show 201 < n by omega) ?_
        refine j_aload_n C dX6_isRight_91 rfl rfl ?_
        refine j_getR C dX6_isRight_92 (fx_RX6_35 D kc ad n) (show 11 ≤ 201 by decide) (show 201 < n by omega) ?_
        refine j_callV0 (T := TX0) (N := 14) C dX6_isRight_95 (k_X0_negate l D kc ad n (by omega) 186 (by decide) (by omega) _ ) zy_X0_negate mw_40_2 rfl rfl (show 11 ≤ 83 by decide) (show 83 < n by omega) rfl rfl (Nat.le_of_ble_eq_true rfl) ⟨rfl, rfl, Nat.le_of_ble_eq_true rfl, Nat.le_of_ble_eq_true rfl⟩ ?_
        refine j_nmS (fun t13 et13 => ?_)
        refine j_aload_n C dX6_isRight_98 rfl rfl ?_
        refine j_getR C dX6_isRight_99 (fx_RX6_45 D kc ad n) (show 11 ≤ 201 by decide) (show 201 < n by omega) ?_
        refine j_aload_n C dX6_isRight_102 rfl rfl ?_
        refine j_aload_n C dX6_isRight_103 rfl rfl ?_
        refine j_getR C dX6_isRight_104 (fx_RX6_45 D kc ad n) (show 11 ≤ 201 by decide) (show 201 < n by omega) ?_
        refine j_getR C dX6_isRight_107 (fx_RX6_61 D kc ad n) (show 11 ≤ 83 by decide) (show 83 < n by omega) ?_
        refine j_aload_n C dX6_isRight_110 rfl rfl ?_
        refine j_getR C dX6_isRight_111 (fx_RX6_42 D kc ad n) (show 11 ≤ 201 by decide) (show 201 < n by omega) ?_
        refine j_callV0 (T := TX0) (N := 14) C dX6_isRight_114 (k_X0_multiply l D kc ad n (by omega) s1 hs1 67 (by decide) (by omega) 196 (by decide) (by omega) _ ) zy_X0_multiply mw_38_1 rfl rfl (show 11 ≤ 83 by decide) (show 83 < n by omega) rfl rfl (Nat.le_of_ble_eq_true rfl) ⟨rfl, rfl, Nat.le_of_ble_eq_true rfl, Nat.le_of_ble_eq_true rfl⟩ ?_
        refine j_nmS (fun t14 et14 => ?_)
        refine j_aload_n C dX6_isRight_117 rfl rfl ?_
        refine j_getR C dX6_isRight_118 (fx_RX6_45 D kc ad n) (show 11 ≤ 201 by decide) (show 201 < n by omega) ?_
        refine j_aload_n C dX6_isRight_121 rfl rfl ?_
        refine j_getR C dX6_isRight_122 (fx_RX6_42 D kc ad n) (show 11 ≤ 201 by decide) (show 201 < n by omega) ?_
        refine j_aload_n C dX6_isRight_125 rfl rfl ?_
        refine j_getR C dX6_isRight_126 (fx_RX6_35 D kc ad n) (show 11 ≤ 201 by decide) (show 201 < n by omega) ?_
        refine j_aload_n C dX6_isRight_129 rfl rfl ?_
        refine j_getR C dX6_isRight_130 (fx_RX6_42 D kc ad n) (show 11 ≤ 201 by decide) (show 201 < n by omega) ?_
        refine j_callV0 (T := TX0) (N := 14) C dX6_isRight_133 (k_X0_add l D kc ad n (by omega) 196 (by decide) (by omega) 186 (by decide) (by omega) 196 (by decide) (by omega) _ ) zy_X0_add mw_40_1 rfl rfl (show 11 ≤ 83 by decide) (show 83 < n by omega) rfl rfl (Nat.le_of_ble_eq_true rfl) ⟨rfl, rfl, Nat.le_of_ble_eq_true rfl, Nat.le_of_ble_eq_true rfl⟩ ?_
        refine j_nmS (fun t15 et15 => ?_)
        refine j_iconst (v := nI 0) C dX6_isRight_136 (by decide +kernel) ?_
        refine j_istore C dX6_isRight_137 (by decide) ?_
        refine j_at [(0, .ref (zad (wX D kc ad n) 201)), (5, .int (nI (0)))] ⟨rfl, rfl, trivial⟩ ?_
        refine z_up (α := zSt) (fun (i16 : Nat) (z17 : zSt) => zJ κ (wX D kc ad n) 139 (zlof [(0, .ref (zad (wX D kc ad n) 201)), (5, .int (nI (i16)))]) [] z17) fX6_isRight_139 (fun _ _ => True) 3 ?_ (fun _ _ _ _ => trivial) 3 0 t15 (by omega) trivial ?_
        · intro i16 z17 hi16 hIi16 k0
          refine j_iload C dX6_isRight_139 rfl ?_
          refine j_iconst (v := nI 3) C dX6_isRight_141 (by decide +kernel) ?_
          refine j_icmp_geN (tgt := 166) C dX6_isRight_142 (by decide) (by omega) (by omega) (fun q18 => False.elim (by omega)) (fun q18 => ?_)
          refine j_aload_n C dX6_isRight_145 rfl rfl ?_
          refine j_getR C dX6_isRight_146 (fx_RX6_45 D kc ad n) (show 11 ≤ 201 by decide) (show 201 < n by omega) ?_
          refine j_aload_n C dX6_isRight_149 rfl rfl ?_
          refine j_getR C dX6_isRight_150 (fx_RX6_42 D kc ad n) (show 11 ≤ 201 by decide) (show 201 < n by omega) ?_
          refine j_aload_n C dX6_isRight_153 rfl rfl ?_
          refine j_getR C dX6_isRight_154 (fx_RX6_42 D kc ad n) (show 11 ≤ 201 by decide) (show 201 < n by omega) ?_
          refine j_callV0 (T := TX0) (N := 14) C dX6_isRight_157 (k_X0_twice l D kc ad n (by omega) 196 (by decide) (by omega) 196 (by decide) (by omega) _ ) zy_X0_twice mw_40_3 rfl rfl (show 11 ≤ 83 by decide) (show 83 < n by omega) rfl rfl (Nat.le_of_ble_eq_true rfl) ⟨rfl, rfl, Nat.le_of_ble_eq_true rfl, Nat.le_of_ble_eq_true rfl⟩ ?_
          refine j_nmS (fun t19 et19 => ?_)
          refine j_iincN (b := 1) C dX6_isRight_160 rfl (by decide +kernel) (by decide) ?_
          refine j_goto (tgt := 139) C dX6_isRight_163 (by decide) ?_
          refine j_nmS (fun t20 et20 => ?_)
          refine j_at [(0, .ref (zad (wX D kc ad n) 201)), (5, .int (nI (i16 + 1)))] ⟨rfl, rfl, trivial⟩ ?_
          have eF : fX6_isRight_139 i16 z17 = t20 := by rw [et20]; (try rw [et19]); unfold fX6_isRight_139; first | done | (dsimp only; done) | rfl
          exact Eq.mp (congrArg (fun (z21 : zSt) => zJ κ (wX D kc ad n) 139 (zlof [(0, .ref (zad (wX D kc ad n) 201)), (5, .int (nI (i16 + 1)))]) [] z21) eF) (k0 trivial)
        · intro hIi16
          refine z_nm (P := fun (z17 : zSt) => zJ κ (wX D kc ad n) 139 (zlof [(0, .ref (zad (wX D kc ad n) 201)), (5, .int (nI (3)))]) [] z17) (fun u22 eu22 => ?_)
          refine j_iload C dX6_isRight_139 rfl ?_
          refine j_iconst (v := nI 3) C dX6_isRight_141 (by decide +kernel) ?_
          refine j_icmp_geN (tgt := 166) C dX6_isRight_142 (by decide) (by omega) (by omega) (fun q23 => ?_) (fun q23 => False.elim (by omega))
          refine j_aload_n C dX6_isRight_166 rfl rfl ?_
          refine j_getR C dX6_isRight_167 (fx_RX6_45 D kc ad n) (show 11 ≤ 201 by decide) (show 201 < n by omega) ?_
          refine j_aload_n C dX6_isRight_170 rfl rfl ?_
          refine j_getR C dX6_isRight_171 (fx_RX6_42 D kc ad n) (show 11 ≤ 201 by decide) (show 201 < n by omega) ?_
          refine j_callV1 (T := TX0) (N := 14) C dX6_isRight_174 (k_X0_isNeutral l D kc ad n (by omega) 196 (by decide) (by omega) _ ) zy_X0_isNeutral mw_40_4 rfl rfl (show 11 ≤ 83 by decide) (show 83 < n by omega) rfl rfl (Nat.le_of_ble_eq_true rfl) ⟨rfl, rfl, Nat.le_of_ble_eq_true rfl, Nat.le_of_ble_eq_true rfl⟩ ?_
          refine j_nmS (fun t24 et24 => ?_)
          exact j_zret (st := []) C R0 dX6_isRight_177 ⟨(by rw [hA2, hA6, hA9]; (try rw [et24]); (try rw [eu22]); (try rw [et15]); (try rw [et14]); (try rw [et13]); (try rw [et12]); (try rw [et11]); (try rw [et10]); unfold fX6_isRight_a2; (try dsimp only); all_goals ((try simp only [zfst_mk, zsnd_mk]); all_goals rfl)), ((by rw [hA2, hA6, hA9]; (try rw [et24]); (try rw [eu22]); (try rw [et15]); (try rw [et14]); (try rw [et13]); (try rw [et12]); (try rw [et11]); (try rw [et10]); unfold fX6_isRight_a2; (try dsimp only); all_goals ((try simp only [zfst_mk, zsnd_mk]); all_goals rfl)))⟩
      · have hA25 : fX6_isRight_a4 k1 r1 s1 T0 t3 = fX6_isRight_a3 t7 := by (try rw [et7]); have q8z := q8; (try rw [et7] at q8z); (try dsimp only at q8z); unfold fX6_isRight_a4; (try dsimp only); rw [q8z, cond_false]; (try rfl)
        refine j_iconst (v := nI 0) C dX6_isRight_39 (by decide +kernel) ?_
        refine j_top (v := .int (bI false)) (by decide +kernel) ?_
        exact j_zret (st := []) C R0 dX6_isRight_40 ⟨(by rw [hA2, hA6, hA25]; unfold fX6_isRight_a3; (try dsimp only); all_goals ((try simp only [zfst_mk, zsnd_mk]); all_goals rfl)), ((by rw [hA2, hA6, hA25]; unfold fX6_isRight_a3; (try dsimp only); all_goals ((try simp only [zfst_mk, zsnd_mk]); all_goals rfl)))⟩
  · have hA26 : fX6_isRight k1 r1 s1 T0 s0 = fX6_isRight_a6 s0 := by have q1z := q1; (try dsimp only at q1z); unfold fX6_isRight; (try dsimp only); rw [q1z, cond_false]; (try rfl)
    refine j_iconst (v := nI 0) C dX6_isRight_7 (by decide +kernel) ?_
    refine j_top (v := .int (bI false)) (by decide +kernel) ?_
    exact j_zret (st := []) C R0 dX6_isRight_8 ⟨(by rw [hA26]; unfold fX6_isRight_a6; (try dsimp only); all_goals ((try simp only [zfst_mk, zsnd_mk]); all_goals rfl)), ((by rw [hA26]; unfold fX6_isRight_a6; (try dsimp only); all_goals ((try simp only [zfst_mk, zsnd_mk]); all_goals rfl)))⟩
