def fX0_complete (P : Nat) (s0 : zSt) : zSt :=
    let t1 := fX1_become (P + 2) ((1 : Int64)) s0
    let t2 := fX1_multiply (P + 0) (P + 1) (P + 3) t1
    t2
set_option maxHeartbeats 4000000 in
set_option maxRecDepth 100000 in
theorem k_X0_complete (l : Launch) (D : va_G) (kc : Nat → ClassId) (ad : Nat → Nat) (n : Nat) (hn : 84 ≤ n) (P : Nat) (hP : ptB P = true) (hPn : P + 4 < n) (s0 : zSt) : zM l yX0_complete cX0_complete 2 none rX0_complete (wX D kc ad n) [.ref (zad (wX D kc ad n) 83), .ref (zad (wX D kc ad n) (P + 4))] s0 (zV0 (fX0_complete P s0)) := by
  refine z_of (own := RX0) (by decide +kernel) rfl (Nat.le_of_ble_eq_true rfl) ?_
  intro κ C R0
  refine j_at [(0, .ref (zad (wX D kc ad n) 83)), (1, .ref (zad (wX D kc ad n) (P + 4)))] ⟨rfl, rfl, trivial⟩ ?_
  refine j_aload_n C dX0_complete_0 rfl rfl ?_
  refine j_getR C dX0_complete_1 (fx_RX0_58 D kc ad n) (show 11 ≤ 83 by decide) (show 83 < n by omega) ?_
  refine j_aload_n C dX0_complete_4 rfl rfl ?_
  refine j_getR C dX0_complete_5 (fx_RX0_93 D kc ad n (P := P) hP) (pt_lo hP) (show P + 4 < n by omega) ?_
  refine j_lconst (v := 1) C dX0_complete_8 rfl ?_
  refine j_callV0 (T := TX1) (N := 8) C dX0_complete_9 (k_X1_become l D kc ad n (by omega) (P + 2) (pt_wa2 (P := P) hP (by omega) : wa n 10 (P + 2)) ((1 : Int64)) _ ) zy_X1_become mw_5_23 rfl rfl (show 11 ≤ 62 by decide) (show 62 < n by omega) rfl rfl (Nat.le_of_ble_eq_true rfl) ⟨rfl, rfl, Nat.le_of_ble_eq_true rfl, Nat.le_of_ble_eq_true rfl⟩ ?_
  refine j_nmS (fun t1 et1 => ?_)
  refine j_aload_n C dX0_complete_12 rfl rfl ?_
  refine j_getR C dX0_complete_13 (fx_RX0_58 D kc ad n) (show 11 ≤ 83 by decide) (show 83 < n by omega) ?_
  refine j_aload_n C dX0_complete_16 rfl rfl ?_
  refine j_getR C dX0_complete_17 (fx_RX0_80 D kc ad n (P := P) hP) (pt_lo hP) (show P + 4 < n by omega) ?_
  refine j_aload_n C dX0_complete_20 rfl rfl ?_
  refine j_getR C dX0_complete_21 (fx_RX0_86 D kc ad n (P := P) hP) (pt_lo hP) (show P + 4 < n by omega) ?_
  refine j_aload_n C dX0_complete_24 rfl rfl ?_
  refine j_getR C dX0_complete_25 (fx_RX0_96 D kc ad n (P := P) hP) (pt_lo hP) (show P + 4 < n by omega) ?_
  refine j_callV0 (T := TX1) (N := 8) C dX0_complete_28 (k_X1_multiply l D kc ad n (by omega) (P + 0) (pt_wa0 (P := P) hP (by omega) : wa n 10 (P + 0)).1 (P + 1) (pt_wa1 (P := P) hP (by omega) : wa n 10 (P + 1)).1 (P + 3) (pt_wa3 (P := P) hP (by omega) : wa n 10 (P + 3)) _ ) zy_X1_multiply mw_6_18 rfl rfl (show 11 ≤ 62 by decide) (show 62 < n by omega) rfl rfl (Nat.le_of_ble_eq_true rfl) ⟨rfl, rfl, Nat.le_of_ble_eq_true rfl, Nat.le_of_ble_eq_true rfl⟩ ?_
  refine j_nmS (fun t2 et2 => ?_)
  exact j_vret (st := []) C R0 dX0_complete_31 ⟨rfl, (by (try rw [et2]); (try rw [et1]); unfold fX0_complete; (try dsimp only); all_goals ((try simp only [zfst_mk, zsnd_mk]); all_goals rfl))⟩
theorem k2_fX0_complete (P : Nat) (s0 : zSt) : zk2 (fX0_complete P s0) = zk2 s0 := by
  unfold fX0_complete
  (try dsimp only)
  all_goals (simp only [zW_2, zL_2, k2_fX1_become, k2_fX1_multiply]; done)
theorem i2_fX0_complete (P : Nat) (s0 : zSt) (kk9 : Nat) : (fX0_complete P s0).2.2 kk9 = s0.2.2 kk9 := z2_I (k2_fX0_complete P s0) kk9
theorem i3_fX0_complete (P : Nat) (s0 : zSt) (kk9 : Nat) : zi (fX0_complete P s0) kk9 = zi s0 kk9 := zi_of (k2_fX0_complete P s0) kk9

def fX0_becomeNeutral (P : Nat) (s0 : zSt) : zSt :=
    let t1 := fX1_become (P + 0) ((0 : Int64)) s0
    let t2 := fX1_become (P + 1) ((1 : Int64)) t1
    let t3 := fX0_complete P t2
    t3
set_option maxHeartbeats 4000000 in
set_option maxRecDepth 100000 in
theorem k_X0_becomeNeutral (l : Launch) (D : va_G) (kc : Nat → ClassId) (ad : Nat → Nat) (n : Nat) (hn : 84 ≤ n) (P : Nat) (hP : ptB P = true) (hPn : P + 4 < n) (s0 : zSt) : zM l yX0_becomeNeutral cX0_becomeNeutral 2 none rX0_becomeNeutral (wX D kc ad n) [.ref (zad (wX D kc ad n) 83), .ref (zad (wX D kc ad n) (P + 4))] s0 (zV0 (fX0_becomeNeutral P s0)) := by
  refine z_of (own := RX0) (by decide +kernel) rfl (Nat.le_of_ble_eq_true rfl) ?_
  intro κ C R0
  refine j_at [(0, .ref (zad (wX D kc ad n) 83)), (1, .ref (zad (wX D kc ad n) (P + 4)))] ⟨rfl, rfl, trivial⟩ ?_
  refine j_aload_n C dX0_becomeNeutral_0 rfl rfl ?_
  refine j_getR C dX0_becomeNeutral_1 (fx_RX0_58 D kc ad n) (show 11 ≤ 83 by decide) (show 83 < n by omega) ?_
  refine j_aload_n C dX0_becomeNeutral_4 rfl rfl ?_
  refine j_getR C dX0_becomeNeutral_5 (fx_RX0_80 D kc ad n (P := P) hP) (pt_lo hP) (show P + 4 < n by omega) ?_
  refine j_lconst (v := 0) C dX0_becomeNeutral_8 rfl ?_
  refine j_callV0 (T := TX1) (N := 8) C dX0_becomeNeutral_9 (k_X1_become l D kc ad n (by omega) (P + 0) (pt_wa0 (P := P) hP (by omega) : wa n 10 (P + 0)) ((0 : Int64)) _ ) zy_X1_become mw_5_23 rfl rfl (show 11 ≤ 62 by decide) (show 62 < n by omega) rfl rfl (Nat.le_of_ble_eq_true rfl) ⟨rfl, rfl, Nat.le_of_ble_eq_true rfl, Nat.le_of_ble_eq_true rfl⟩ ?_
  refine j_nmS (fun t1 et1 => ?_)
  refine j_aload_n C dX0_becomeNeutral_12 rfl rfl ?_
  refine j_getR C dX0_becomeNeutral_13 (fx_RX0_58 D kc ad n) (show 11 ≤ 83 by decide) (show 83 < n by omega) ?_
  refine j_aload_n C dX0_becomeNeutral_16 rfl rfl ?_
  refine j_getR C dX0_becomeNeutral_17 (fx_RX0_86 D kc ad n (P := P) hP) (pt_lo hP) (show P + 4 < n by omega) ?_
  refine j_lconst (v := 1) C dX0_becomeNeutral_20 rfl ?_
  refine j_callV0 (T := TX1) (N := 8) C dX0_becomeNeutral_21 (k_X1_become l D kc ad n (by omega) (P + 1) (pt_wa1 (P := P) hP (by omega) : wa n 10 (P + 1)) ((1 : Int64)) _ ) zy_X1_become mw_5_23 rfl rfl (show 11 ≤ 62 by decide) (show 62 < n by omega) rfl rfl (Nat.le_of_ble_eq_true rfl) ⟨rfl, rfl, Nat.le_of_ble_eq_true rfl, Nat.le_of_ble_eq_true rfl⟩ ?_
  refine j_nmS (fun t2 et2 => ?_)
  refine j_aload_n C dX0_becomeNeutral_24 rfl rfl ?_
  refine j_aload_n C dX0_becomeNeutral_25 rfl rfl ?_
  refine j_callV0 (T := TX0) (N := 14) C dX0_becomeNeutral_26 (k_X0_complete l D kc ad n (by omega) P hP hPn _ ) zy_X0_complete mw_6_12 rfl rfl (show 11 ≤ 83 by decide) (show 83 < n by omega) rfl rfl (Nat.le_of_ble_eq_true rfl) ⟨rfl, rfl, Nat.le_of_ble_eq_true rfl, Nat.le_of_ble_eq_true rfl⟩ ?_
  refine j_nmS (fun t3 et3 => ?_)
  exact j_vret (st := []) C R0 dX0_becomeNeutral_29 ⟨rfl, (by (try rw [et3]); (try rw [et2]); (try rw [et1]); unfold fX0_becomeNeutral; (try dsimp only); all_goals ((try simp only [zfst_mk, zsnd_mk]); all_goals rfl))⟩
theorem k2_fX0_becomeNeutral (P : Nat) (s0 : zSt) : zk2 (fX0_becomeNeutral P s0) = zk2 s0 := by
  unfold fX0_becomeNeutral
  (try dsimp only)
  all_goals (simp only [zW_2, zL_2, k2_fX0_complete, k2_fX1_become]; done)
theorem i2_fX0_becomeNeutral (P : Nat) (s0 : zSt) (kk9 : Nat) : (fX0_becomeNeutral P s0).2.2 kk9 = s0.2.2 kk9 := z2_I (k2_fX0_becomeNeutral P s0) kk9
theorem i3_fX0_becomeNeutral (P : Nat) (s0 : zSt) (kk9 : Nat) : zi (fX0_becomeNeutral P s0) kk9 = zi s0 kk9 := zi_of (k2_fX0_becomeNeutral P s0) kk9

def fX0_read_a1 (P : Nat) (t12 : zSt) : Bool × zSt :=
    let t18 := fX0_complete P t12
    (true, t18)
def fX0_read_a2 (P : Nat) (t20 : zSt) : Bool × zSt :=
    let t23 := fX1_negate (P + 0) (P + 0) t20
    let t24 := fX0_complete P t23
    (true, t24)
def fX0_read_a3 (t20 : zSt) : Bool × zSt :=
    (false, t20)
def fX0_read_a4 (P : Nat) (t12 : zSt) : Bool × zSt :=
    let t20 := zsnd (fX1_isZero (P + 0) t12)
    bif (zfst (fX1_isZero (P + 0) t12)) then
      fX0_read_a3 t20
    else
      fX0_read_a2 P t20
def fX0_read_a5 (ws : Nat) (P : Nat) (t12 : zSt) : Bool × zSt :=
    let x15 := vX8_bit ws 4 255 t12
    if x15 ≠ 1 then
      fX0_read_a1 P t12
    else
      fX0_read_a4 P t12
def fX0_read_a6 (t12 : zSt) : Bool × zSt :=
    (false, t12)
def fX0_read_a7 (ws : Nat) (P : Nat) (t2 : zSt) : Bool × zSt :=
    let t5 := fX1_load ws (P + 1) t2
    let t6 := fX1_square (P + 1) 75 t5
    let t7 := fX1_multiply 73 75 76 t6
    let t8 := fX1_add 76 72 76 t7
    let t9 := fX1_invert 76 76 t8
    let t10 := fX1_subtract 75 72 75 t9
    let t11 := fX1_multiply 75 76 75 t10
    let t12 := zsnd (fX1_findRoot 75 (P + 0) t11)
    bif (zfst (fX1_findRoot 75 (P + 0) t11)) then
      fX0_read_a5 ws P t12
    else
      fX0_read_a6 t12
def fX0_read_a8 (t2 : zSt) : Bool × zSt :=
    (false, t2)
def fX0_read (ws : Nat) (P : Nat) (s0 : zSt) : Bool × zSt :=
    let t1 := fX8_move ws 82 s0
    let t2 := zW t1 82 3 ((t1.1 82 3) &&& ((9223372036854775807 : Int64)))
    if vX8_order 82 0 t2 < 0 then
      fX0_read_a7 ws P t2
    else
      fX0_read_a8 t2
set_option maxHeartbeats 4000000 in
set_option maxRecDepth 100000 in
theorem k_X0_read (l : Launch) (D : va_G) (kc : Nat → ClassId) (ad : Nat → Nat) (n : Nat) (hn : 84 ≤ n) (ws : Nat) (hws : ra n 4 ws) (P : Nat) (hP : ptB P = true) (hPn : P + 4 < n) (s0 : zSt) : zM l yX0_read cX0_read 3 (some .boolean) rX0_read (wX D kc ad n) [.ref (zad (wX D kc ad n) 83), .ref (zad (wX D kc ad n) ws), .ref (zad (wX D kc ad n) (P + 4))] s0 (zV1 (.int (bI (zfst (fX0_read ws P s0)))) (zsnd (fX0_read ws P s0))) := by
  refine z_of (own := RX0) (by decide +kernel) rfl (Nat.le_of_ble_eq_true rfl) ?_
  intro κ C R0
  refine j_at [(0, .ref (zad (wX D kc ad n) 83)), (1, .ref (zad (wX D kc ad n) ws)), (2, .ref (zad (wX D kc ad n) (P + 4)))] ⟨rfl, rfl, rfl, trivial⟩ ?_
  refine j_aload_n C dX0_read_0 rfl rfl ?_
  refine j_aload_n C dX0_read_1 rfl rfl ?_
  refine j_getR C dX0_read_2 (fx_RX0_51 D kc ad n) (show 11 ≤ 83 by decide) (show 83 < n by omega) ?_
  refine j_callS0 C dX0_read_5 (k_X8_move l D kc ad n (by omega) ws hws 82 (⟨⟨rfl, rfl, by omega, by decide⟩, by decide⟩ : wa n 4 82) _ ) zy_X8_move mw_26_11 rfl rfl (Nat.le_of_ble_eq_true rfl) ⟨rfl, rfl, Nat.le_of_ble_eq_true rfl, Nat.le_of_ble_eq_true rfl⟩ ?_
  refine j_nmS (fun t1 et1 => ?_)
  refine j_aload_n C dX0_read_8 rfl rfl ?_
  refine j_getR C dX0_read_9 (fx_RX0_51 D kc ad n) (show 11 ≤ 83 by decide) (show 83 < n by omega) ?_
  refine j_iconst (v := nI 3) C dX0_read_12 (by decide +kernel) ?_
  refine j_dup2 C dX0_read_13 rfl rfl ?_
  refine x_lald C dX0_read_14 (⟨⟨rfl, rfl, by omega, by decide⟩, by decide⟩ : wa n 4 82).1 (by omega) ?_
  refine j_ldc2 C dX0_read_15 mw_26_9 ?_
  refine j_land C dX0_read_18 ?_
  refine x_last C dX0_read_19 (⟨⟨rfl, rfl, by omega, by decide⟩, by decide⟩ : wa n 4 82) (by omega) ?_
  refine j_nmS (fun t2 et2 => ?_)
  refine j_aload_n C dX0_read_20 rfl rfl ?_
  refine j_getR C dX0_read_21 (fx_RX0_51 D kc ad n) (show 11 ≤ 83 by decide) (show 83 < n by omega) ?_
  refine j_gets (id := 0) C dX0_read_24 (show 0 < 11 by decide) rfl mw_26_10 ?_
  refine j_callS1 C dX0_read_27 (k_X8_order l D kc ad n (by omega) 82 (⟨⟨rfl, rfl, by omega, by decide⟩, by decide⟩ : wa n 4 82).1 0 (⟨rfl, rfl, by omega, by decide⟩ : ra n 4 0) _ ) zy_X8_order mw_26_12 rfl rfl (Nat.le_of_ble_eq_true rfl) ⟨rfl, rfl, Nat.le_of_ble_eq_true rfl, Nat.le_of_ble_eq_true rfl⟩ ?_
  refine j_if_lt (tgt := 35) C dX0_read_30 (by decide) (fun q3 => ?_) (fun q3 => ?_)
  · have hA4 : fX0_read ws P s0 = fX0_read_a7 ws P t2 := by (try rw [et2]); (try rw [et1]); have q3z := q3; (try rw [et2] at q3z); (try rw [et1] at q3z); (try dsimp only at q3z); unfold fX0_read; (try dsimp only); rw [if_pos q3z]; (try rfl)
    refine j_aload_n C dX0_read_35 rfl rfl ?_
    refine j_getR C dX0_read_36 (fx_RX0_58 D kc ad n) (show 11 ≤ 83 by decide) (show 83 < n by omega) ?_
    refine j_aload_n C dX0_read_39 rfl rfl ?_
    refine j_aload_n C dX0_read_40 rfl rfl ?_
    refine j_getR C dX0_read_41 (fx_RX0_86 D kc ad n (P := P) hP) (pt_lo hP) (show P + 4 < n by omega) ?_
    refine j_callV0 (T := TX1) (N := 8) C dX0_read_44 (k_X1_load l D kc ad n (by omega) ws hws (P + 1) (pt_wa1 (P := P) hP (by omega) : wa n 10 (P + 1)) _ ) zy_X1_load mw_6_7 rfl rfl (show 11 ≤ 62 by decide) (show 62 < n by omega) rfl rfl (Nat.le_of_ble_eq_true rfl) ⟨rfl, rfl, Nat.le_of_ble_eq_true rfl, Nat.le_of_ble_eq_true rfl⟩ ?_
    refine j_nmS (fun t5 et5 => ?_)
    refine j_aload_n C dX0_read_47 rfl rfl ?_
    refine j_getR C dX0_read_48 (fx_RX0_58 D kc ad n) (show 11 ≤ 83 by decide) (show 83 < n by omega) ?_
    refine j_aload_n C dX0_read_51 rfl rfl ?_
    refine j_getR C dX0_read_52 (fx_RX0_86 D kc ad n (P := P) hP) (pt_lo hP) (show P + 4 < n by omega) ?_
    refine j_aload_n C dX0_read_55 rfl rfl ?_
    refine j_getR C dX0_read_56 (fx_RX0_28 D kc ad n) (show 11 ≤ 83 by decide) (show 83 < n by omega) ?_
    refine j_callV0 (T := TX1) (N := 8) C dX0_read_59 (k_X1_square l D kc ad n (by omega) (P + 1) (pt_wa1 (P := P) hP (by omega) : wa n 10 (P + 1)).1 75 (⟨⟨rfl, rfl, by omega, by decide⟩, by decide⟩ : wa n 10 75) _ ) zy_X1_square mw_26_13 rfl rfl (show 11 ≤ 62 by decide) (show 62 < n by omega) rfl rfl (Nat.le_of_ble_eq_true rfl) ⟨rfl, rfl, Nat.le_of_ble_eq_true rfl, Nat.le_of_ble_eq_true rfl⟩ ?_
    refine j_nmS (fun t6 et6 => ?_)
    refine j_aload_n C dX0_read_62 rfl rfl ?_
    refine j_getR C dX0_read_63 (fx_RX0_58 D kc ad n) (show 11 ≤ 83 by decide) (show 83 < n by omega) ?_
    refine j_aload_n C dX0_read_66 rfl rfl ?_
    refine j_getR C dX0_read_67 (fx_RX0_22 D kc ad n) (show 11 ≤ 83 by decide) (show 83 < n by omega) ?_
    refine j_aload_n C dX0_read_70 rfl rfl ?_
    refine j_getR C dX0_read_71 (fx_RX0_28 D kc ad n) (show 11 ≤ 83 by decide) (show 83 < n by omega) ?_
    refine j_aload_n C dX0_read_74 rfl rfl ?_
    refine j_getR C dX0_read_75 (fx_RX0_31 D kc ad n) (show 11 ≤ 83 by decide) (show 83 < n by omega) ?_
    refine j_callV0 (T := TX1) (N := 8) C dX0_read_78 (k_X1_multiply l D kc ad n (by omega) 73 (⟨⟨rfl, rfl, by omega, by decide⟩, by decide⟩ : wa n 10 73).1 75 (⟨⟨rfl, rfl, by omega, by decide⟩, by decide⟩ : wa n 10 75).1 76 (⟨⟨rfl, rfl, by omega, by decide⟩, by decide⟩ : wa n 10 76) _ ) zy_X1_multiply mw_6_18 rfl rfl (show 11 ≤ 62 by decide) (show 62 < n by omega) rfl rfl (Nat.le_of_ble_eq_true rfl) ⟨rfl, rfl, Nat.le_of_ble_eq_true rfl, Nat.le_of_ble_eq_true rfl⟩ ?_
    refine j_nmS (fun t7 et7 => ?_)
    refine j_aload_n C dX0_read_81 rfl rfl ?_
    refine j_getR C dX0_read_82 (fx_RX0_58 D kc ad n) (show 11 ≤ 83 by decide) (show 83 < n by omega) ?_
    refine j_aload_n C dX0_read_85 rfl rfl ?_
    refine j_getR C dX0_read_86 (fx_RX0_31 D kc ad n) (show 11 ≤ 83 by decide) (show 83 < n by omega) ?_
    refine j_aload_n C dX0_read_89 rfl rfl ?_
    refine j_getR C dX0_read_90 (fx_RX0_18 D kc ad n) (show 11 ≤ 83 by decide) (show 83 < n by omega) ?_
    refine j_aload_n C dX0_read_93 rfl rfl ?_
    refine j_getR C dX0_read_94 (fx_RX0_31 D kc ad n) (show 11 ≤ 83 by decide) (show 83 < n by omega) ?_
    refine j_callV0 (T := TX1) (N := 8) C dX0_read_97 (k_X1_add l D kc ad n (by omega) 76 (⟨⟨rfl, rfl, by omega, by decide⟩, by decide⟩ : wa n 10 76).1 72 (⟨⟨rfl, rfl, by omega, by decide⟩, by decide⟩ : wa n 10 72).1 76 (⟨⟨rfl, rfl, by omega, by decide⟩, by decide⟩ : wa n 10 76) _ ) zy_X1_add mw_6_8 rfl rfl (show 11 ≤ 62 by decide) (show 62 < n by omega) rfl rfl (Nat.le_of_ble_eq_true rfl) ⟨rfl, rfl, Nat.le_of_ble_eq_true rfl, Nat.le_of_ble_eq_true rfl⟩ ?_
    refine j_nmS (fun t8 et8 => ?_)
    refine j_aload_n C dX0_read_100 rfl rfl ?_
    refine j_getR C dX0_read_101 (fx_RX0_58 D kc ad n) (show 11 ≤ 83 by decide) (show 83 < n by omega) ?_
    refine j_aload_n C dX0_read_104 rfl rfl ?_
    refine j_getR C dX0_read_105 (fx_RX0_31 D kc ad n) (show 11 ≤ 83 by decide) (show 83 < n by omega) ?_
    refine j_aload_n C dX0_read_108 rfl rfl ?_
    refine j_getR C dX0_read_109 (fx_RX0_31 D kc ad n) (show 11 ≤ 83 by decide) (show 83 < n by omega) ?_
    refine j_callV0 (T := TX1) (N := 8) C dX0_read_112 (k_X1_invert l D kc ad n (by omega) 76 (⟨⟨rfl, rfl, by omega, by decide⟩, by decide⟩ : wa n 10 76).1 76 (⟨⟨rfl, rfl, by omega, by decide⟩, by decide⟩ : wa n 10 76) _ ) zy_X1_invert mw_26_14 rfl rfl (show 11 ≤ 62 by decide) (show 62 < n by omega) rfl rfl (Nat.le_of_ble_eq_true rfl) ⟨rfl, rfl, Nat.le_of_ble_eq_true rfl, Nat.le_of_ble_eq_true rfl⟩ ?_
    refine j_nmS (fun t9 et9 => ?_)
    refine j_aload_n C dX0_read_115 rfl rfl ?_
    refine j_getR C dX0_read_116 (fx_RX0_58 D kc ad n) (show 11 ≤ 83 by decide) (show 83 < n by omega) ?_
    refine j_aload_n C dX0_read_119 rfl rfl ?_
    refine j_getR C dX0_read_120 (fx_RX0_28 D kc ad n) (show 11 ≤ 83 by decide) (show 83 < n by omega) ?_
    refine j_aload_n C dX0_read_123 rfl rfl ?_
    refine j_getR C dX0_read_124 (fx_RX0_18 D kc ad n) (show 11 ≤ 83 by decide) (show 83 < n by omega) ?_
    refine j_aload_n C dX0_read_127 rfl rfl ?_
    refine j_getR C dX0_read_128 (fx_RX0_28 D kc ad n) (show 11 ≤ 83 by decide) (show 83 < n by omega) ?_
    refine j_callV0 (T := TX1) (N := 8) C dX0_read_131 (k_X1_subtract l D kc ad n (by omega) 75 (⟨⟨rfl, rfl, by omega, by decide⟩, by decide⟩ : wa n 10 75).1 72 (⟨⟨rfl, rfl, by omega, by decide⟩, by decide⟩ : wa n 10 72).1 75 (⟨⟨rfl, rfl, by omega, by decide⟩, by decide⟩ : wa n 10 75) _ ) zy_X1_subtract mw_26_15 rfl rfl (show 11 ≤ 62 by decide) (show 62 < n by omega) rfl rfl (Nat.le_of_ble_eq_true rfl) ⟨rfl, rfl, Nat.le_of_ble_eq_true rfl, Nat.le_of_ble_eq_true rfl⟩ ?_
    refine j_nmS (fun t10 et10 => ?_)
    refine j_aload_n C dX0_read_134 rfl rfl ?_
    refine j_getR C dX0_read_135 (fx_RX0_58 D kc ad n) (show 11 ≤ 83 by decide) (show 83 < n by omega) ?_
    refine j_aload_n C dX0_read_138 rfl rfl ?_
    refine j_getR C dX0_read_139 (fx_RX0_28 D kc ad n) (show 11 ≤ 83 by decide) (show 83 < n by omega) ?_
    refine j_aload_n C dX0_read_142 rfl rfl ?_
    refine j_getR C dX0_read_143 (fx_RX0_31 D kc ad n) (show 11 ≤ 83 by decide) (show 83 < n by omega) ?_
    refine j_aload_n C dX0_read_146 rfl rfl ?_
    refine j_getR C dX0_read_147 (fx_RX0_28 D kc ad n) (show 11 ≤ 83 by decide) (show 83 < n by omega) ?_
    refine j_callV0 (T := TX1) (N := 8) C dX0_read_150 (k_X1_multiply l D kc ad n (by omega) 75 (⟨⟨rfl, rfl, by omega, by decide⟩, by decide⟩ : wa n 10 75).1 76 (⟨⟨rfl, rfl, by omega, by decide⟩, by decide⟩ : wa n 10 76).1 75 (⟨⟨rfl, rfl, by omega, by decide⟩, by decide⟩ : wa n 10 75) _ ) zy_X1_multiply mw_6_18 rfl rfl (show 11 ≤ 62 by decide) (show 62 < n by omega) rfl rfl (Nat.le_of_ble_eq_true rfl) ⟨rfl, rfl, Nat.le_of_ble_eq_true rfl, Nat.le_of_ble_eq_true rfl⟩ ?_
    refine j_nmS (fun t11 et11 => ?_)
    refine j_aload_n C dX0_read_153 rfl rfl ?_
    refine j_getR C dX0_read_154 (fx_RX0_58 D kc ad n) (show 11 ≤ 83 by decide) (show 83 < n by omega) ?_
    refine j_aload_n C dX0_read_157 rfl rfl ?_
    refine j_getR C dX0_read_158 (fx_RX0_28 D kc ad n) (show 11 ≤ 83 by decide) (show 83 < n by omega) ?_
    refine j_aload_n C dX0_read_161 rfl rfl ?_
    refine j_getR C dX0_read_162 (fx_RX0_80 D kc ad n (P := P) hP) (pt_lo hP) (show P + 4 < n by omega) ?_
    refine j_callV1 (T := TX1) (N := 8) C dX0_read_165 (k_X1_findRoot l D kc ad n (by omega) 75 (⟨⟨rfl, rfl, by omega, by decide⟩, by decide⟩ : wa n 10 75).1 (P + 0) (pt_wa0 (P := P) hP (by omega) : wa n 10 (P + 0)) _ ) zy_X1_findRoot mw_26_16 rfl rfl (show 11 ≤ 62 by decide) (show 62 < n by omega) rfl rfl (Nat.le_of_ble_eq_true rfl) ⟨rfl, rfl, Nat.le_of_ble_eq_true rfl, Nat.le_of_ble_eq_true rfl⟩ ?_
    refine j_nmS (fun t12 et12 => ?_)
    refine j_if_neB (tgt := 173) C dX0_read_168 (by decide) (fun q13 => ?_) (fun q13 => ?_)
    · have hA14 : fX0_read_a7 ws P t2 = fX0_read_a5 ws P t12 := by (try rw [et12]); (try rw [et11]); (try rw [et10]); (try rw [et9]); (try rw [et8]); (try rw [et7]); (try rw [et6]); (try rw [et5]); have q13z := q13; (try rw [et12] at q13z); (try rw [et11] at q13z); (try rw [et10] at q13z); (try rw [et9] at q13z); (try rw [et8] at q13z); (try rw [et7] at q13z); (try rw [et6] at q13z); (try rw [et5] at q13z); (try dsimp only at q13z); unfold fX0_read_a7; (try dsimp only); rw [q13z, cond_true]; (try rfl)
      refine j_aload_n C dX0_read_173 rfl rfl ?_
      refine j_sipush (v := nI 255) C dX0_read_174 (by decide +kernel) ?_
      refine j_callS1 C dX0_read_177 (k_X8_bit l D kc ad n (by omega) ws 4 hws 255 (by omega) _ (by omega)) zy_X8_bit mw_26_17 rfl rfl (Nat.le_of_ble_eq_true rfl) ⟨rfl, rfl, Nat.le_of_ble_eq_true rfl, Nat.le_of_ble_eq_true rfl⟩ ?_
      refine j_nmN (fun x15 ex15 => ?_)
      have hx15 : x15 < 2 := by rw [ex15]; exact lt_bit _ _ _ _
      refine j_iconst (v := nI 1) C dX0_read_180 (by decide +kernel) ?_
      refine j_icmp_neN (tgt := 215) C dX0_read_181 (by decide) (by omega) (by omega) (fun q16 => ?_) (fun q16 => ?_)
      · have hA17 : fX0_read_a5 ws P t12 = fX0_read_a1 P t12 := by (try rw [ex15]); have q16z := q16; (try rw [ex15] at q16z); (try dsimp only at q16z); unfold fX0_read_a5; (try dsimp only); rw [if_pos q16z]; (try rfl)
        refine j_aload_n C dX0_read_215 rfl rfl ?_
        refine j_aload_n C dX0_read_216 rfl rfl ?_
        refine j_callV0 (T := TX0) (N := 14) C dX0_read_217 (k_X0_complete l D kc ad n (by omega) P hP hPn _ ) zy_X0_complete mw_6_12 rfl rfl (show 11 ≤ 83 by decide) (show 83 < n by omega) rfl rfl (Nat.le_of_ble_eq_true rfl) ⟨rfl, rfl, Nat.le_of_ble_eq_true rfl, Nat.le_of_ble_eq_true rfl⟩ ?_
        refine j_nmS (fun t18 et18 => ?_)
        refine j_iconst (v := nI 1) C dX0_read_220 (by decide +kernel) ?_
        refine j_top (v := .int (bI true)) (by decide +kernel) ?_
        exact j_zret (st := []) C R0 dX0_read_221 ⟨(by rw [hA4, hA14, hA17]; (try rw [et18]); unfold fX0_read_a1; (try dsimp only); all_goals ((try simp only [zfst_mk, zsnd_mk]); all_goals rfl)), ((by rw [hA4, hA14, hA17]; (try rw [et18]); unfold fX0_read_a1; (try dsimp only); all_goals ((try simp only [zfst_mk, zsnd_mk]); all_goals rfl)))⟩
      · have hA19 : fX0_read_a5 ws P t12 = fX0_read_a4 P t12 := by (try rw [ex15]); have q16z : ¬ (x15 ≠ 1) := (by omega); (try rw [ex15] at q16z); (try dsimp only at q16z); unfold fX0_read_a5; (try dsimp only); rw [if_neg q16z]; (try rfl)
        refine j_aload_n C dX0_read_184 rfl rfl ?_
        refine j_getR C dX0_read_185 (fx_RX0_58 D kc ad n) (show 11 ≤ 83 by decide) (show 83 < n by omega) ?_
        refine j_aload_n C dX0_read_188 rfl rfl ?_
        refine j_getR C dX0_read_189 (fx_RX0_80 D kc ad n (P := P) hP) (pt_lo hP) (show P + 4 < n by omega) ?_
        refine j_callV1 (T := TX1) (N := 8) C dX0_read_192 (k_X1_isZero l D kc ad n (by omega) (P + 0) (pt_wa0 (P := P) hP (by omega) : wa n 10 (P + 0)).1 _ ) zy_X1_isZero mw_26_18 rfl rfl (show 11 ≤ 62 by decide) (show 62 < n by omega) rfl rfl (Nat.le_of_ble_eq_true rfl) ⟨rfl, rfl, Nat.le_of_ble_eq_true rfl, Nat.le_of_ble_eq_true rfl⟩ ?_
        refine j_nmS (fun t20 et20 => ?_)
        refine j_if_eqB (tgt := 200) C dX0_read_195 (by decide) (fun q21 => ?_) (fun q21 => ?_)
        · have hA22 : fX0_read_a4 P t12 = fX0_read_a2 P t20 := by (try rw [et20]); have q21z := q21; (try rw [et20] at q21z); (try dsimp only at q21z); unfold fX0_read_a4; (try dsimp only); rw [q21z, cond_false]; (try rfl)
          refine j_aload_n C dX0_read_200 rfl rfl ?_
          refine j_getR C dX0_read_201 (fx_RX0_58 D kc ad n) (show 11 ≤ 83 by decide) (show 83 < n by omega) ?_
          refine j_aload_n C dX0_read_204 rfl rfl ?_
          refine j_getR C dX0_read_205 (fx_RX0_80 D kc ad n (P := P) hP) (pt_lo hP) (show P + 4 < n by omega) ?_
          refine j_aload_n C dX0_read_208 rfl rfl ?_
          refine j_getR C dX0_read_209 (fx_RX0_80 D kc ad n (P := P) hP) (pt_lo hP) (show P + 4 < n by omega) ?_
          refine j_callV0 (T := TX1) (N := 8) C dX0_read_212 (k_X1_negate l D kc ad n (by omega) (P + 0) (pt_wa0 (P := P) hP (by omega) : wa n 10 (P + 0)).1 (P + 0) (pt_wa0 (P := P) hP (by omega) : wa n 10 (P + 0)) _ ) zy_X1_negate mw_26_19 rfl rfl (show 11 ≤ 62 by decide) (show 62 < n by omega) rfl rfl (Nat.le_of_ble_eq_true rfl) ⟨rfl, rfl, Nat.le_of_ble_eq_true rfl, Nat.le_of_ble_eq_true rfl⟩ ?_
          refine j_nmS (fun t23 et23 => ?_)
          refine j_aload_n C dX0_read_215 rfl rfl ?_
          refine j_aload_n C dX0_read_216 rfl rfl ?_
          refine j_callV0 (T := TX0) (N := 14) C dX0_read_217 (k_X0_complete l D kc ad n (by omega) P hP hPn _ ) zy_X0_complete mw_6_12 rfl rfl (show 11 ≤ 83 by decide) (show 83 < n by omega) rfl rfl (Nat.le_of_ble_eq_true rfl) ⟨rfl, rfl, Nat.le_of_ble_eq_true rfl, Nat.le_of_ble_eq_true rfl⟩ ?_
          refine j_nmS (fun t24 et24 => ?_)
          refine j_iconst (v := nI 1) C dX0_read_220 (by decide +kernel) ?_
          refine j_top (v := .int (bI true)) (by decide +kernel) ?_
          exact j_zret (st := []) C R0 dX0_read_221 ⟨(by rw [hA4, hA14, hA19, hA22]; (try rw [et24]); (try rw [et23]); unfold fX0_read_a2; (try dsimp only); all_goals ((try simp only [zfst_mk, zsnd_mk]); all_goals rfl)), ((by rw [hA4, hA14, hA19, hA22]; (try rw [et24]); (try rw [et23]); unfold fX0_read_a2; (try dsimp only); all_goals ((try simp only [zfst_mk, zsnd_mk]); all_goals rfl)))⟩
        · have hA25 : fX0_read_a4 P t12 = fX0_read_a3 t20 := by (try rw [et20]); have q21z := q21; (try rw [et20] at q21z); (try dsimp only at q21z); unfold fX0_read_a4; (try dsimp only); rw [q21z, cond_true]; (try rfl)
          refine j_iconst (v := nI 0) C dX0_read_198 (by decide +kernel) ?_
          refine j_top (v := .int (bI false)) (by decide +kernel) ?_
          exact j_zret (st := []) C R0 dX0_read_199 ⟨(by rw [hA4, hA14, hA19, hA25]; unfold fX0_read_a3; (try dsimp only); all_goals ((try simp only [zfst_mk, zsnd_mk]); all_goals rfl)), ((by rw [hA4, hA14, hA19, hA25]; unfold fX0_read_a3; (try dsimp only); all_goals ((try simp only [zfst_mk, zsnd_mk]); all_goals rfl)))⟩
    · have hA26 : fX0_read_a7 ws P t2 = fX0_read_a6 t12 := by (try rw [et12]); (try rw [et11]); (try rw [et10]); (try rw [et9]); (try rw [et8]); (try rw [et7]); (try rw [et6]); (try rw [et5]); have q13z := q13; (try rw [et12] at q13z); (try rw [et11] at q13z); (try rw [et10] at q13z); (try rw [et9] at q13z); (try rw [et8] at q13z); (try rw [et7] at q13z); (try rw [et6] at q13z); (try rw [et5] at q13z); (try dsimp only at q13z); unfold fX0_read_a7; (try dsimp only); rw [q13z, cond_false]; (try rfl)
      refine j_iconst (v := nI 0) C dX0_read_171 (by decide +kernel) ?_
      refine j_top (v := .int (bI false)) (by decide +kernel) ?_
      exact j_zret (st := []) C R0 dX0_read_172 ⟨(by rw [hA4, hA26]; unfold fX0_read_a6; (try dsimp only); all_goals ((try simp only [zfst_mk, zsnd_mk]); all_goals rfl)), ((by rw [hA4, hA26]; unfold fX0_read_a6; (try dsimp only); all_goals ((try simp only [zfst_mk, zsnd_mk]); all_goals rfl)))⟩
  · have hA27 : fX0_read ws P s0 = fX0_read_a8 t2 := by (try rw [et2]); (try rw [et1]); have q3z := q3; (try rw [et2] at q3z); (try rw [et1] at q3z); (try dsimp only at q3z); unfold fX0_read; (try dsimp only); rw [if_neg q3z]; (try rfl)
    refine j_iconst (v := nI 0) C dX0_read_33 (by decide +kernel) ?_
    refine j_top (v := .int (bI false)) (by decide +kernel) ?_
    exact j_zret (st := []) C R0 dX0_read_34 ⟨(by rw [hA27]; unfold fX0_read_a8; (try dsimp only); all_goals ((try simp only [zfst_mk, zsnd_mk]); all_goals rfl)), ((by rw [hA27]; unfold fX0_read_a8; (try dsimp only); all_goals ((try simp only [zfst_mk, zsnd_mk]); all_goals rfl)))⟩
theorem k2q_fX0_read_a1 (P : Nat) (t12 : zSt) : zk2s (fX0_read_a1 P t12) = zk2 t12 := by
  unfold fX0_read_a1
  (try dsimp only)
  all_goals (simp only [zW_2, zL_2, k2_fX0_complete, zk2s_mk]; done)
theorem k2_fX0_read_a1 (P : Nat) (t12 : zSt) : zk2 (zsnd (fX0_read_a1 P t12)) = zk2 t12 := k2q_fX0_read_a1 P t12
theorem k2q_fX0_read_a2 (P : Nat) (t20 : zSt) : zk2s (fX0_read_a2 P t20) = zk2 t20 := by
  unfold fX0_read_a2
  (try dsimp only)
  all_goals (simp only [zW_2, zL_2, k2_fX0_complete, k2_fX1_negate, zk2s_mk]; done)
theorem k2_fX0_read_a2 (P : Nat) (t20 : zSt) : zk2 (zsnd (fX0_read_a2 P t20)) = zk2 t20 := k2q_fX0_read_a2 P t20
theorem k2q_fX0_read_a3 (t20 : zSt) : zk2s (fX0_read_a3 t20) = zk2 t20 := by
  unfold fX0_read_a3
  (try dsimp only)
  all_goals (simp only [zW_2, zL_2, zk2s_mk]; done)
theorem k2_fX0_read_a3 (t20 : zSt) : zk2 (zsnd (fX0_read_a3 t20)) = zk2 t20 := k2q_fX0_read_a3 t20
theorem k2q_fX0_read_a4 (P : Nat) (t12 : zSt) : zk2s (fX0_read_a4 P t12) = zk2 t12 := by
  unfold fX0_read_a4
  (try dsimp only)
  all_goals (refine cond_keep (fun r : Bool × zSt => zk2s r) _ ?_ ?_ <;> (simp only [zW_2, zL_2, k2_fX0_read_a2, k2_fX0_read_a3, k2_fX1_isZero, k2q_fX0_read_a2, k2q_fX0_read_a3, k2q_fX1_isZero, zk2s_mk]; done))
theorem k2_fX0_read_a4 (P : Nat) (t12 : zSt) : zk2 (zsnd (fX0_read_a4 P t12)) = zk2 t12 := k2q_fX0_read_a4 P t12
theorem k2q_fX0_read_a5 (ws : Nat) (P : Nat) (t12 : zSt) : zk2s (fX0_read_a5 ws P t12) = zk2 t12 := by
  unfold fX0_read_a5
  (try dsimp only)
  all_goals (refine ite_keep (fun r : Bool × zSt => zk2s r) _ _ ?_ ?_ <;> (simp only [zW_2, zL_2, k2_fX0_read_a1, k2_fX0_read_a4, k2q_fX0_read_a1, k2q_fX0_read_a4, zk2s_mk]; done))
theorem k2_fX0_read_a5 (ws : Nat) (P : Nat) (t12 : zSt) : zk2 (zsnd (fX0_read_a5 ws P t12)) = zk2 t12 := k2q_fX0_read_a5 ws P t12
theorem k2q_fX0_read_a6 (t12 : zSt) : zk2s (fX0_read_a6 t12) = zk2 t12 := by
  unfold fX0_read_a6
  (try dsimp only)
  all_goals (simp only [zW_2, zL_2, zk2s_mk]; done)
theorem k2_fX0_read_a6 (t12 : zSt) : zk2 (zsnd (fX0_read_a6 t12)) = zk2 t12 := k2q_fX0_read_a6 t12
theorem k2q_fX0_read_a7 (ws : Nat) (P : Nat) (t2 : zSt) : zk2s (fX0_read_a7 ws P t2) = zk2 t2 := by
  unfold fX0_read_a7
  (try dsimp only)
  all_goals (refine cond_keep (fun r : Bool × zSt => zk2s r) _ ?_ ?_ <;> (simp only [zW_2, zL_2, k2_fX0_read_a5, k2_fX0_read_a6, k2_fX1_add, k2_fX1_findRoot, k2_fX1_invert, k2_fX1_load, k2_fX1_multiply, k2_fX1_square, k2_fX1_subtract, k2q_fX0_read_a5, k2q_fX0_read_a6, k2q_fX1_findRoot, zk2s_mk]; done))
theorem k2_fX0_read_a7 (ws : Nat) (P : Nat) (t2 : zSt) : zk2 (zsnd (fX0_read_a7 ws P t2)) = zk2 t2 := k2q_fX0_read_a7 ws P t2
theorem k2q_fX0_read_a8 (t2 : zSt) : zk2s (fX0_read_a8 t2) = zk2 t2 := by
  unfold fX0_read_a8
  (try dsimp only)
  all_goals (simp only [zW_2, zL_2, zk2s_mk]; done)
theorem k2_fX0_read_a8 (t2 : zSt) : zk2 (zsnd (fX0_read_a8 t2)) = zk2 t2 := k2q_fX0_read_a8 t2
theorem k2q_fX0_read (ws : Nat) (P : Nat) (s0 : zSt) : zk2s (fX0_read ws P s0) = zk2 s0 := by
  unfold fX0_read
  (try dsimp only)
  all_goals (refine ite_keep (fun r : Bool × zSt => zk2s r) _ _ ?_ ?_ <;> (simp only [zW_2, zL_2, k2_fX0_read_a7, k2_fX0_read_a8, k2_fX8_move, k2q_fX0_read_a7, k2q_fX0_read_a8, zk2s_mk]; done))
theorem k2_fX0_read (ws : Nat) (P : Nat) (s0 : zSt) : zk2 (zsnd (fX0_read ws P s0)) = zk2 s0 := k2q_fX0_read ws P s0
theorem i2_fX0_read (ws : Nat) (P : Nat) (s0 : zSt) (kk9 : Nat) : (zsnd (fX0_read ws P s0)).2.2 kk9 = s0.2.2 kk9 := z2_I (k2_fX0_read ws P s0) kk9
theorem i3_fX0_read (ws : Nat) (P : Nat) (s0 : zSt) (kk9 : Nat) : zi (zsnd (fX0_read ws P s0)) kk9 = zi s0 kk9 := zi_of (k2_fX0_read ws P s0) kk9

def fX0_write_a1 (t5 : zSt) : zSt :=
    t5
def fX0_write_a2 (ws : Nat) (t5 : zSt) : zSt :=
    let t9 := zW t5 ws 3 ((t5.1 ws 3) ||| ((-9223372036854775808 : Int64)))
    t9
def fX0_write (P : Nat) (ws : Nat) (s0 : zSt) : zSt :=
    let t1 := fX1_invert (P + 2) 75 s0
    let t2 := fX1_multiply (P + 0) 75 76 t1
    let t3 := fX1_multiply (P + 1) 75 77 t2
    let t4 := fX1_store 77 ws t3
    let t5 := zsnd (fX1_isOdd 76 t4)
    bif (zfst (fX1_isOdd 76 t4)) then
      fX0_write_a2 ws t5
    else
      fX0_write_a1 t5
set_option maxHeartbeats 4000000 in
set_option maxRecDepth 100000 in
theorem k_X0_write (l : Launch) (D : va_G) (kc : Nat → ClassId) (ad : Nat → Nat) (n : Nat) (hn : 84 ≤ n) (P : Nat) (hP : ptB P = true) (hPn : P + 4 < n) (ws : Nat) (hws : wa n 4 ws) (s0 : zSt) : zM l yX0_write cX0_write 3 none rX0_write (wX D kc ad n) [.ref (zad (wX D kc ad n) 83), .ref (zad (wX D kc ad n) (P + 4)), .ref (zad (wX D kc ad n) ws)] s0 (zV0 (fX0_write P ws s0)) := by
  refine z_of (own := RX0) (by decide +kernel) rfl (Nat.le_of_ble_eq_true rfl) ?_
  intro κ C R0
  refine j_at [(0, .ref (zad (wX D kc ad n) 83)), (1, .ref (zad (wX D kc ad n) (P + 4))), (2, .ref (zad (wX D kc ad n) ws))] ⟨rfl, rfl, rfl, trivial⟩ ?_
  refine j_aload_n C dX0_write_0 rfl rfl ?_
  refine j_getR C dX0_write_1 (fx_RX0_58 D kc ad n) (show 11 ≤ 83 by decide) (show 83 < n by omega) ?_
  refine j_aload_n C dX0_write_4 rfl rfl ?_
  refine j_getR C dX0_write_5 (fx_RX0_93 D kc ad n (P := P) hP) (pt_lo hP) (show P + 4 < n by omega) ?_
  refine j_aload_n C dX0_write_8 rfl rfl ?_
  refine j_getR C dX0_write_9 (fx_RX0_28 D kc ad n) (show 11 ≤ 83 by decide) (show 83 < n by omega) ?_
  refine j_callV0 (T := TX1) (N := 8) C dX0_write_12 (k_X1_invert l D kc ad n (by omega) (P + 2) (pt_wa2 (P := P) hP (by omega) : wa n 10 (P + 2)).1 75 (⟨⟨rfl, rfl, by omega, by decide⟩, by decide⟩ : wa n 10 75) _ ) zy_X1_invert mw_26_14 rfl rfl (show 11 ≤ 62 by decide) (show 62 < n by omega) rfl rfl (Nat.le_of_ble_eq_true rfl) ⟨rfl, rfl, Nat.le_of_ble_eq_true rfl, Nat.le_of_ble_eq_true rfl⟩ ?_
  refine j_nmS (fun t1 et1 => ?_)
  refine j_aload_n C dX0_write_15 rfl rfl ?_
  refine j_getR C dX0_write_16 (fx_RX0_58 D kc ad n) (show 11 ≤ 83 by decide) (show 83 < n by omega) ?_
  refine j_aload_n C dX0_write_19 rfl rfl ?_
  refine j_getR C dX0_write_20 (fx_RX0_80 D kc ad n (P := P) hP) (pt_lo hP) (show P + 4 < n by omega) ?_
  refine j_aload_n C dX0_write_23 rfl rfl ?_
  refine j_getR C dX0_write_24 (fx_RX0_28 D kc ad n) (show 11 ≤ 83 by decide) (show 83 < n by omega) ?_
  refine j_aload_n C dX0_write_27 rfl rfl ?_
  refine j_getR C dX0_write_28 (fx_RX0_31 D kc ad n) (show 11 ≤ 83 by decide) (show 83 < n by omega) ?_
  refine j_callV0 (T := TX1) (N := 8) C dX0_write_31 (k_X1_multiply l D kc ad n (by omega) (P + 0) (pt_wa0 (P := P) hP (by omega) : wa n 10 (P + 0)).1 75 (⟨⟨rfl, rfl, by omega, by decide⟩, by decide⟩ : wa n 10 75).1 76 (⟨⟨rfl, rfl, by omega, by decide⟩, by decide⟩ : wa n 10 76) _ ) zy_X1_multiply mw_6_18 rfl rfl (show 11 ≤ 62 by decide) (show 62 < n by omega) rfl rfl (Nat.le_of_ble_eq_true rfl) ⟨rfl, rfl, Nat.le_of_ble_eq_true rfl, Nat.le_of_ble_eq_true rfl⟩ ?_
  refine j_nmS (fun t2 et2 => ?_)
  refine j_aload_n C dX0_write_34 rfl rfl ?_
  refine j_getR C dX0_write_35 (fx_RX0_58 D kc ad n) (show 11 ≤ 83 by decide) (show 83 < n by omega) ?_
  refine j_aload_n C dX0_write_38 rfl rfl ?_
  refine j_getR C dX0_write_39 (fx_RX0_86 D kc ad n (P := P) hP) (pt_lo hP) (show P + 4 < n by omega) ?_
  refine j_aload_n C dX0_write_42 rfl rfl ?_
  refine j_getR C dX0_write_43 (fx_RX0_28 D kc ad n) (show 11 ≤ 83 by decide) (show 83 < n by omega) ?_
  refine j_aload_n C dX0_write_46 rfl rfl ?_
  refine j_getR C dX0_write_47 (fx_RX0_34 D kc ad n) (show 11 ≤ 83 by decide) (show 83 < n by omega) ?_
  refine j_callV0 (T := TX1) (N := 8) C dX0_write_50 (k_X1_multiply l D kc ad n (by omega) (P + 1) (pt_wa1 (P := P) hP (by omega) : wa n 10 (P + 1)).1 75 (⟨⟨rfl, rfl, by omega, by decide⟩, by decide⟩ : wa n 10 75).1 77 (⟨⟨rfl, rfl, by omega, by decide⟩, by decide⟩ : wa n 10 77) _ ) zy_X1_multiply mw_6_18 rfl rfl (show 11 ≤ 62 by decide) (show 62 < n by omega) rfl rfl (Nat.le_of_ble_eq_true rfl) ⟨rfl, rfl, Nat.le_of_ble_eq_true rfl, Nat.le_of_ble_eq_true rfl⟩ ?_
  refine j_nmS (fun t3 et3 => ?_)
  refine j_aload_n C dX0_write_53 rfl rfl ?_
  refine j_getR C dX0_write_54 (fx_RX0_58 D kc ad n) (show 11 ≤ 83 by decide) (show 83 < n by omega) ?_
  refine j_aload_n C dX0_write_57 rfl rfl ?_
  refine j_getR C dX0_write_58 (fx_RX0_34 D kc ad n) (show 11 ≤ 83 by decide) (show 83 < n by omega) ?_
  refine j_aload_n C dX0_write_61 rfl rfl ?_
  refine j_callV0 (T := TX1) (N := 8) C dX0_write_62 (k_X1_store l D kc ad n (by omega) 77 (⟨⟨rfl, rfl, by omega, by decide⟩, by decide⟩ : wa n 10 77).1 ws hws _ ) zy_X1_store mw_28_6 rfl rfl (show 11 ≤ 62 by decide) (show 62 < n by omega) rfl rfl (Nat.le_of_ble_eq_true rfl) ⟨rfl, rfl, Nat.le_of_ble_eq_true rfl, Nat.le_of_ble_eq_true rfl⟩ ?_
  refine j_nmS (fun t4 et4 => ?_)
  refine j_aload_n C dX0_write_65 rfl rfl ?_
  refine j_getR C dX0_write_66 (fx_RX0_58 D kc ad n) (show 11 ≤ 83 by decide) (show 83 < n by omega) ?_
  refine j_aload_n C dX0_write_69 rfl rfl ?_
  refine j_getR C dX0_write_70 (fx_RX0_31 D kc ad n) (show 11 ≤ 83 by decide) (show 83 < n by omega) ?_
  refine j_callV1 (T := TX1) (N := 8) C dX0_write_73 (k_X1_isOdd l D kc ad n (by omega) 76 (⟨⟨rfl, rfl, by omega, by decide⟩, by decide⟩ : wa n 10 76).1 _ ) zy_X1_isOdd mw_28_7 rfl rfl (show 11 ≤ 62 by decide) (show 62 < n by omega) rfl rfl (Nat.le_of_ble_eq_true rfl) ⟨rfl, rfl, Nat.le_of_ble_eq_true rfl, Nat.le_of_ble_eq_true rfl⟩ ?_
  refine j_nmS (fun t5 et5 => ?_)
  refine j_if_eqB (tgt := 88) C dX0_write_76 (by decide) (fun q6 => ?_) (fun q6 => ?_)
  · have hA7 : fX0_write P ws s0 = fX0_write_a1 t5 := by (try rw [et5]); (try rw [et4]); (try rw [et3]); (try rw [et2]); (try rw [et1]); have q6z := q6; (try rw [et5] at q6z); (try rw [et4] at q6z); (try rw [et3] at q6z); (try rw [et2] at q6z); (try rw [et1] at q6z); (try dsimp only at q6z); unfold fX0_write; (try dsimp only); rw [q6z, cond_false]; (try rfl)
    exact j_vret (st := []) C R0 dX0_write_88 ⟨rfl, (by rw [hA7]; unfold fX0_write_a1; (try dsimp only); all_goals ((try simp only [zfst_mk, zsnd_mk]); all_goals rfl))⟩
  · have hA8 : fX0_write P ws s0 = fX0_write_a2 ws t5 := by (try rw [et5]); (try rw [et4]); (try rw [et3]); (try rw [et2]); (try rw [et1]); have q6z := q6; (try rw [et5] at q6z); (try rw [et4] at q6z); (try rw [et3] at q6z); (try rw [et2] at q6z); (try rw [et1] at q6z); (try dsimp only at q6z); unfold fX0_write; (try dsimp only); rw [q6z, cond_true]; (try rfl)
    refine j_aload_n C dX0_write_79 rfl rfl ?_
    refine j_iconst (v := nI 3) C dX0_write_80 (by decide +kernel) ?_
    refine j_dup2 C dX0_write_81 rfl rfl ?_
    refine x_lald C dX0_write_82 hws.1 (by omega) ?_
    refine j_ldc2 C dX0_write_83 mw_28_5 ?_
    refine j_lor C dX0_write_86 ?_
    refine x_last C dX0_write_87 hws (by omega) ?_
    refine j_nmS (fun t9 et9 => ?_)
    exact j_vret (st := []) C R0 dX0_write_88 ⟨rfl, (by rw [hA8]; (try rw [et9]); unfold fX0_write_a2; (try dsimp only); all_goals ((try simp only [zfst_mk, zsnd_mk]); all_goals rfl))⟩
theorem k2_fX0_write_a1 (t5 : zSt) : zk2 (fX0_write_a1 t5) = zk2 t5 := by
  unfold fX0_write_a1
  (try dsimp only)
  all_goals (simp only [zW_2, zL_2]; done)
theorem k2_fX0_write_a2 (ws : Nat) (t5 : zSt) : zk2 (fX0_write_a2 ws t5) = zk2 t5 := by
  unfold fX0_write_a2
  (try dsimp only)
  all_goals (simp only [zW_2, zL_2]; done)
theorem k2_fX0_write (P : Nat) (ws : Nat) (s0 : zSt) : zk2 (fX0_write P ws s0) = zk2 s0 := by
  unfold fX0_write
  (try dsimp only)
  all_goals (refine cond_keep (fun r : zSt => zk2 r) _ ?_ ?_ <;> (simp only [zW_2, zL_2, k2_fX0_write_a1, k2_fX0_write_a2, k2_fX1_invert, k2_fX1_isOdd, k2_fX1_multiply, k2_fX1_store, k2q_fX1_isOdd]; done))
theorem i2_fX0_write (P : Nat) (ws : Nat) (s0 : zSt) (kk9 : Nat) : (fX0_write P ws s0).2.2 kk9 = s0.2.2 kk9 := z2_I (k2_fX0_write P ws s0) kk9
theorem i3_fX0_write (P : Nat) (ws : Nat) (s0 : zSt) (kk9 : Nat) : zi (fX0_write P ws s0) kk9 = zi s0 kk9 := zi_of (k2_fX0_write P ws s0) kk9

def fX0_negate (P : Nat) (s0 : zSt) : zSt :=
    let t1 := fX1_negate (P + 0) (P + 0) s0
    let t2 := fX1_negate (P + 3) (P + 3) t1
    t2
set_option maxHeartbeats 4000000 in
set_option maxRecDepth 100000 in
theorem k_X0_negate (l : Launch) (D : va_G) (kc : Nat → ClassId) (ad : Nat → Nat) (n : Nat) (hn : 84 ≤ n) (P : Nat) (hP : ptB P = true) (hPn : P + 4 < n) (s0 : zSt) : zM l yX0_negate cX0_negate 2 none rX0_negate (wX D kc ad n) [.ref (zad (wX D kc ad n) 83), .ref (zad (wX D kc ad n) (P + 4))] s0 (zV0 (fX0_negate P s0)) := by
  refine z_of (own := RX0) (by decide +kernel) rfl (Nat.le_of_ble_eq_true rfl) ?_
  intro κ C R0
  refine j_at [(0, .ref (zad (wX D kc ad n) 83)), (1, .ref (zad (wX D kc ad n) (P + 4)))] ⟨rfl, rfl, trivial⟩ ?_
  refine j_aload_n C dX0_negate_0 rfl rfl ?_
  refine j_getR C dX0_negate_1 (fx_RX0_58 D kc ad n) (show 11 ≤ 83 by decide) (show 83 < n by omega) ?_
  refine j_aload_n C dX0_negate_4 rfl rfl ?_
  refine j_getR C dX0_negate_5 (fx_RX0_80 D kc ad n (P := P) hP) (pt_lo hP) (show P + 4 < n by omega) ?_
  refine j_aload_n C dX0_negate_8 rfl rfl ?_
  refine j_getR C dX0_negate_9 (fx_RX0_80 D kc ad n (P := P) hP) (pt_lo hP) (show P + 4 < n by omega) ?_
  refine j_callV0 (T := TX1) (N := 8) C dX0_negate_12 (k_X1_negate l D kc ad n (by omega) (P + 0) (pt_wa0 (P := P) hP (by omega) : wa n 10 (P + 0)).1 (P + 0) (pt_wa0 (P := P) hP (by omega) : wa n 10 (P + 0)) _ ) zy_X1_negate mw_26_19 rfl rfl (show 11 ≤ 62 by decide) (show 62 < n by omega) rfl rfl (Nat.le_of_ble_eq_true rfl) ⟨rfl, rfl, Nat.le_of_ble_eq_true rfl, Nat.le_of_ble_eq_true rfl⟩ ?_
  refine j_nmS (fun t1 et1 => ?_)
  refine j_aload_n C dX0_negate_15 rfl rfl ?_
  refine j_getR C dX0_negate_16 (fx_RX0_58 D kc ad n) (show 11 ≤ 83 by decide) (show 83 < n by omega) ?_
  refine j_aload_n C dX0_negate_19 rfl rfl ?_
  refine j_getR C dX0_negate_20 (fx_RX0_96 D kc ad n (P := P) hP) (pt_lo hP) (show P + 4 < n by omega) ?_
  refine j_aload_n C dX0_negate_23 rfl rfl ?_
  refine j_getR C dX0_negate_24 (fx_RX0_96 D kc ad n (P := P) hP) (pt_lo hP) (show P + 4 < n by omega) ?_
  refine j_callV0 (T := TX1) (N := 8) C dX0_negate_27 (k_X1_negate l D kc ad n (by omega) (P + 3) (pt_wa3 (P := P) hP (by omega) : wa n 10 (P + 3)).1 (P + 3) (pt_wa3 (P := P) hP (by omega) : wa n 10 (P + 3)) _ ) zy_X1_negate mw_26_19 rfl rfl (show 11 ≤ 62 by decide) (show 62 < n by omega) rfl rfl (Nat.le_of_ble_eq_true rfl) ⟨rfl, rfl, Nat.le_of_ble_eq_true rfl, Nat.le_of_ble_eq_true rfl⟩ ?_
  refine j_nmS (fun t2 et2 => ?_)
  exact j_vret (st := []) C R0 dX0_negate_30 ⟨rfl, (by (try rw [et2]); (try rw [et1]); unfold fX0_negate; (try dsimp only); all_goals ((try simp only [zfst_mk, zsnd_mk]); all_goals rfl))⟩
theorem k2_fX0_negate (P : Nat) (s0 : zSt) : zk2 (fX0_negate P s0) = zk2 s0 := by
  unfold fX0_negate
  (try dsimp only)
  all_goals (simp only [zW_2, zL_2, k2_fX1_negate]; done)
theorem i2_fX0_negate (P : Nat) (s0 : zSt) (kk9 : Nat) : (fX0_negate P s0).2.2 kk9 = s0.2.2 kk9 := z2_I (k2_fX0_negate P s0) kk9
theorem i3_fX0_negate (P : Nat) (s0 : zSt) (kk9 : Nat) : zi (fX0_negate P s0) kk9 = zi s0 kk9 := zi_of (k2_fX0_negate P s0) kk9

def fX0_add (P : Nat) (Q : Nat) (S : Nat) (s0 : zSt) : zSt :=
    let t1 := fX1_subtract (P + 1) (P + 0) 78 s0
    let t2 := fX1_subtract (Q + 1) (Q + 0) 79 t1
    let t3 := fX1_multiply 78 79 75 t2
    let t4 := fX1_add (P + 1) (P + 0) 78 t3
    let t5 := fX1_add (Q + 1) (Q + 0) 79 t4
    let t6 := fX1_multiply 78 79 76 t5
    let t7 := fX1_multiply (P + 3) (Q + 3) 77 t6
    let t8 := fX1_multiply 77 74 77 t7
    let t9 := fX1_multiply (P + 2) (Q + 2) 80 t8
    let t10 := fX1_add 80 80 80 t9
    let t11 := fX1_subtract 76 75 78 t10
    let t12 := fX1_add 76 75 81 t11
    let t13 := fX1_subtract 80 77 79 t12
    let t14 := fX1_add 80 77 80 t13
    let t15 := fX1_multiply 78 79 (S + 0) t14
    let t16 := fX1_multiply 80 81 (S + 1) t15
    let t17 := fX1_multiply 79 80 (S + 2) t16
    let t18 := fX1_multiply 78 81 (S + 3) t17
    t18
set_option maxHeartbeats 4000000 in
set_option maxRecDepth 100000 in
theorem k_X0_add (l : Launch) (D : va_G) (kc : Nat → ClassId) (ad : Nat → Nat) (n : Nat) (hn : 84 ≤ n) (P : Nat) (hP : ptB P = true) (hPn : P + 4 < n) (Q : Nat) (hQ : ptB Q = true) (hQn : Q + 4 < n) (S : Nat) (hS : ptB S = true) (hSn : S + 4 < n) (s0 : zSt) : zM l yX0_add cX0_add 4 none rX0_add (wX D kc ad n) [.ref (zad (wX D kc ad n) 83), .ref (zad (wX D kc ad n) (P + 4)), .ref (zad (wX D kc ad n) (Q + 4)), .ref (zad (wX D kc ad n) (S + 4))] s0 (zV0 (fX0_add P Q S s0)) := by
  refine z_of (own := RX0) (by decide +kernel) rfl (Nat.le_of_ble_eq_true rfl) ?_
  intro κ C R0
  refine j_at [(0, .ref (zad (wX D kc ad n) 83)), (1, .ref (zad (wX D kc ad n) (P + 4))), (2, .ref (zad (wX D kc ad n) (Q + 4))), (3, .ref (zad (wX D kc ad n) (S + 4)))] ⟨rfl, rfl, rfl, rfl, trivial⟩ ?_
  refine j_aload_n C dX0_add_0 rfl rfl ?_
  refine j_getR C dX0_add_1 (fx_RX0_58 D kc ad n) (show 11 ≤ 83 by decide) (show 83 < n by omega) ?_
  refine j_aload_n C dX0_add_4 rfl rfl ?_
  refine j_getR C dX0_add_5 (fx_RX0_86 D kc ad n (P := P) hP) (pt_lo hP) (show P + 4 < n by omega) ?_
  refine j_aload_n C dX0_add_8 rfl rfl ?_
  refine j_getR C dX0_add_9 (fx_RX0_80 D kc ad n (P := P) hP) (pt_lo hP) (show P + 4 < n by omega) ?_
  refine j_aload_n C dX0_add_12 rfl rfl ?_
  refine j_getR C dX0_add_13 (fx_RX0_37 D kc ad n) (show 11 ≤ 83 by decide) (show 83 < n by omega) ?_
  refine j_callV0 (T := TX1) (N := 8) C dX0_add_16 (k_X1_subtract l D kc ad n (by omega) (P + 1) (pt_wa1 (P := P) hP (by omega) : wa n 10 (P + 1)).1 (P + 0) (pt_wa0 (P := P) hP (by omega) : wa n 10 (P + 0)).1 78 (⟨⟨rfl, rfl, by omega, by decide⟩, by decide⟩ : wa n 10 78) _ ) zy_X1_subtract mw_26_15 rfl rfl (show 11 ≤ 62 by decide) (show 62 < n by omega) rfl rfl (Nat.le_of_ble_eq_true rfl) ⟨rfl, rfl, Nat.le_of_ble_eq_true rfl, Nat.le_of_ble_eq_true rfl⟩ ?_
  refine j_nmS (fun t1 et1 => ?_)
  refine j_aload_n C dX0_add_19 rfl rfl ?_
  refine j_getR C dX0_add_20 (fx_RX0_58 D kc ad n) (show 11 ≤ 83 by decide) (show 83 < n by omega) ?_
  refine j_aload_n C dX0_add_23 rfl rfl ?_
  refine j_getR C dX0_add_24 (fx_RX0_86 D kc ad n (P := Q) hQ) (pt_lo hQ) (show Q + 4 < n by omega) ?_
  refine j_aload_n C dX0_add_27 rfl rfl ?_
  refine j_getR C dX0_add_28 (fx_RX0_80 D kc ad n (P := Q) hQ) (pt_lo hQ) (show Q + 4 < n by omega) ?_
  refine j_aload_n C dX0_add_31 rfl rfl ?_
  refine j_getR C dX0_add_32 (fx_RX0_40 D kc ad n) (show 11 ≤ 83 by decide) (show 83 < n by omega) ?_
  refine j_callV0 (T := TX1) (N := 8) C dX0_add_35 (k_X1_subtract l D kc ad n (by omega) (Q + 1) (pt_wa1 (P := Q) hQ (by omega) : wa n 10 (Q + 1)).1 (Q + 0) (pt_wa0 (P := Q) hQ (by omega) : wa n 10 (Q + 0)).1 79 (⟨⟨rfl, rfl, by omega, by decide⟩, by decide⟩ : wa n 10 79) _ ) zy_X1_subtract mw_26_15 rfl rfl (show 11 ≤ 62 by decide) (show 62 < n by omega) rfl rfl (Nat.le_of_ble_eq_true rfl) ⟨rfl, rfl, Nat.le_of_ble_eq_true rfl, Nat.le_of_ble_eq_true rfl⟩ ?_
  refine j_nmS (fun t2 et2 => ?_)
  refine j_aload_n C dX0_add_38 rfl rfl ?_
  refine j_getR C dX0_add_39 (fx_RX0_58 D kc ad n) (show 11 ≤ 83 by decide) (show 83 < n by omega) ?_
  refine j_aload_n C dX0_add_42 rfl rfl ?_
  refine j_getR C dX0_add_43 (fx_RX0_37 D kc ad n) (show 11 ≤ 83 by decide) (show 83 < n by omega) ?_
  refine j_aload_n C dX0_add_46 rfl rfl ?_
  refine j_getR C dX0_add_47 (fx_RX0_40 D kc ad n) (show 11 ≤ 83 by decide) (show 83 < n by omega) ?_
  refine j_aload_n C dX0_add_50 rfl rfl ?_
  refine j_getR C dX0_add_51 (fx_RX0_28 D kc ad n) (show 11 ≤ 83 by decide) (show 83 < n by omega) ?_
  refine j_callV0 (T := TX1) (N := 8) C dX0_add_54 (k_X1_multiply l D kc ad n (by omega) 78 (⟨⟨rfl, rfl, by omega, by decide⟩, by decide⟩ : wa n 10 78).1 79 (⟨⟨rfl, rfl, by omega, by decide⟩, by decide⟩ : wa n 10 79).1 75 (⟨⟨rfl, rfl, by omega, by decide⟩, by decide⟩ : wa n 10 75) _ ) zy_X1_multiply mw_6_18 rfl rfl (show 11 ≤ 62 by decide) (show 62 < n by omega) rfl rfl (Nat.le_of_ble_eq_true rfl) ⟨rfl, rfl, Nat.le_of_ble_eq_true rfl, Nat.le_of_ble_eq_true rfl⟩ ?_
  refine j_nmS (fun t3 et3 => ?_)
  refine j_aload_n C dX0_add_57 rfl rfl ?_
  refine j_getR C dX0_add_58 (fx_RX0_58 D kc ad n) (show 11 ≤ 83 by decide) (show 83 < n by omega) ?_
  refine j_aload_n C dX0_add_61 rfl rfl ?_
  refine j_getR C dX0_add_62 (fx_RX0_86 D kc ad n (P := P) hP) (pt_lo hP) (show P + 4 < n by omega) ?_
  refine j_aload_n C dX0_add_65 rfl rfl ?_
  refine j_getR C dX0_add_66 (fx_RX0_80 D kc ad n (P := P) hP) (pt_lo hP) (show P + 4 < n by omega) ?_
  refine j_aload_n C dX0_add_69 rfl rfl ?_
  refine j_getR C dX0_add_70 (fx_RX0_37 D kc ad n) (show 11 ≤ 83 by decide) (show 83 < n by omega) ?_
  refine j_callV0 (T := TX1) (N := 8) C dX0_add_73 (k_X1_add l D kc ad n (by omega) (P + 1) (pt_wa1 (P := P) hP (by omega) : wa n 10 (P + 1)).1 (P + 0) (pt_wa0 (P := P) hP (by omega) : wa n 10 (P + 0)).1 78 (⟨⟨rfl, rfl, by omega, by decide⟩, by decide⟩ : wa n 10 78) _ ) zy_X1_add mw_6_8 rfl rfl (show 11 ≤ 62 by decide) (show 62 < n by omega) rfl rfl (Nat.le_of_ble_eq_true rfl) ⟨rfl, rfl, Nat.le_of_ble_eq_true rfl, Nat.le_of_ble_eq_true rfl⟩ ?_
  refine j_nmS (fun t4 et4 => ?_)
  refine j_aload_n C dX0_add_76 rfl rfl ?_
  refine j_getR C dX0_add_77 (fx_RX0_58 D kc ad n) (show 11 ≤ 83 by decide) (show 83 < n by omega) ?_
  refine j_aload_n C dX0_add_80 rfl rfl ?_
  refine j_getR C dX0_add_81 (fx_RX0_86 D kc ad n (P := Q) hQ) (pt_lo hQ) (show Q + 4 < n by omega) ?_
  refine j_aload_n C dX0_add_84 rfl rfl ?_
  refine j_getR C dX0_add_85 (fx_RX0_80 D kc ad n (P := Q) hQ) (pt_lo hQ) (show Q + 4 < n by omega) ?_
  refine j_aload_n C dX0_add_88 rfl rfl ?_
  refine j_getR C dX0_add_89 (fx_RX0_40 D kc ad n) (show 11 ≤ 83 by decide) (show 83 < n by omega) ?_
  refine j_callV0 (T := TX1) (N := 8) C dX0_add_92 (k_X1_add l D kc ad n (by omega) (Q + 1) (pt_wa1 (P := Q) hQ (by omega) : wa n 10 (Q + 1)).1 (Q + 0) (pt_wa0 (P := Q) hQ (by omega) : wa n 10 (Q + 0)).1 79 (⟨⟨rfl, rfl, by omega, by decide⟩, by decide⟩ : wa n 10 79) _ ) zy_X1_add mw_6_8 rfl rfl (show 11 ≤ 62 by decide) (show 62 < n by omega) rfl rfl (Nat.le_of_ble_eq_true rfl) ⟨rfl, rfl, Nat.le_of_ble_eq_true rfl, Nat.le_of_ble_eq_true rfl⟩ ?_
  refine j_nmS (fun t5 et5 => ?_)
  refine j_aload_n C dX0_add_95 rfl rfl ?_
  refine j_getR C dX0_add_96 (fx_RX0_58 D kc ad n) (show 11 ≤ 83 by decide) (show 83 < n by omega) ?_
  refine j_aload_n C dX0_add_99 rfl rfl ?_
  refine j_getR C dX0_add_100 (fx_RX0_37 D kc ad n) (show 11 ≤ 83 by decide) (show 83 < n by omega) ?_
  refine j_aload_n C dX0_add_103 rfl rfl ?_
  refine j_getR C dX0_add_104 (fx_RX0_40 D kc ad n) (show 11 ≤ 83 by decide) (show 83 < n by omega) ?_
  refine j_aload_n C dX0_add_107 rfl rfl ?_
  refine j_getR C dX0_add_108 (fx_RX0_31 D kc ad n) (show 11 ≤ 83 by decide) (show 83 < n by omega) ?_
  refine j_callV0 (T := TX1) (N := 8) C dX0_add_111 (k_X1_multiply l D kc ad n (by omega) 78 (⟨⟨rfl, rfl, by omega, by decide⟩, by decide⟩ : wa n 10 78).1 79 (⟨⟨rfl, rfl, by omega, by decide⟩, by decide⟩ : wa n 10 79).1 76 (⟨⟨rfl, rfl, by omega, by decide⟩, by decide⟩ : wa n 10 76) _ ) zy_X1_multiply mw_6_18 rfl rfl (show 11 ≤ 62 by decide) (show 62 < n by omega) rfl rfl (Nat.le_of_ble_eq_true rfl) ⟨rfl, rfl, Nat.le_of_ble_eq_true rfl, Nat.le_of_ble_eq_true rfl⟩ ?_
  refine j_nmS (fun t6 et6 => ?_)
  refine j_aload_n C dX0_add_114 rfl rfl ?_
  refine j_getR C dX0_add_115 (fx_RX0_58 D kc ad n) (show 11 ≤ 83 by decide) (show 83 < n by omega) ?_
  refine j_aload_n C dX0_add_118 rfl rfl ?_
  refine j_getR C dX0_add_119 (fx_RX0_96 D kc ad n (P := P) hP) (pt_lo hP) (show P + 4 < n by omega) ?_
  refine j_aload_n C dX0_add_122 rfl rfl ?_
  refine j_getR C dX0_add_123 (fx_RX0_96 D kc ad n (P := Q) hQ) (pt_lo hQ) (show Q + 4 < n by omega) ?_
  refine j_aload_n C dX0_add_126 rfl rfl ?_
  refine j_getR C dX0_add_127 (fx_RX0_34 D kc ad n) (show 11 ≤ 83 by decide) (show 83 < n by omega) ?_
  refine j_callV0 (T := TX1) (N := 8) C dX0_add_130 (k_X1_multiply l D kc ad n (by omega) (P + 3) (pt_wa3 (P := P) hP (by omega) : wa n 10 (P + 3)).1 (Q + 3) (pt_wa3 (P := Q) hQ (by omega) : wa n 10 (Q + 3)).1 77 (⟨⟨rfl, rfl, by omega, by decide⟩, by decide⟩ : wa n 10 77) _ ) zy_X1_multiply mw_6_18 rfl rfl (show 11 ≤ 62 by decide) (show 62 < n by omega) rfl rfl (Nat.le_of_ble_eq_true rfl) ⟨rfl, rfl, Nat.le_of_ble_eq_true rfl, Nat.le_of_ble_eq_true rfl⟩ ?_
  refine j_nmS (fun t7 et7 => ?_)
  refine j_aload_n C dX0_add_133 rfl rfl ?_
  refine j_getR C dX0_add_134 (fx_RX0_58 D kc ad n) (show 11 ≤ 83 by decide) (show 83 < n by omega) ?_
  refine j_aload_n C dX0_add_137 rfl rfl ?_
  refine j_getR C dX0_add_138 (fx_RX0_34 D kc ad n) (show 11 ≤ 83 by decide) (show 83 < n by omega) ?_
  refine j_aload_n C dX0_add_141 rfl rfl ?_
  refine j_getR C dX0_add_142 (fx_RX0_25 D kc ad n) (show 11 ≤ 83 by decide) (show 83 < n by omega) ?_
  refine j_aload_n C dX0_add_145 rfl rfl ?_
  refine j_getR C dX0_add_146 (fx_RX0_34 D kc ad n) (show 11 ≤ 83 by decide) (show 83 < n by omega) ?_
  refine j_callV0 (T := TX1) (N := 8) C dX0_add_149 (k_X1_multiply l D kc ad n (by omega) 77 (⟨⟨rfl, rfl, by omega, by decide⟩, by decide⟩ : wa n 10 77).1 74 (⟨⟨rfl, rfl, by omega, by decide⟩, by decide⟩ : wa n 10 74).1 77 (⟨⟨rfl, rfl, by omega, by decide⟩, by decide⟩ : wa n 10 77) _ ) zy_X1_multiply mw_6_18 rfl rfl (show 11 ≤ 62 by decide) (show 62 < n by omega) rfl rfl (Nat.le_of_ble_eq_true rfl) ⟨rfl, rfl, Nat.le_of_ble_eq_true rfl, Nat.le_of_ble_eq_true rfl⟩ ?_
  refine j_nmS (fun t8 et8 => ?_)
  refine j_aload_n C dX0_add_152 rfl rfl ?_
  refine j_getR C dX0_add_153 (fx_RX0_58 D kc ad n) (show 11 ≤ 83 by decide) (show 83 < n by omega) ?_
  refine j_aload_n C dX0_add_156 rfl rfl ?_
  refine j_getR C dX0_add_157 (fx_RX0_93 D kc ad n (P := P) hP) (pt_lo hP) (show P + 4 < n by omega) ?_
  refine j_aload_n C dX0_add_160 rfl rfl ?_
  refine j_getR C dX0_add_161 (fx_RX0_93 D kc ad n (P := Q) hQ) (pt_lo hQ) (show Q + 4 < n by omega) ?_
  refine j_aload_n C dX0_add_164 rfl rfl ?_
  refine j_getR C dX0_add_165 (fx_RX0_43 D kc ad n) (show 11 ≤ 83 by decide) (show 83 < n by omega) ?_
  refine j_callV0 (T := TX1) (N := 8) C dX0_add_168 (k_X1_multiply l D kc ad n (by omega) (P + 2) (pt_wa2 (P := P) hP (by omega) : wa n 10 (P + 2)).1 (Q + 2) (pt_wa2 (P := Q) hQ (by omega) : wa n 10 (Q + 2)).1 80 (⟨⟨rfl, rfl, by omega, by decide⟩, by decide⟩ : wa n 10 80) _ ) zy_X1_multiply mw_6_18 rfl rfl (show 11 ≤ 62 by decide) (show 62 < n by omega) rfl rfl (Nat.le_of_ble_eq_true rfl) ⟨rfl, rfl, Nat.le_of_ble_eq_true rfl, Nat.le_of_ble_eq_true rfl⟩ ?_
  refine j_nmS (fun t9 et9 => ?_)
  refine j_aload_n C dX0_add_171 rfl rfl ?_
  refine j_getR C dX0_add_172 (fx_RX0_58 D kc ad n) (show 11 ≤ 83 by decide) (show 83 < n by omega) ?_
  refine j_aload_n C dX0_add_175 rfl rfl ?_
  refine j_getR C dX0_add_176 (fx_RX0_43 D kc ad n) (show 11 ≤ 83 by decide) (show 83 < n by omega) ?_
  refine j_aload_n C dX0_add_179 rfl rfl ?_
  refine j_getR C dX0_add_180 (fx_RX0_43 D kc ad n) (show 11 ≤ 83 by decide) (show 83 < n by omega) ?_
  refine j_aload_n C dX0_add_183 rfl rfl ?_
  refine j_getR C dX0_add_184 (fx_RX0_43 D kc ad n) (show 11 ≤ 83 by decide) (show 83 < n by omega) ?_
  refine j_callV0 (T := TX1) (N := 8) C dX0_add_187 (k_X1_add l D kc ad n (by omega) 80 (⟨⟨rfl, rfl, by omega, by decide⟩, by decide⟩ : wa n 10 80).1 80 (⟨⟨rfl, rfl, by omega, by decide⟩, by decide⟩ : wa n 10 80).1 80 (⟨⟨rfl, rfl, by omega, by decide⟩, by decide⟩ : wa n 10 80) _ ) zy_X1_add mw_6_8 rfl rfl (show 11 ≤ 62 by decide) (show 62 < n by omega) rfl rfl (Nat.le_of_ble_eq_true rfl) ⟨rfl, rfl, Nat.le_of_ble_eq_true rfl, Nat.le_of_ble_eq_true rfl⟩ ?_
  refine j_nmS (fun t10 et10 => ?_)
  refine j_aload_n C dX0_add_190 rfl rfl ?_
  refine j_getR C dX0_add_191 (fx_RX0_58 D kc ad n) (show 11 ≤ 83 by decide) (show 83 < n by omega) ?_
  refine j_aload_n C dX0_add_194 rfl rfl ?_
  refine j_getR C dX0_add_195 (fx_RX0_31 D kc ad n) (show 11 ≤ 83 by decide) (show 83 < n by omega) ?_
  refine j_aload_n C dX0_add_198 rfl rfl ?_
  refine j_getR C dX0_add_199 (fx_RX0_28 D kc ad n) (show 11 ≤ 83 by decide) (show 83 < n by omega) ?_
  refine j_aload_n C dX0_add_202 rfl rfl ?_
  refine j_getR C dX0_add_203 (fx_RX0_37 D kc ad n) (show 11 ≤ 83 by decide) (show 83 < n by omega) ?_
  refine j_callV0 (T := TX1) (N := 8) C dX0_add_206 (k_X1_subtract l D kc ad n (by omega) 76 (⟨⟨rfl, rfl, by omega, by decide⟩, by decide⟩ : wa n 10 76).1 75 (⟨⟨rfl, rfl, by omega, by decide⟩, by decide⟩ : wa n 10 75).1 78 (⟨⟨rfl, rfl, by omega, by decide⟩, by decide⟩ : wa n 10 78) _ ) zy_X1_subtract mw_26_15 rfl rfl (show 11 ≤ 62 by decide) (show 62 < n by omega) rfl rfl (Nat.le_of_ble_eq_true rfl) ⟨rfl, rfl, Nat.le_of_ble_eq_true rfl, Nat.le_of_ble_eq_true rfl⟩ ?_
  refine j_nmS (fun t11 et11 => ?_)
  refine j_aload_n C dX0_add_209 rfl rfl ?_
  refine j_getR C dX0_add_210 (fx_RX0_58 D kc ad n) (show 11 ≤ 83 by decide) (show 83 < n by omega) ?_
  refine j_aload_n C dX0_add_213 rfl rfl ?_
  refine j_getR C dX0_add_214 (fx_RX0_31 D kc ad n) (show 11 ≤ 83 by decide) (show 83 < n by omega) ?_
  refine j_aload_n C dX0_add_217 rfl rfl ?_
  refine j_getR C dX0_add_218 (fx_RX0_28 D kc ad n) (show 11 ≤ 83 by decide) (show 83 < n by omega) ?_
  refine j_aload_n C dX0_add_221 rfl rfl ?_
  refine j_getR C dX0_add_222 (fx_RX0_46 D kc ad n) (show 11 ≤ 83 by decide) (show 83 < n by omega) ?_
  refine j_callV0 (T := TX1) (N := 8) C dX0_add_225 (k_X1_add l D kc ad n (by omega) 76 (⟨⟨rfl, rfl, by omega, by decide⟩, by decide⟩ : wa n 10 76).1 75 (⟨⟨rfl, rfl, by omega, by decide⟩, by decide⟩ : wa n 10 75).1 81 (⟨⟨rfl, rfl, by omega, by decide⟩, by decide⟩ : wa n 10 81) _ ) zy_X1_add mw_6_8 rfl rfl (show 11 ≤ 62 by decide) (show 62 < n by omega) rfl rfl (Nat.le_of_ble_eq_true rfl) ⟨rfl, rfl, Nat.le_of_ble_eq_true rfl, Nat.le_of_ble_eq_true rfl⟩ ?_
  refine j_nmS (fun t12 et12 => ?_)
  refine j_aload_n C dX0_add_228 rfl rfl ?_
  refine j_getR C dX0_add_229 (fx_RX0_58 D kc ad n) (show 11 ≤ 83 by decide) (show 83 < n by omega) ?_
  refine j_aload_n C dX0_add_232 rfl rfl ?_
  refine j_getR C dX0_add_233 (fx_RX0_43 D kc ad n) (show 11 ≤ 83 by decide) (show 83 < n by omega) ?_
  refine j_aload_n C dX0_add_236 rfl rfl ?_
  refine j_getR C dX0_add_237 (fx_RX0_34 D kc ad n) (show 11 ≤ 83 by decide) (show 83 < n by omega) ?_
  refine j_aload_n C dX0_add_240 rfl rfl ?_
  refine j_getR C dX0_add_241 (fx_RX0_40 D kc ad n) (show 11 ≤ 83 by decide) (show 83 < n by omega) ?_
  refine j_callV0 (T := TX1) (N := 8) C dX0_add_244 (k_X1_subtract l D kc ad n (by omega) 80 (⟨⟨rfl, rfl, by omega, by decide⟩, by decide⟩ : wa n 10 80).1 77 (⟨⟨rfl, rfl, by omega, by decide⟩, by decide⟩ : wa n 10 77).1 79 (⟨⟨rfl, rfl, by omega, by decide⟩, by decide⟩ : wa n 10 79) _ ) zy_X1_subtract mw_26_15 rfl rfl (show 11 ≤ 62 by decide) (show 62 < n by omega) rfl rfl (Nat.le_of_ble_eq_true rfl) ⟨rfl, rfl, Nat.le_of_ble_eq_true rfl, Nat.le_of_ble_eq_true rfl⟩ ?_
  refine j_nmS (fun t13 et13 => ?_)
  refine j_aload_n C dX0_add_247 rfl rfl ?_
  refine j_getR C dX0_add_248 (fx_RX0_58 D kc ad n) (show 11 ≤ 83 by decide) (show 83 < n by omega) ?_
  refine j_aload_n C dX0_add_251 rfl rfl ?_
  refine j_getR C dX0_add_252 (fx_RX0_43 D kc ad n) (show 11 ≤ 83 by decide) (show 83 < n by omega) ?_
  refine j_aload_n C dX0_add_255 rfl rfl ?_
  refine j_getR C dX0_add_256 (fx_RX0_34 D kc ad n) (show 11 ≤ 83 by decide) (show 83 < n by omega) ?_
  refine j_aload_n C dX0_add_259 rfl rfl ?_
  refine j_getR C dX0_add_260 (fx_RX0_43 D kc ad n) (show 11 ≤ 83 by decide) (show 83 < n by omega) ?_
  refine j_callV0 (T := TX1) (N := 8) C dX0_add_263 (k_X1_add l D kc ad n (by omega) 80 (⟨⟨rfl, rfl, by omega, by decide⟩, by decide⟩ : wa n 10 80).1 77 (⟨⟨rfl, rfl, by omega, by decide⟩, by decide⟩ : wa n 10 77).1 80 (⟨⟨rfl, rfl, by omega, by decide⟩, by decide⟩ : wa n 10 80) _ ) zy_X1_add mw_6_8 rfl rfl (show 11 ≤ 62 by decide) (show 62 < n by omega) rfl rfl (Nat.le_of_ble_eq_true rfl) ⟨rfl, rfl, Nat.le_of_ble_eq_true rfl, Nat.le_of_ble_eq_true rfl⟩ ?_
  refine j_nmS (fun t14 et14 => ?_)
  refine j_aload_n C dX0_add_266 rfl rfl ?_
  refine j_getR C dX0_add_267 (fx_RX0_58 D kc ad n) (show 11 ≤ 83 by decide) (show 83 < n by omega) ?_
  refine j_aload_n C dX0_add_270 rfl rfl ?_
  refine j_getR C dX0_add_271 (fx_RX0_37 D kc ad n) (show 11 ≤ 83 by decide) (show 83 < n by omega) ?_
  refine j_aload_n C dX0_add_274 rfl rfl ?_
  refine j_getR C dX0_add_275 (fx_RX0_40 D kc ad n) (show 11 ≤ 83 by decide) (show 83 < n by omega) ?_
  refine j_aload_n C dX0_add_278 rfl rfl ?_
  refine j_getR C dX0_add_279 (fx_RX0_80 D kc ad n (P := S) hS) (pt_lo hS) (show S + 4 < n by omega) ?_
  refine j_callV0 (T := TX1) (N := 8) C dX0_add_282 (k_X1_multiply l D kc ad n (by omega) 78 (⟨⟨rfl, rfl, by omega, by decide⟩, by decide⟩ : wa n 10 78).1 79 (⟨⟨rfl, rfl, by omega, by decide⟩, by decide⟩ : wa n 10 79).1 (S + 0) (pt_wa0 (P := S) hS (by omega) : wa n 10 (S + 0)) _ ) zy_X1_multiply mw_6_18 rfl rfl (show 11 ≤ 62 by decide) (show 62 < n by omega) rfl rfl (Nat.le_of_ble_eq_true rfl) ⟨rfl, rfl, Nat.le_of_ble_eq_true rfl, Nat.le_of_ble_eq_true rfl⟩ ?_
  refine j_nmS (fun t15 et15 => ?_)
  refine j_aload_n C dX0_add_285 rfl rfl ?_
  refine j_getR C dX0_add_286 (fx_RX0_58 D kc ad n) (show 11 ≤ 83 by decide) (show 83 < n by omega) ?_
  refine j_aload_n C dX0_add_289 rfl rfl ?_
  refine j_getR C dX0_add_290 (fx_RX0_43 D kc ad n) (show 11 ≤ 83 by decide) (show 83 < n by omega) ?_
  refine j_aload_n C dX0_add_293 rfl rfl ?_
  refine j_getR C dX0_add_294 (fx_RX0_46 D kc ad n) (show 11 ≤ 83 by decide) (show 83 < n by omega) ?_
  refine j_aload_n C dX0_add_297 rfl rfl ?_
  refine j_getR C dX0_add_298 (fx_RX0_86 D kc ad n (P := S) hS) (pt_lo hS) (show S + 4 < n by omega) ?_
  refine j_callV0 (T := TX1) (N := 8) C dX0_add_301 (k_X1_multiply l D kc ad n (by omega) 80 (⟨⟨rfl, rfl, by omega, by decide⟩, by decide⟩ : wa n 10 80).1 81 (⟨⟨rfl, rfl, by omega, by decide⟩, by decide⟩ : wa n 10 81).1 (S + 1) (pt_wa1 (P := S) hS (by omega) : wa n 10 (S + 1)) _ ) zy_X1_multiply mw_6_18 rfl rfl (show 11 ≤ 62 by decide) (show 62 < n by omega) rfl rfl (Nat.le_of_ble_eq_true rfl) ⟨rfl, rfl, Nat.le_of_ble_eq_true rfl, Nat.le_of_ble_eq_true rfl⟩ ?_
  refine j_nmS (fun t16 et16 => ?_)
  refine j_aload_n C dX0_add_304 rfl rfl ?_
  refine j_getR C dX0_add_305 (fx_RX0_58 D kc ad n) (show 11 ≤ 83 by decide) (show 83 < n by omega) ?_
  refine j_aload_n C dX0_add_308 rfl rfl ?_
  refine j_getR C dX0_add_309 (fx_RX0_40 D kc ad n) (show 11 ≤ 83 by decide) (show 83 < n by omega) ?_
  refine j_aload_n C dX0_add_312 rfl rfl ?_
  refine j_getR C dX0_add_313 (fx_RX0_43 D kc ad n) (show 11 ≤ 83 by decide) (show 83 < n by omega) ?_
  refine j_aload_n C dX0_add_316 rfl rfl ?_
  refine j_getR C dX0_add_317 (fx_RX0_93 D kc ad n (P := S) hS) (pt_lo hS) (show S + 4 < n by omega) ?_
  refine j_callV0 (T := TX1) (N := 8) C dX0_add_320 (k_X1_multiply l D kc ad n (by omega) 79 (⟨⟨rfl, rfl, by omega, by decide⟩, by decide⟩ : wa n 10 79).1 80 (⟨⟨rfl, rfl, by omega, by decide⟩, by decide⟩ : wa n 10 80).1 (S + 2) (pt_wa2 (P := S) hS (by omega) : wa n 10 (S + 2)) _ ) zy_X1_multiply mw_6_18 rfl rfl (show 11 ≤ 62 by decide) (show 62 < n by omega) rfl rfl (Nat.le_of_ble_eq_true rfl) ⟨rfl, rfl, Nat.le_of_ble_eq_true rfl, Nat.le_of_ble_eq_true rfl⟩ ?_
  refine j_nmS (fun t17 et17 => ?_)
  refine j_aload_n C dX0_add_323 rfl rfl ?_
  refine j_getR C dX0_add_324 (fx_RX0_58 D kc ad n) (show 11 ≤ 83 by decide) (show 83 < n by omega) ?_
  refine j_aload_n C dX0_add_327 rfl rfl ?_
  refine j_getR C dX0_add_328 (fx_RX0_37 D kc ad n) (show 11 ≤ 83 by decide) (show 83 < n by omega) ?_
  refine j_aload_n C dX0_add_331 rfl rfl ?_
  refine j_getR C dX0_add_332 (fx_RX0_46 D kc ad n) (show 11 ≤ 83 by decide) (show 83 < n by omega) ?_
  refine j_aload_n C dX0_add_335 rfl rfl ?_
  refine j_getR C dX0_add_336 (fx_RX0_96 D kc ad n (P := S) hS) (pt_lo hS) (show S + 4 < n by omega) ?_
  refine j_callV0 (T := TX1) (N := 8) C dX0_add_339 (k_X1_multiply l D kc ad n (by omega) 78 (⟨⟨rfl, rfl, by omega, by decide⟩, by decide⟩ : wa n 10 78).1 81 (⟨⟨rfl, rfl, by omega, by decide⟩, by decide⟩ : wa n 10 81).1 (S + 3) (pt_wa3 (P := S) hS (by omega) : wa n 10 (S + 3)) _ ) zy_X1_multiply mw_6_18 rfl rfl (show 11 ≤ 62 by decide) (show 62 < n by omega) rfl rfl (Nat.le_of_ble_eq_true rfl) ⟨rfl, rfl, Nat.le_of_ble_eq_true rfl, Nat.le_of_ble_eq_true rfl⟩ ?_
  refine j_nmS (fun t18 et18 => ?_)
  exact j_vret (st := []) C R0 dX0_add_342 ⟨rfl, (by (try rw [et18]); (try rw [et17]); (try rw [et16]); (try rw [et15]); (try rw [et14]); (try rw [et13]); (try rw [et12]); (try rw [et11]); (try rw [et10]); (try rw [et9]); (try rw [et8]); (try rw [et7]); (try rw [et6]); (try rw [et5]); (try rw [et4]); (try rw [et3]); (try rw [et2]); (try rw [et1]); unfold fX0_add; (try dsimp only); all_goals ((try simp only [zfst_mk, zsnd_mk]); all_goals rfl))⟩
theorem k2_fX0_add (P : Nat) (Q : Nat) (S : Nat) (s0 : zSt) : zk2 (fX0_add P Q S s0) = zk2 s0 := by
  unfold fX0_add
  (try dsimp only)
  all_goals (simp only [zW_2, zL_2, k2_fX1_add, k2_fX1_multiply, k2_fX1_subtract]; done)
theorem i2_fX0_add (P : Nat) (Q : Nat) (S : Nat) (s0 : zSt) (kk9 : Nat) : (fX0_add P Q S s0).2.2 kk9 = s0.2.2 kk9 := z2_I (k2_fX0_add P Q S s0) kk9
theorem i3_fX0_add (P : Nat) (Q : Nat) (S : Nat) (s0 : zSt) (kk9 : Nat) : zi (fX0_add P Q S s0) kk9 = zi s0 kk9 := zi_of (k2_fX0_add P Q S s0) kk9

def fX0_twice (P : Nat) (S : Nat) (s0 : zSt) : zSt :=
    let t1 := fX1_add (P + 0) (P + 1) 78 s0
    let t2 := fX1_square 78 78 t1
    let t3 := fX1_square (P + 0) 75 t2
    let t4 := fX1_square (P + 1) 76 t3
    let t5 := fX1_square (P + 2) 77 t4
    let t6 := fX1_add 77 77 77 t5
    let t7 := fX1_add 75 76 81 t6
    let t8 := fX1_subtract 81 78 78 t7
    let t9 := fX1_subtract 75 76 80 t8
    let t10 := fX1_add 77 80 79 t9
    let t11 := fX1_multiply 78 79 (S + 0) t10
    let t12 := fX1_multiply 80 81 (S + 1) t11
    let t13 := fX1_multiply 79 80 (S + 2) t12
    let t14 := fX1_multiply 78 81 (S + 3) t13
    t14
set_option maxHeartbeats 4000000 in
set_option maxRecDepth 100000 in
theorem k_X0_twice (l : Launch) (D : va_G) (kc : Nat → ClassId) (ad : Nat → Nat) (n : Nat) (hn : 84 ≤ n) (P : Nat) (hP : ptB P = true) (hPn : P + 4 < n) (S : Nat) (hS : ptB S = true) (hSn : S + 4 < n) (s0 : zSt) : zM l yX0_twice cX0_twice 3 none rX0_twice (wX D kc ad n) [.ref (zad (wX D kc ad n) 83), .ref (zad (wX D kc ad n) (P + 4)), .ref (zad (wX D kc ad n) (S + 4))] s0 (zV0 (fX0_twice P S s0)) := by
  refine z_of (own := RX0) (by decide +kernel) rfl (Nat.le_of_ble_eq_true rfl) ?_
  intro κ C R0
  refine j_at [(0, .ref (zad (wX D kc ad n) 83)), (1, .ref (zad (wX D kc ad n) (P + 4))), (2, .ref (zad (wX D kc ad n) (S + 4)))] ⟨rfl, rfl, rfl, trivial⟩ ?_
  refine j_aload_n C dX0_twice_0 rfl rfl ?_
  refine j_getR C dX0_twice_1 (fx_RX0_58 D kc ad n) (show 11 ≤ 83 by decide) (show 83 < n by omega) ?_
  refine j_aload_n C dX0_twice_4 rfl rfl ?_
  refine j_getR C dX0_twice_5 (fx_RX0_80 D kc ad n (P := P) hP) (pt_lo hP) (show P + 4 < n by omega) ?_
  refine j_aload_n C dX0_twice_8 rfl rfl ?_
  refine j_getR C dX0_twice_9 (fx_RX0_86 D kc ad n (P := P) hP) (pt_lo hP) (show P + 4 < n by omega) ?_
  refine j_aload_n C dX0_twice_12 rfl rfl ?_
  refine j_getR C dX0_twice_13 (fx_RX0_37 D kc ad n) (show 11 ≤ 83 by decide) (show 83 < n by omega) ?_
  refine j_callV0 (T := TX1) (N := 8) C dX0_twice_16 (k_X1_add l D kc ad n (by omega) (P + 0) (pt_wa0 (P := P) hP (by omega) : wa n 10 (P + 0)).1 (P + 1) (pt_wa1 (P := P) hP (by omega) : wa n 10 (P + 1)).1 78 (⟨⟨rfl, rfl, by omega, by decide⟩, by decide⟩ : wa n 10 78) _ ) zy_X1_add mw_6_8 rfl rfl (show 11 ≤ 62 by decide) (show 62 < n by omega) rfl rfl (Nat.le_of_ble_eq_true rfl) ⟨rfl, rfl, Nat.le_of_ble_eq_true rfl, Nat.le_of_ble_eq_true rfl⟩ ?_
  refine j_nmS (fun t1 et1 => ?_)
  refine j_aload_n C dX0_twice_19 rfl rfl ?_
  refine j_getR C dX0_twice_20 (fx_RX0_58 D kc ad n) (show 11 ≤ 83 by decide) (show 83 < n by omega) ?_
  refine j_aload_n C dX0_twice_23 rfl rfl ?_
  refine j_getR C dX0_twice_24 (fx_RX0_37 D kc ad n) (show 11 ≤ 83 by decide) (show 83 < n by omega) ?_
  refine j_aload_n C dX0_twice_27 rfl rfl ?_
  refine j_getR C dX0_twice_28 (fx_RX0_37 D kc ad n) (show 11 ≤ 83 by decide) (show 83 < n by omega) ?_
  refine j_callV0 (T := TX1) (N := 8) C dX0_twice_31 (k_X1_square l D kc ad n (by omega) 78 (⟨⟨rfl, rfl, by omega, by decide⟩, by decide⟩ : wa n 10 78).1 78 (⟨⟨rfl, rfl, by omega, by decide⟩, by decide⟩ : wa n 10 78) _ ) zy_X1_square mw_26_13 rfl rfl (show 11 ≤ 62 by decide) (show 62 < n by omega) rfl rfl (Nat.le_of_ble_eq_true rfl) ⟨rfl, rfl, Nat.le_of_ble_eq_true rfl, Nat.le_of_ble_eq_true rfl⟩ ?_
  refine j_nmS (fun t2 et2 => ?_)
  refine j_aload_n C dX0_twice_34 rfl rfl ?_
  refine j_getR C dX0_twice_35 (fx_RX0_58 D kc ad n) (show 11 ≤ 83 by decide) (show 83 < n by omega) ?_
  refine j_aload_n C dX0_twice_38 rfl rfl ?_
  refine j_getR C dX0_twice_39 (fx_RX0_80 D kc ad n (P := P) hP) (pt_lo hP) (show P + 4 < n by omega) ?_
  refine j_aload_n C dX0_twice_42 rfl rfl ?_
  refine j_getR C dX0_twice_43 (fx_RX0_28 D kc ad n) (show 11 ≤ 83 by decide) (show 83 < n by omega) ?_
  refine j_callV0 (T := TX1) (N := 8) C dX0_twice_46 (k_X1_square l D kc ad n (by omega) (P + 0) (pt_wa0 (P := P) hP (by omega) : wa n 10 (P + 0)).1 75 (⟨⟨rfl, rfl, by omega, by decide⟩, by decide⟩ : wa n 10 75) _ ) zy_X1_square mw_26_13 rfl rfl (show 11 ≤ 62 by decide) (show 62 < n by omega) rfl rfl (Nat.le_of_ble_eq_true rfl) ⟨rfl, rfl, Nat.le_of_ble_eq_true rfl, Nat.le_of_ble_eq_true rfl⟩ ?_
  refine j_nmS (fun t3 et3 => ?_)
  refine j_aload_n C dX0_twice_49 rfl rfl ?_
  refine j_getR C dX0_twice_50 (fx_RX0_58 D kc ad n) (show 11 ≤ 83 by decide) (show 83 < n by omega) ?_
  refine j_aload_n C dX0_twice_53 rfl rfl ?_
  refine j_getR C dX0_twice_54 (fx_RX0_86 D kc ad n (P := P) hP) (pt_lo hP) (show P + 4 < n by omega) ?_
  refine j_aload_n C dX0_twice_57 rfl rfl ?_
  refine j_getR C dX0_twice_58 (fx_RX0_31 D kc ad n) (show 11 ≤ 83 by decide) (show 83 < n by omega) ?_
  refine j_callV0 (T := TX1) (N := 8) C dX0_twice_61 (k_X1_square l D kc ad n (by omega) (P + 1) (pt_wa1 (P := P) hP (by omega) : wa n 10 (P + 1)).1 76 (⟨⟨rfl, rfl, by omega, by decide⟩, by decide⟩ : wa n 10 76) _ ) zy_X1_square mw_26_13 rfl rfl (show 11 ≤ 62 by decide) (show 62 < n by omega) rfl rfl (Nat.le_of_ble_eq_true rfl) ⟨rfl, rfl, Nat.le_of_ble_eq_true rfl, Nat.le_of_ble_eq_true rfl⟩ ?_
  refine j_nmS (fun t4 et4 => ?_)
  refine j_aload_n C dX0_twice_64 rfl rfl ?_
  refine j_getR C dX0_twice_65 (fx_RX0_58 D kc ad n) (show 11 ≤ 83 by decide) (show 83 < n by omega) ?_
  refine j_aload_n C dX0_twice_68 rfl rfl ?_
  refine j_getR C dX0_twice_69 (fx_RX0_93 D kc ad n (P := P) hP) (pt_lo hP) (show P + 4 < n by omega) ?_
  refine j_aload_n C dX0_twice_72 rfl rfl ?_
  refine j_getR C dX0_twice_73 (fx_RX0_34 D kc ad n) (show 11 ≤ 83 by decide) (show 83 < n by omega) ?_
  refine j_callV0 (T := TX1) (N := 8) C dX0_twice_76 (k_X1_square l D kc ad n (by omega) (P + 2) (pt_wa2 (P := P) hP (by omega) : wa n 10 (P + 2)).1 77 (⟨⟨rfl, rfl, by omega, by decide⟩, by decide⟩ : wa n 10 77) _ ) zy_X1_square mw_26_13 rfl rfl (show 11 ≤ 62 by decide) (show 62 < n by omega) rfl rfl (Nat.le_of_ble_eq_true rfl) ⟨rfl, rfl, Nat.le_of_ble_eq_true rfl, Nat.le_of_ble_eq_true rfl⟩ ?_
  refine j_nmS (fun t5 et5 => ?_)
  refine j_aload_n C dX0_twice_79 rfl rfl ?_
  refine j_getR C dX0_twice_80 (fx_RX0_58 D kc ad n) (show 11 ≤ 83 by decide) (show 83 < n by omega) ?_
  refine j_aload_n C dX0_twice_83 rfl rfl ?_
  refine j_getR C dX0_twice_84 (fx_RX0_34 D kc ad n) (show 11 ≤ 83 by decide) (show 83 < n by omega) ?_
  refine j_aload_n C dX0_twice_87 rfl rfl ?_
  refine j_getR C dX0_twice_88 (fx_RX0_34 D kc ad n) (show 11 ≤ 83 by decide) (show 83 < n by omega) ?_
  refine j_aload_n C dX0_twice_91 rfl rfl ?_
  refine j_getR C dX0_twice_92 (fx_RX0_34 D kc ad n) (show 11 ≤ 83 by decide) (show 83 < n by omega) ?_
  refine j_callV0 (T := TX1) (N := 8) C dX0_twice_95 (k_X1_add l D kc ad n (by omega) 77 (⟨⟨rfl, rfl, by omega, by decide⟩, by decide⟩ : wa n 10 77).1 77 (⟨⟨rfl, rfl, by omega, by decide⟩, by decide⟩ : wa n 10 77).1 77 (⟨⟨rfl, rfl, by omega, by decide⟩, by decide⟩ : wa n 10 77) _ ) zy_X1_add mw_6_8 rfl rfl (show 11 ≤ 62 by decide) (show 62 < n by omega) rfl rfl (Nat.le_of_ble_eq_true rfl) ⟨rfl, rfl, Nat.le_of_ble_eq_true rfl, Nat.le_of_ble_eq_true rfl⟩ ?_
  refine j_nmS (fun t6 et6 => ?_)
  refine j_aload_n C dX0_twice_98 rfl rfl ?_
  refine j_getR C dX0_twice_99 (fx_RX0_58 D kc ad n) (show 11 ≤ 83 by decide) (show 83 < n by omega) ?_
  refine j_aload_n C dX0_twice_102 rfl rfl ?_
  refine j_getR C dX0_twice_103 (fx_RX0_28 D kc ad n) (show 11 ≤ 83 by decide) (show 83 < n by omega) ?_
  refine j_aload_n C dX0_twice_106 rfl rfl ?_
  refine j_getR C dX0_twice_107 (fx_RX0_31 D kc ad n) (show 11 ≤ 83 by decide) (show 83 < n by omega) ?_
  refine j_aload_n C dX0_twice_110 rfl rfl ?_
  refine j_getR C dX0_twice_111 (fx_RX0_46 D kc ad n) (show 11 ≤ 83 by decide) (show 83 < n by omega) ?_
  refine j_callV0 (T := TX1) (N := 8) C dX0_twice_114 (k_X1_add l D kc ad n (by omega) 75 (⟨⟨rfl, rfl, by omega, by decide⟩, by decide⟩ : wa n 10 75).1 76 (⟨⟨rfl, rfl, by omega, by decide⟩, by decide⟩ : wa n 10 76).1 81 (⟨⟨rfl, rfl, by omega, by decide⟩, by decide⟩ : wa n 10 81) _ ) zy_X1_add mw_6_8 rfl rfl (show 11 ≤ 62 by decide) (show 62 < n by omega) rfl rfl (Nat.le_of_ble_eq_true rfl) ⟨rfl, rfl, Nat.le_of_ble_eq_true rfl, Nat.le_of_ble_eq_true rfl⟩ ?_
  refine j_nmS (fun t7 et7 => ?_)
  refine j_aload_n C dX0_twice_117 rfl rfl ?_
  refine j_getR C dX0_twice_118 (fx_RX0_58 D kc ad n) (show 11 ≤ 83 by decide) (show 83 < n by omega) ?_
  refine j_aload_n C dX0_twice_121 rfl rfl ?_
  refine j_getR C dX0_twice_122 (fx_RX0_46 D kc ad n) (show 11 ≤ 83 by decide) (show 83 < n by omega) ?_
  refine j_aload_n C dX0_twice_125 rfl rfl ?_
  refine j_getR C dX0_twice_126 (fx_RX0_37 D kc ad n) (show 11 ≤ 83 by decide) (show 83 < n by omega) ?_
  refine j_aload_n C dX0_twice_129 rfl rfl ?_
  refine j_getR C dX0_twice_130 (fx_RX0_37 D kc ad n) (show 11 ≤ 83 by decide) (show 83 < n by omega) ?_
  refine j_callV0 (T := TX1) (N := 8) C dX0_twice_133 (k_X1_subtract l D kc ad n (by omega) 81 (⟨⟨rfl, rfl, by omega, by decide⟩, by decide⟩ : wa n 10 81).1 78 (⟨⟨rfl, rfl, by omega, by decide⟩, by decide⟩ : wa n 10 78).1 78 (⟨⟨rfl, rfl, by omega, by decide⟩, by decide⟩ : wa n 10 78) _ ) zy_X1_subtract mw_26_15 rfl rfl (show 11 ≤ 62 by decide) (show 62 < n by omega) rfl rfl (Nat.le_of_ble_eq_true rfl) ⟨rfl, rfl, Nat.le_of_ble_eq_true rfl, Nat.le_of_ble_eq_true rfl⟩ ?_
  refine j_nmS (fun t8 et8 => ?_)
  refine j_aload_n C dX0_twice_136 rfl rfl ?_
  refine j_getR C dX0_twice_137 (fx_RX0_58 D kc ad n) (show 11 ≤ 83 by decide) (show 83 < n by omega) ?_
  refine j_aload_n C dX0_twice_140 rfl rfl ?_
  refine j_getR C dX0_twice_141 (fx_RX0_28 D kc ad n) (show 11 ≤ 83 by decide) (show 83 < n by omega) ?_
  refine j_aload_n C dX0_twice_144 rfl rfl ?_
  refine j_getR C dX0_twice_145 (fx_RX0_31 D kc ad n) (show 11 ≤ 83 by decide) (show 83 < n by omega) ?_
  refine j_aload_n C dX0_twice_148 rfl rfl ?_
  refine j_getR C dX0_twice_149 (fx_RX0_43 D kc ad n) (show 11 ≤ 83 by decide) (show 83 < n by omega) ?_
  refine j_callV0 (T := TX1) (N := 8) C dX0_twice_152 (k_X1_subtract l D kc ad n (by omega) 75 (⟨⟨rfl, rfl, by omega, by decide⟩, by decide⟩ : wa n 10 75).1 76 (⟨⟨rfl, rfl, by omega, by decide⟩, by decide⟩ : wa n 10 76).1 80 (⟨⟨rfl, rfl, by omega, by decide⟩, by decide⟩ : wa n 10 80) _ ) zy_X1_subtract mw_26_15 rfl rfl (show 11 ≤ 62 by decide) (show 62 < n by omega) rfl rfl (Nat.le_of_ble_eq_true rfl) ⟨rfl, rfl, Nat.le_of_ble_eq_true rfl, Nat.le_of_ble_eq_true rfl⟩ ?_
  refine j_nmS (fun t9 et9 => ?_)
  refine j_aload_n C dX0_twice_155 rfl rfl ?_
  refine j_getR C dX0_twice_156 (fx_RX0_58 D kc ad n) (show 11 ≤ 83 by decide) (show 83 < n by omega) ?_
  refine j_aload_n C dX0_twice_159 rfl rfl ?_
  refine j_getR C dX0_twice_160 (fx_RX0_34 D kc ad n) (show 11 ≤ 83 by decide) (show 83 < n by omega) ?_
  refine j_aload_n C dX0_twice_163 rfl rfl ?_
  refine j_getR C dX0_twice_164 (fx_RX0_43 D kc ad n) (show 11 ≤ 83 by decide) (show 83 < n by omega) ?_
  refine j_aload_n C dX0_twice_167 rfl rfl ?_
  refine j_getR C dX0_twice_168 (fx_RX0_40 D kc ad n) (show 11 ≤ 83 by decide) (show 83 < n by omega) ?_
  refine j_callV0 (T := TX1) (N := 8) C dX0_twice_171 (k_X1_add l D kc ad n (by omega) 77 (⟨⟨rfl, rfl, by omega, by decide⟩, by decide⟩ : wa n 10 77).1 80 (⟨⟨rfl, rfl, by omega, by decide⟩, by decide⟩ : wa n 10 80).1 79 (⟨⟨rfl, rfl, by omega, by decide⟩, by decide⟩ : wa n 10 79) _ ) zy_X1_add mw_6_8 rfl rfl (show 11 ≤ 62 by decide) (show 62 < n by omega) rfl rfl (Nat.le_of_ble_eq_true rfl) ⟨rfl, rfl, Nat.le_of_ble_eq_true rfl, Nat.le_of_ble_eq_true rfl⟩ ?_
  refine j_nmS (fun t10 et10 => ?_)
  refine j_aload_n C dX0_twice_174 rfl rfl ?_
  refine j_getR C dX0_twice_175 (fx_RX0_58 D kc ad n) (show 11 ≤ 83 by decide) (show 83 < n by omega) ?_
  refine j_aload_n C dX0_twice_178 rfl rfl ?_
  refine j_getR C dX0_twice_179 (fx_RX0_37 D kc ad n) (show 11 ≤ 83 by decide) (show 83 < n by omega) ?_
  refine j_aload_n C dX0_twice_182 rfl rfl ?_
  refine j_getR C dX0_twice_183 (fx_RX0_40 D kc ad n) (show 11 ≤ 83 by decide) (show 83 < n by omega) ?_
  refine j_aload_n C dX0_twice_186 rfl rfl ?_
  refine j_getR C dX0_twice_187 (fx_RX0_80 D kc ad n (P := S) hS) (pt_lo hS) (show S + 4 < n by omega) ?_
  refine j_callV0 (T := TX1) (N := 8) C dX0_twice_190 (k_X1_multiply l D kc ad n (by omega) 78 (⟨⟨rfl, rfl, by omega, by decide⟩, by decide⟩ : wa n 10 78).1 79 (⟨⟨rfl, rfl, by omega, by decide⟩, by decide⟩ : wa n 10 79).1 (S + 0) (pt_wa0 (P := S) hS (by omega) : wa n 10 (S + 0)) _ ) zy_X1_multiply mw_6_18 rfl rfl (show 11 ≤ 62 by decide) (show 62 < n by omega) rfl rfl (Nat.le_of_ble_eq_true rfl) ⟨rfl, rfl, Nat.le_of_ble_eq_true rfl, Nat.le_of_ble_eq_true rfl⟩ ?_
  refine j_nmS (fun t11 et11 => ?_)
  refine j_aload_n C dX0_twice_193 rfl rfl ?_
  refine j_getR C dX0_twice_194 (fx_RX0_58 D kc ad n) (show 11 ≤ 83 by decide) (show 83 < n by omega) ?_
  refine j_aload_n C dX0_twice_197 rfl rfl ?_
  refine j_getR C dX0_twice_198 (fx_RX0_43 D kc ad n) (show 11 ≤ 83 by decide) (show 83 < n by omega) ?_
  refine j_aload_n C dX0_twice_201 rfl rfl ?_
  refine j_getR C dX0_twice_202 (fx_RX0_46 D kc ad n) (show 11 ≤ 83 by decide) (show 83 < n by omega) ?_
  refine j_aload_n C dX0_twice_205 rfl rfl ?_
  refine j_getR C dX0_twice_206 (fx_RX0_86 D kc ad n (P := S) hS) (pt_lo hS) (show S + 4 < n by omega) ?_
  refine j_callV0 (T := TX1) (N := 8) C dX0_twice_209 (k_X1_multiply l D kc ad n (by omega) 80 (⟨⟨rfl, rfl, by omega, by decide⟩, by decide⟩ : wa n 10 80).1 81 (⟨⟨rfl, rfl, by omega, by decide⟩, by decide⟩ : wa n 10 81).1 (S + 1) (pt_wa1 (P := S) hS (by omega) : wa n 10 (S + 1)) _ ) zy_X1_multiply mw_6_18 rfl rfl (show 11 ≤ 62 by decide) (show 62 < n by omega) rfl rfl (Nat.le_of_ble_eq_true rfl) ⟨rfl, rfl, Nat.le_of_ble_eq_true rfl, Nat.le_of_ble_eq_true rfl⟩ ?_
  refine j_nmS (fun t12 et12 => ?_)
  refine j_aload_n C dX0_twice_212 rfl rfl ?_
  refine j_getR C dX0_twice_213 (fx_RX0_58 D kc ad n) (show 11 ≤ 83 by decide) (show 83 < n by omega) ?_
  refine j_aload_n C dX0_twice_216 rfl rfl ?_
  refine j_getR C dX0_twice_217 (fx_RX0_40 D kc ad n) (show 11 ≤ 83 by decide) (show 83 < n by omega) ?_
  refine j_aload_n C dX0_twice_220 rfl rfl ?_
  refine j_getR C dX0_twice_221 (fx_RX0_43 D kc ad n) (show 11 ≤ 83 by decide) (show 83 < n by omega) ?_
  refine j_aload_n C dX0_twice_224 rfl rfl ?_
  refine j_getR C dX0_twice_225 (fx_RX0_93 D kc ad n (P := S) hS) (pt_lo hS) (show S + 4 < n by omega) ?_
  refine j_callV0 (T := TX1) (N := 8) C dX0_twice_228 (k_X1_multiply l D kc ad n (by omega) 79 (⟨⟨rfl, rfl, by omega, by decide⟩, by decide⟩ : wa n 10 79).1 80 (⟨⟨rfl, rfl, by omega, by decide⟩, by decide⟩ : wa n 10 80).1 (S + 2) (pt_wa2 (P := S) hS (by omega) : wa n 10 (S + 2)) _ ) zy_X1_multiply mw_6_18 rfl rfl (show 11 ≤ 62 by decide) (show 62 < n by omega) rfl rfl (Nat.le_of_ble_eq_true rfl) ⟨rfl, rfl, Nat.le_of_ble_eq_true rfl, Nat.le_of_ble_eq_true rfl⟩ ?_
  refine j_nmS (fun t13 et13 => ?_)
  refine j_aload_n C dX0_twice_231 rfl rfl ?_
  refine j_getR C dX0_twice_232 (fx_RX0_58 D kc ad n) (show 11 ≤ 83 by decide) (show 83 < n by omega) ?_
  refine j_aload_n C dX0_twice_235 rfl rfl ?_
  refine j_getR C dX0_twice_236 (fx_RX0_37 D kc ad n) (show 11 ≤ 83 by decide) (show 83 < n by omega) ?_
  refine j_aload_n C dX0_twice_239 rfl rfl ?_
  refine j_getR C dX0_twice_240 (fx_RX0_46 D kc ad n) (show 11 ≤ 83 by decide) (show 83 < n by omega) ?_
  refine j_aload_n C dX0_twice_243 rfl rfl ?_
  refine j_getR C dX0_twice_244 (fx_RX0_96 D kc ad n (P := S) hS) (pt_lo hS) (show S + 4 < n by omega) ?_
  refine j_callV0 (T := TX1) (N := 8) C dX0_twice_247 (k_X1_multiply l D kc ad n (by omega) 78 (⟨⟨rfl, rfl, by omega, by decide⟩, by decide⟩ : wa n 10 78).1 81 (⟨⟨rfl, rfl, by omega, by decide⟩, by decide⟩ : wa n 10 81).1 (S + 3) (pt_wa3 (P := S) hS (by omega) : wa n 10 (S + 3)) _ ) zy_X1_multiply mw_6_18 rfl rfl (show 11 ≤ 62 by decide) (show 62 < n by omega) rfl rfl (Nat.le_of_ble_eq_true rfl) ⟨rfl, rfl, Nat.le_of_ble_eq_true rfl, Nat.le_of_ble_eq_true rfl⟩ ?_
  refine j_nmS (fun t14 et14 => ?_)
  exact j_vret (st := []) C R0 dX0_twice_250 ⟨rfl, (by (try rw [et14]); (try rw [et13]); (try rw [et12]); (try rw [et11]); (try rw [et10]); (try rw [et9]); (try rw [et8]); (try rw [et7]); (try rw [et6]); (try rw [et5]); (try rw [et4]); (try rw [et3]); (try rw [et2]); (try rw [et1]); unfold fX0_twice; (try dsimp only); all_goals ((try simp only [zfst_mk, zsnd_mk]); all_goals rfl))⟩
theorem k2_fX0_twice (P : Nat) (S : Nat) (s0 : zSt) : zk2 (fX0_twice P S s0) = zk2 s0 := by
  unfold fX0_twice
  (try dsimp only)
  all_goals (simp only [zW_2, zL_2, k2_fX1_add, k2_fX1_multiply, k2_fX1_square, k2_fX1_subtract]; done)
theorem i2_fX0_twice (P : Nat) (S : Nat) (s0 : zSt) (kk9 : Nat) : (fX0_twice P S s0).2.2 kk9 = s0.2.2 kk9 := z2_I (k2_fX0_twice P S s0) kk9
theorem i3_fX0_twice (P : Nat) (S : Nat) (s0 : zSt) (kk9 : Nat) : zi (fX0_twice P S s0) kk9 = zi s0 kk9 := zi_of (k2_fX0_twice P S s0) kk9

def fX0_multiply_13 (P : Nat) (i2 : Nat) (z3 : zSt) : zSt :=
    let t5 := fX0_add (84 + 5 * (i2 - 1)) P (84 + 5 * i2) z3
    t5
def fX0_multiply_67 (S : Nat) (i14 : Nat) (z15 : zSt) : zSt :=
    let t17 := fX0_twice S S z15
    t17
def fX0_multiply_59 (ws : Nat) (S : Nat) (i11 : Nat) (z12 : zSt) : zSt :=
    let u20 := ziter (fX0_multiply_67 S) 0 4 z12
    let x22 := vX8_nibble ws i11 u20
    let t23 := fX0_add S (84 + 5 * x22) S u20
    t23
def fX0_multiply (ws : Nat) (P : Nat) (S : Nat) (s0 : zSt) : zSt :=
    let t1 := fX0_becomeNeutral (84 + 5 * 0) s0
    let u8 := ziter (fX0_multiply_13 P) 1 15 t1
    let t10 := fX0_becomeNeutral S u8
    let u26 := zdown (fX0_multiply_59 ws S) 64 t10
    u26
set_option maxHeartbeats 4000000 in
set_option maxRecDepth 100000 in
theorem k_X0_multiply (l : Launch) (D : va_G) (kc : Nat → ClassId) (ad : Nat → Nat) (n : Nat) (hn : 165 ≤ n) (ws : Nat) (hws : ra n 4 ws) (P : Nat) (hP : ptB P = true) (hPn : P + 4 < n) (S : Nat) (hS : ptB S = true) (hSn : S + 4 < n) (s0 : zSt) : zM l yX0_multiply cX0_multiply 6 none rX0_multiply (wX D kc ad n) [.ref (zad (wX D kc ad n) 83), .ref (zad (wX D kc ad n) ws), .ref (zad (wX D kc ad n) (P + 4)), .ref (zad (wX D kc ad n) (S + 4))] s0 (zV0 (fX0_multiply ws P S s0)) := by
  refine z_of (own := RX0) (by decide +kernel) rfl (Nat.le_of_ble_eq_true rfl) ?_
  intro κ C R0
  refine j_at [(0, .ref (zad (wX D kc ad n) 83)), (1, .ref (zad (wX D kc ad n) ws)), (2, .ref (zad (wX D kc ad n) (P + 4))), (3, .ref (zad (wX D kc ad n) (S + 4)))] ⟨rfl, rfl, rfl, rfl, trivial⟩ ?_
  refine j_aload_n C dX0_multiply_0 rfl rfl ?_
  refine j_aload_n C dX0_multiply_1 rfl rfl ?_
  refine j_getR C dX0_multiply_2 (fx_RX0_54 D kc ad n) (show 11 ≤ 83 by decide) (show 83 < n by omega) ?_
  refine j_iconst (v := nI 0) C dX0_multiply_5 (by decide +kernel) ?_
  refine x_aald164 C dX0_multiply_6 (by omega) (by omega) ?_
  refine j_callV0 (T := TX0) (N := 14) C dX0_multiply_7 (k_X0_becomeNeutral l D kc ad n (by omega) (84 + 5 * 0) (pt_tab 0 (by omega)) (by omega) _ ) zy_X0_becomeNeutral mw_29_12 rfl rfl (show 11 ≤ 83 by decide) (show 83 < n by omega) rfl rfl (Nat.le_of_ble_eq_true rfl) ⟨rfl, rfl, Nat.le_of_ble_eq_true rfl, Nat.le_of_ble_eq_true rfl⟩ ?_
  refine j_nmS (fun t1 et1 => ?_)
  refine j_iconst (v := nI 1) C dX0_multiply_10 (by decide +kernel) ?_
  refine j_istore C dX0_multiply_11 (by decide) ?_
  refine j_at [(0, .ref (zad (wX D kc ad n) 83)), (1, .ref (zad (wX D kc ad n) ws)), (2, .ref (zad (wX D kc ad n) (P + 4))), (3, .ref (zad (wX D kc ad n) (S + 4))), (4, .int (nI (1)))] ⟨rfl, rfl, rfl, rfl, rfl, trivial⟩ ?_
  refine z_up (α := zSt) (fun (i2 : Nat) (z3 : zSt) => zJ κ (wX D kc ad n) 13 (zlof [(0, .ref (zad (wX D kc ad n) 83)), (1, .ref (zad (wX D kc ad n) ws)), (2, .ref (zad (wX D kc ad n) (P + 4))), (3, .ref (zad (wX D kc ad n) (S + 4))), (4, .int (nI (i2)))]) [] z3) (fX0_multiply_13 P) (fun i2 z3 => 1 ≤ i2) 16 ?_ (fun _ _ _ h => by omega) 15 1 t1 (by omega) ((Nat.le_refl _)) ?_
  · intro i2 z3 hi2 hIi2 k0
    refine j_iload C dX0_multiply_13 rfl ?_
    refine j_aload_n C dX0_multiply_15 rfl rfl ?_
    refine j_getR C dX0_multiply_16 (fx_RX0_54 D kc ad n) (show 11 ≤ 83 by decide) (show 83 < n by omega) ?_
    refine x_alen164 C dX0_multiply_19 (by omega) ?_
    refine j_icmp_geN (tgt := 50) C dX0_multiply_20 (by decide) (by omega) (by omega) (fun q4 => False.elim (by omega)) (fun q4 => ?_)
    refine j_aload_n C dX0_multiply_23 rfl rfl ?_
    refine j_aload_n C dX0_multiply_24 rfl rfl ?_
    refine j_getR C dX0_multiply_25 (fx_RX0_54 D kc ad n) (show 11 ≤ 83 by decide) (show 83 < n by omega) ?_
    refine j_iload C dX0_multiply_28 rfl ?_
    refine j_iconst (v := nI 1) C dX0_multiply_30 (by decide +kernel) ?_
    refine j_isubN C dX0_multiply_31 (by omega) ?_
    refine x_aald164 C dX0_multiply_32 (by omega) (by omega) ?_
    refine j_aload_n C dX0_multiply_33 rfl rfl ?_
    refine j_aload_n C dX0_multiply_34 rfl rfl ?_
    refine j_getR C dX0_multiply_35 (fx_RX0_54 D kc ad n) (show 11 ≤ 83 by decide) (show 83 < n by omega) ?_
    refine j_iload C dX0_multiply_38 rfl ?_
    refine x_aald164 C dX0_multiply_40 (by omega) (by omega) ?_
    refine j_callV0 (T := TX0) (N := 14) C dX0_multiply_41 (k_X0_add l D kc ad n (by omega) (84 + 5 * (i2 - 1)) (pt_tab (i2 - 1) (by omega)) (by omega) P hP hPn (84 + 5 * i2) (pt_tab i2 (by omega)) (by omega) _ ) zy_X0_add mw_29_16 rfl rfl (show 11 ≤ 83 by decide) (show 83 < n by omega) rfl rfl (Nat.le_of_ble_eq_true rfl) ⟨rfl, rfl, Nat.le_of_ble_eq_true rfl, Nat.le_of_ble_eq_true rfl⟩ ?_
    refine j_nmS (fun t5 et5 => ?_)
    refine j_iincN (b := 1) C dX0_multiply_44 rfl (by decide +kernel) (by decide) ?_
    refine j_goto (tgt := 13) C dX0_multiply_47 (by decide) ?_
    refine j_nmS (fun t6 et6 => ?_)
    refine j_at [(0, .ref (zad (wX D kc ad n) 83)), (1, .ref (zad (wX D kc ad n) ws)), (2, .ref (zad (wX D kc ad n) (P + 4))), (3, .ref (zad (wX D kc ad n) (S + 4))), (4, .int (nI (i2 + 1)))] ⟨rfl, rfl, rfl, rfl, rfl, trivial⟩ ?_
    have eF : (fX0_multiply_13 P) i2 z3 = t6 := by rw [et6]; (try rw [et5]); unfold fX0_multiply_13; first | done | (dsimp only; done) | rfl
    exact Eq.mp (congrArg (fun (z7 : zSt) => zJ κ (wX D kc ad n) 13 (zlof [(0, .ref (zad (wX D kc ad n) 83)), (1, .ref (zad (wX D kc ad n) ws)), (2, .ref (zad (wX D kc ad n) (P + 4))), (3, .ref (zad (wX D kc ad n) (S + 4))), (4, .int (nI (i2 + 1)))]) [] z7) eF) (k0 ((by omega)))
  · intro hIi2
    revert hIi2
    refine z_nm (P := fun (z3 : zSt) => (fun i2 z3 => 1 ≤ i2) 16 z3 → zJ κ (wX D kc ad n) 13 (zlof [(0, .ref (zad (wX D kc ad n) 83)), (1, .ref (zad (wX D kc ad n) ws)), (2, .ref (zad (wX D kc ad n) (P + 4))), (3, .ref (zad (wX D kc ad n) (S + 4))), (4, .int (nI (16)))]) [] z3) (fun u8 eu8 => ?_)
    intro hIi2
    refine j_iload C dX0_multiply_13 rfl ?_
    refine j_aload_n C dX0_multiply_15 rfl rfl ?_
    refine j_getR C dX0_multiply_16 (fx_RX0_54 D kc ad n) (show 11 ≤ 83 by decide) (show 83 < n by omega) ?_
    refine x_alen164 C dX0_multiply_19 (by omega) ?_
    refine j_icmp_geN (tgt := 50) C dX0_multiply_20 (by decide) (by omega) (by omega) (fun q9 => ?_) (fun q9 => False.elim (by omega))
    refine j_aload_n C dX0_multiply_50 rfl rfl ?_
    refine j_aload_n C dX0_multiply_51 rfl rfl ?_
    refine j_callV0 (T := TX0) (N := 14) C dX0_multiply_52 (k_X0_becomeNeutral l D kc ad n (by omega) S hS hSn _ ) zy_X0_becomeNeutral mw_29_12 rfl rfl (show 11 ≤ 83 by decide) (show 83 < n by omega) rfl rfl (Nat.le_of_ble_eq_true rfl) ⟨rfl, rfl, Nat.le_of_ble_eq_true rfl, Nat.le_of_ble_eq_true rfl⟩ ?_
    refine j_nmS (fun t10 et10 => ?_)
    refine j_bipush (v := nI 63) C dX0_multiply_55 (by decide +kernel) ?_
    refine j_istore C dX0_multiply_57 (by decide) ?_
    refine j_at [(0, .ref (zad (wX D kc ad n) 83)), (1, .ref (zad (wX D kc ad n) ws)), (3, .ref (zad (wX D kc ad n) (S + 4))), (4, .int (dI 64))] ⟨rfl, rfl, rfl, congrArg (fun q => some (Value.int q)) (dI_succ _).symm, trivial⟩ ?_
    refine z_dn (α := zSt) (fun (i11 : Nat) (z12 : zSt) => zJ κ (wX D kc ad n) 59 (zlof [(0, .ref (zad (wX D kc ad n) 83)), (1, .ref (zad (wX D kc ad n) ws)), (3, .ref (zad (wX D kc ad n) (S + 4))), (4, .int (dI i11))]) [] z12) (fX0_multiply_59 ws S) (fun i11 z12 => i11 ≤ 64) ?_ (fun _ _ h => by omega) 64 t10 (Nat.le_refl _) ?_
    · intro i11 z12 hIi11 k0
      refine j_at [(0, .ref (zad (wX D kc ad n) 83)), (1, .ref (zad (wX D kc ad n) ws)), (3, .ref (zad (wX D kc ad n) (S + 4))), (4, .int (nI (i11)))] ⟨rfl, rfl, rfl, congrArg (fun q => some (Value.int q)) (dI_succ _), trivial⟩ ?_
      refine j_iload C dX0_multiply_59 rfl ?_
      refine j_if_lt (tgt := 108) C dX0_multiply_61 (by decide) (fun q13 => False.elim (nI_pos (by omega) q13)) (fun q13 => ?_)
      refine j_iconst (v := nI 0) C dX0_multiply_64 (by decide +kernel) ?_
      refine j_istore C dX0_multiply_65 (by decide) ?_
      refine j_at [(0, .ref (zad (wX D kc ad n) 83)), (1, .ref (zad (wX D kc ad n) ws)), (3, .ref (zad (wX D kc ad n) (S + 4))), (4, .int (nI (i11))), (5, .int (nI (0)))] ⟨rfl, rfl, rfl, rfl, rfl, trivial⟩ ?_
      refine z_up (α := zSt) (fun (i14 : Nat) (z15 : zSt) => zJ κ (wX D kc ad n) 67 (zlof [(0, .ref (zad (wX D kc ad n) 83)), (1, .ref (zad (wX D kc ad n) ws)), (3, .ref (zad (wX D kc ad n) (S + 4))), (4, .int (nI (i11))), (5, .int (nI (i14)))]) [] z15) (fX0_multiply_67 S) (fun _ _ => True) 4 ?_ (fun _ _ _ _ => trivial) 4 0 z12 (by omega) trivial ?_
      · intro i14 z15 hi14 hIi14 k0
        refine j_iload C dX0_multiply_67 rfl ?_
        refine j_iconst (v := nI 4) C dX0_multiply_69 (by decide +kernel) ?_
        refine j_icmp_geN (tgt := 85) C dX0_multiply_70 (by decide) (by omega) (by omega) (fun q16 => False.elim (by omega)) (fun q16 => ?_)
        refine j_aload_n C dX0_multiply_73 rfl rfl ?_
        refine j_aload_n C dX0_multiply_74 rfl rfl ?_
        refine j_aload_n C dX0_multiply_75 rfl rfl ?_
        refine j_callV0 (T := TX0) (N := 14) C dX0_multiply_76 (k_X0_twice l D kc ad n (by omega) S hS hSn S hS hSn _ ) zy_X0_twice mw_29_17 rfl rfl (show 11 ≤ 83 by decide) (show 83 < n by omega) rfl rfl (Nat.le_of_ble_eq_true rfl) ⟨rfl, rfl, Nat.le_of_ble_eq_true rfl, Nat.le_of_ble_eq_true rfl⟩ ?_
        refine j_nmS (fun t17 et17 => ?_)
        refine j_iincN (b := 1) C dX0_multiply_79 rfl (by decide +kernel) (by decide) ?_
        refine j_goto (tgt := 67) C dX0_multiply_82 (by decide) ?_
        refine j_nmS (fun t18 et18 => ?_)
        refine j_at [(0, .ref (zad (wX D kc ad n) 83)), (1, .ref (zad (wX D kc ad n) ws)), (3, .ref (zad (wX D kc ad n) (S + 4))), (4, .int (nI (i11))), (5, .int (nI (i14 + 1)))] ⟨rfl, rfl, rfl, rfl, rfl, trivial⟩ ?_
        have eF : (fX0_multiply_67 S) i14 z15 = t18 := by rw [et18]; (try rw [et17]); unfold fX0_multiply_67; first | done | (dsimp only; done) | rfl
        exact Eq.mp (congrArg (fun (z19 : zSt) => zJ κ (wX D kc ad n) 67 (zlof [(0, .ref (zad (wX D kc ad n) 83)), (1, .ref (zad (wX D kc ad n) ws)), (3, .ref (zad (wX D kc ad n) (S + 4))), (4, .int (nI (i11))), (5, .int (nI (i14 + 1)))]) [] z19) eF) (k0 trivial)
      · intro hIi14
        refine z_nm (P := fun (z15 : zSt) => zJ κ (wX D kc ad n) 67 (zlof [(0, .ref (zad (wX D kc ad n) 83)), (1, .ref (zad (wX D kc ad n) ws)), (3, .ref (zad (wX D kc ad n) (S + 4))), (4, .int (nI (i11))), (5, .int (nI (4)))]) [] z15) (fun u20 eu20 => ?_)
        refine j_iload C dX0_multiply_67 rfl ?_
        refine j_iconst (v := nI 4) C dX0_multiply_69 (by decide +kernel) ?_
        refine j_icmp_geN (tgt := 85) C dX0_multiply_70 (by decide) (by omega) (by omega) (fun q21 => ?_) (fun q21 => False.elim (by omega))
        refine j_aload_n C dX0_multiply_85 rfl rfl ?_
        refine j_aload_n C dX0_multiply_86 rfl rfl ?_
        refine j_aload_n C dX0_multiply_87 rfl rfl ?_
        refine j_getR C dX0_multiply_88 (fx_RX0_54 D kc ad n) (show 11 ≤ 83 by decide) (show 83 < n by omega) ?_
        refine j_aload_n C dX0_multiply_91 rfl rfl ?_
        refine j_iload C dX0_multiply_92 rfl ?_
        refine j_callS1 C dX0_multiply_94 (k_X8_nibble l D kc ad n (by omega) ws hws i11 (by omega) _ ) zy_X8_nibble mw_29_21 rfl rfl (Nat.le_of_ble_eq_true rfl) ⟨rfl, rfl, Nat.le_of_ble_eq_true rfl, Nat.le_of_ble_eq_true rfl⟩ ?_
        refine j_nmN (fun x22 ex22 => ?_)
        have hx22 : x22 < 16 := by rw [ex22]; exact lt_nibble _ _ _
        refine x_aald164 C dX0_multiply_97 (by omega) (by omega) ?_
        refine j_aload_n C dX0_multiply_98 rfl rfl ?_
        refine j_callV0 (T := TX0) (N := 14) C dX0_multiply_99 (k_X0_add l D kc ad n (by omega) S hS hSn (84 + 5 * x22) (pt_tab x22 (by omega)) (by omega) S hS hSn _ ) zy_X0_add mw_29_16 rfl rfl (show 11 ≤ 83 by decide) (show 83 < n by omega) rfl rfl (Nat.le_of_ble_eq_true rfl) ⟨rfl, rfl, Nat.le_of_ble_eq_true rfl, Nat.le_of_ble_eq_true rfl⟩ ?_
        refine j_nmS (fun t23 et23 => ?_)
        refine j_iincD C dX0_multiply_102 rfl (by decide) ?_
        refine j_goto (tgt := 59) C dX0_multiply_105 (by decide) ?_
        refine j_nmS (fun t24 et24 => ?_)
        refine j_at [(0, .ref (zad (wX D kc ad n) 83)), (1, .ref (zad (wX D kc ad n) ws)), (3, .ref (zad (wX D kc ad n) (S + 4))), (4, .int (dI i11))] ⟨rfl, rfl, rfl, rfl, trivial⟩ ?_
        have eF : (fX0_multiply_59 ws S) i11 z12 = t24 := by rw [et24]; (try rw [et23]); (try rw [ex22]); (try rw [eu20]); unfold fX0_multiply_59; first | done | (dsimp only; done) | rfl
        exact Eq.mp (congrArg (fun (z25 : zSt) => zJ κ (wX D kc ad n) 59 (zlof [(0, .ref (zad (wX D kc ad n) 83)), (1, .ref (zad (wX D kc ad n) ws)), (3, .ref (zad (wX D kc ad n) (S + 4))), (4, .int (dI i11))]) [] z25) eF) (k0 ((by omega)))
    · intro hIi11
      revert hIi11
      refine z_nm (P := fun (z12 : zSt) => (fun i11 z12 => i11 ≤ 64) 0 z12 → zJ κ (wX D kc ad n) 59 (zlof [(0, .ref (zad (wX D kc ad n) 83)), (1, .ref (zad (wX D kc ad n) ws)), (3, .ref (zad (wX D kc ad n) (S + 4))), (4, .int (dI 0))]) [] z12) (fun u26 eu26 => ?_)
      intro hIi11
      refine j_iload C dX0_multiply_59 rfl ?_
      refine j_if_lt (tgt := 108) C dX0_multiply_61 (by decide) (fun q27 => ?_) (fun q27 => False.elim (q27 dI_0))
      exact j_vret (st := []) C R0 dX0_multiply_108 ⟨rfl, (by (try rw [eu26]); (try rw [et10]); (try rw [eu8]); (try rw [et1]); unfold fX0_multiply; (try dsimp only); all_goals ((try simp only [zfst_mk, zsnd_mk]); all_goals rfl))⟩
theorem k2_fX0_multiply_13 (P : Nat) (i2 : Nat) (z3 : zSt) : zk2 (fX0_multiply_13 P i2 z3) = zk2 z3 := by
  unfold fX0_multiply_13
  (try dsimp only)
  all_goals (simp only [zW_2, zL_2, k2_fX0_add]; done)
theorem k2it_fX0_multiply_13 (P : Nat) (nn ii : Nat) (xx : zSt) : zk2 (ziter (fX0_multiply_13 P) ii nn xx) = zk2 xx := ziter_keep (fun x => zk2 x) _ (k2_fX0_multiply_13 P) nn ii xx
theorem k2_fX0_multiply_67 (S : Nat) (i14 : Nat) (z15 : zSt) : zk2 (fX0_multiply_67 S i14 z15) = zk2 z15 := by
  unfold fX0_multiply_67
  (try dsimp only)
  all_goals (simp only [zW_2, zL_2, k2_fX0_twice]; done)
theorem k2it_fX0_multiply_67 (S : Nat) (nn ii : Nat) (xx : zSt) : zk2 (ziter (fX0_multiply_67 S) ii nn xx) = zk2 xx := ziter_keep (fun x => zk2 x) _ (k2_fX0_multiply_67 S) nn ii xx
theorem k2_fX0_multiply_59 (ws : Nat) (S : Nat) (i11 : Nat) (z12 : zSt) : zk2 (fX0_multiply_59 ws S i11 z12) = zk2 z12 := by
  unfold fX0_multiply_59
  (try dsimp only)
  all_goals (simp only [zW_2, zL_2, k2_fX0_add, k2_fX0_multiply_67, k2it_fX0_multiply_67]; done)
theorem k2it_fX0_multiply_59 (ws : Nat) (S : Nat) (nn : Nat) (xx : zSt) : zk2 (zdown (fX0_multiply_59 ws S) nn xx) = zk2 xx := zdown_keep (fun x => zk2 x) _ (k2_fX0_multiply_59 ws S) nn xx
theorem k2_fX0_multiply (ws : Nat) (P : Nat) (S : Nat) (s0 : zSt) : zk2 (fX0_multiply ws P S s0) = zk2 s0 := by
  unfold fX0_multiply
  (try dsimp only)
  all_goals (simp only [zW_2, zL_2, k2_fX0_becomeNeutral, k2_fX0_multiply_13, k2_fX0_multiply_59, k2it_fX0_multiply_13, k2it_fX0_multiply_59]; done)
theorem i2_fX0_multiply (ws : Nat) (P : Nat) (S : Nat) (s0 : zSt) (kk9 : Nat) : (fX0_multiply ws P S s0).2.2 kk9 = s0.2.2 kk9 := z2_I (k2_fX0_multiply ws P S s0) kk9
theorem i3_fX0_multiply (ws : Nat) (P : Nat) (S : Nat) (s0 : zSt) (kk9 : Nat) : zi (fX0_multiply ws P S s0) kk9 = zi s0 kk9 := zi_of (k2_fX0_multiply ws P S s0) kk9

def fX0_isNeutral_a1 (t1 : zSt) : Bool × zSt :=
    (false, t1)
def fX0_isNeutral_a2 (t5 : zSt) : Bool × zSt :=
    (false, t5)
def fX0_isNeutral_a3 (t5 : zSt) : Bool × zSt :=
    (true, t5)
def fX0_isNeutral_a4 (P : Nat) (t1 : zSt) : Bool × zSt :=
    let t5 := zsnd (fX1_areSame (P + 1) (P + 2) t1)
    bif (zfst (fX1_areSame (P + 1) (P + 2) t1)) then
      fX0_isNeutral_a3 t5
    else
      fX0_isNeutral_a2 t5
def fX0_isNeutral (P : Nat) (s0 : zSt) : Bool × zSt :=
    let t1 := zsnd (fX1_isZero (P + 0) s0)
    bif (zfst (fX1_isZero (P + 0) s0)) then
      fX0_isNeutral_a4 P t1
    else
      fX0_isNeutral_a1 t1
set_option maxHeartbeats 4000000 in
set_option maxRecDepth 100000 in
theorem k_X0_isNeutral (l : Launch) (D : va_G) (kc : Nat → ClassId) (ad : Nat → Nat) (n : Nat) (hn : 84 ≤ n) (P : Nat) (hP : ptB P = true) (hPn : P + 4 < n) (s0 : zSt) : zM l yX0_isNeutral cX0_isNeutral 2 (some .boolean) rX0_isNeutral (wX D kc ad n) [.ref (zad (wX D kc ad n) 83), .ref (zad (wX D kc ad n) (P + 4))] s0 (zV1 (.int (bI (zfst (fX0_isNeutral P s0)))) (zsnd (fX0_isNeutral P s0))) := by
  refine z_of (own := RX0) (by decide +kernel) rfl (Nat.le_of_ble_eq_true rfl) ?_
  intro κ C R0
  refine j_at [(0, .ref (zad (wX D kc ad n) 83)), (1, .ref (zad (wX D kc ad n) (P + 4)))] ⟨rfl, rfl, trivial⟩ ?_
  refine j_aload_n C dX0_isNeutral_0 rfl rfl ?_
  refine j_getR C dX0_isNeutral_1 (fx_RX0_58 D kc ad n) (show 11 ≤ 83 by decide) (show 83 < n by omega) ?_
  refine j_aload_n C dX0_isNeutral_4 rfl rfl ?_
  refine j_getR C dX0_isNeutral_5 (fx_RX0_80 D kc ad n (P := P) hP) (pt_lo hP) (show P + 4 < n by omega) ?_
  refine j_callV1 (T := TX1) (N := 8) C dX0_isNeutral_8 (k_X1_isZero l D kc ad n (by omega) (P + 0) (pt_wa0 (P := P) hP (by omega) : wa n 10 (P + 0)).1 _ ) zy_X1_isZero mw_26_18 rfl rfl (show 11 ≤ 62 by decide) (show 62 < n by omega) rfl rfl (Nat.le_of_ble_eq_true rfl) ⟨rfl, rfl, Nat.le_of_ble_eq_true rfl, Nat.le_of_ble_eq_true rfl⟩ ?_
  refine j_nmS (fun t1 et1 => ?_)
  refine j_if_eqB (tgt := 36) C dX0_isNeutral_11 (by decide) (fun q2 => ?_) (fun q2 => ?_)
  · have hA3 : fX0_isNeutral P s0 = fX0_isNeutral_a1 t1 := by (try rw [et1]); have q2z := q2; (try rw [et1] at q2z); (try dsimp only at q2z); unfold fX0_isNeutral; (try dsimp only); rw [q2z, cond_false]; (try rfl)
    refine j_iconst (v := nI 0) C dX0_isNeutral_36 (by decide +kernel) ?_
    refine j_top (v := .int (bI false)) (by decide +kernel) ?_
    exact j_zret (st := []) C R0 dX0_isNeutral_37 ⟨(by rw [hA3]; unfold fX0_isNeutral_a1; (try dsimp only); all_goals ((try simp only [zfst_mk, zsnd_mk]); all_goals rfl)), ((by rw [hA3]; unfold fX0_isNeutral_a1; (try dsimp only); all_goals ((try simp only [zfst_mk, zsnd_mk]); all_goals rfl)))⟩
  · have hA4 : fX0_isNeutral P s0 = fX0_isNeutral_a4 P t1 := by (try rw [et1]); have q2z := q2; (try rw [et1] at q2z); (try dsimp only at q2z); unfold fX0_isNeutral; (try dsimp only); rw [q2z, cond_true]; (try rfl)
    refine j_aload_n C dX0_isNeutral_14 rfl rfl ?_
    refine j_getR C dX0_isNeutral_15 (fx_RX0_58 D kc ad n) (show 11 ≤ 83 by decide) (show 83 < n by omega) ?_
    refine j_aload_n C dX0_isNeutral_18 rfl rfl ?_
    refine j_getR C dX0_isNeutral_19 (fx_RX0_86 D kc ad n (P := P) hP) (pt_lo hP) (show P + 4 < n by omega) ?_
    refine j_aload_n C dX0_isNeutral_22 rfl rfl ?_
    refine j_getR C dX0_isNeutral_23 (fx_RX0_93 D kc ad n (P := P) hP) (pt_lo hP) (show P + 4 < n by omega) ?_
    refine j_callV1 (T := TX1) (N := 8) C dX0_isNeutral_26 (k_X1_areSame l D kc ad n (by omega) (P + 1) (pt_wa1 (P := P) hP (by omega) : wa n 10 (P + 1)).1 (P + 2) (pt_wa2 (P := P) hP (by omega) : wa n 10 (P + 2)).1 _ ) zy_X1_areSame mw_31_3 rfl rfl (show 11 ≤ 62 by decide) (show 62 < n by omega) rfl rfl (Nat.le_of_ble_eq_true rfl) ⟨rfl, rfl, Nat.le_of_ble_eq_true rfl, Nat.le_of_ble_eq_true rfl⟩ ?_
    refine j_nmS (fun t5 et5 => ?_)
    refine j_if_eqB (tgt := 36) C dX0_isNeutral_29 (by decide) (fun q6 => ?_) (fun q6 => ?_)
    · have hA7 : fX0_isNeutral_a4 P t1 = fX0_isNeutral_a2 t5 := by (try rw [et5]); have q6z := q6; (try rw [et5] at q6z); (try dsimp only at q6z); unfold fX0_isNeutral_a4; (try dsimp only); rw [q6z, cond_false]; (try rfl)
      refine j_iconst (v := nI 0) C dX0_isNeutral_36 (by decide +kernel) ?_
      refine j_top (v := .int (bI false)) (by decide +kernel) ?_
      exact j_zret (st := []) C R0 dX0_isNeutral_37 ⟨(by rw [hA4, hA7]; unfold fX0_isNeutral_a2; (try dsimp only); all_goals ((try simp only [zfst_mk, zsnd_mk]); all_goals rfl)), ((by rw [hA4, hA7]; unfold fX0_isNeutral_a2; (try dsimp only); all_goals ((try simp only [zfst_mk, zsnd_mk]); all_goals rfl)))⟩
    · have hA8 : fX0_isNeutral_a4 P t1 = fX0_isNeutral_a3 t5 := by (try rw [et5]); have q6z := q6; (try rw [et5] at q6z); (try dsimp only at q6z); unfold fX0_isNeutral_a4; (try dsimp only); rw [q6z, cond_true]; (try rfl)
      refine j_iconst (v := nI 1) C dX0_isNeutral_32 (by decide +kernel) ?_
      refine j_goto (tgt := 37) C dX0_isNeutral_33 (by decide) ?_
      refine j_top (v := .int (bI true)) (by decide +kernel) ?_
      exact j_zret (st := []) C R0 dX0_isNeutral_37 ⟨(by rw [hA4, hA8]; unfold fX0_isNeutral_a3; (try dsimp only); all_goals ((try simp only [zfst_mk, zsnd_mk]); all_goals rfl)), ((by rw [hA4, hA8]; unfold fX0_isNeutral_a3; (try dsimp only); all_goals ((try simp only [zfst_mk, zsnd_mk]); all_goals rfl)))⟩
theorem k2q_fX0_isNeutral_a1 (t1 : zSt) : zk2s (fX0_isNeutral_a1 t1) = zk2 t1 := by
  unfold fX0_isNeutral_a1
  (try dsimp only)
  all_goals (simp only [zW_2, zL_2, zk2s_mk]; done)
theorem k2_fX0_isNeutral_a1 (t1 : zSt) : zk2 (zsnd (fX0_isNeutral_a1 t1)) = zk2 t1 := k2q_fX0_isNeutral_a1 t1
theorem k2q_fX0_isNeutral_a2 (t5 : zSt) : zk2s (fX0_isNeutral_a2 t5) = zk2 t5 := by
  unfold fX0_isNeutral_a2
  (try dsimp only)
  all_goals (simp only [zW_2, zL_2, zk2s_mk]; done)
theorem k2_fX0_isNeutral_a2 (t5 : zSt) : zk2 (zsnd (fX0_isNeutral_a2 t5)) = zk2 t5 := k2q_fX0_isNeutral_a2 t5
theorem k2q_fX0_isNeutral_a3 (t5 : zSt) : zk2s (fX0_isNeutral_a3 t5) = zk2 t5 := by
  unfold fX0_isNeutral_a3
  (try dsimp only)
  all_goals (simp only [zW_2, zL_2, zk2s_mk]; done)
theorem k2_fX0_isNeutral_a3 (t5 : zSt) : zk2 (zsnd (fX0_isNeutral_a3 t5)) = zk2 t5 := k2q_fX0_isNeutral_a3 t5
theorem k2q_fX0_isNeutral_a4 (P : Nat) (t1 : zSt) : zk2s (fX0_isNeutral_a4 P t1) = zk2 t1 := by
  unfold fX0_isNeutral_a4
  (try dsimp only)
  all_goals (refine cond_keep (fun r : Bool × zSt => zk2s r) _ ?_ ?_ <;> (simp only [zW_2, zL_2, k2_fX0_isNeutral_a2, k2_fX0_isNeutral_a3, k2_fX1_areSame, k2q_fX0_isNeutral_a2, k2q_fX0_isNeutral_a3, k2q_fX1_areSame, zk2s_mk]; done))
theorem k2_fX0_isNeutral_a4 (P : Nat) (t1 : zSt) : zk2 (zsnd (fX0_isNeutral_a4 P t1)) = zk2 t1 := k2q_fX0_isNeutral_a4 P t1
theorem k2q_fX0_isNeutral (P : Nat) (s0 : zSt) : zk2s (fX0_isNeutral P s0) = zk2 s0 := by
  unfold fX0_isNeutral
  (try dsimp only)
  all_goals (refine cond_keep (fun r : Bool × zSt => zk2s r) _ ?_ ?_ <;> (simp only [zW_2, zL_2, k2_fX0_isNeutral_a1, k2_fX0_isNeutral_a4, k2_fX1_isZero, k2q_fX0_isNeutral_a1, k2q_fX0_isNeutral_a4, k2q_fX1_isZero, zk2s_mk]; done))
theorem k2_fX0_isNeutral (P : Nat) (s0 : zSt) : zk2 (zsnd (fX0_isNeutral P s0)) = zk2 s0 := k2q_fX0_isNeutral P s0
theorem i2_fX0_isNeutral (P : Nat) (s0 : zSt) (kk9 : Nat) : (zsnd (fX0_isNeutral P s0)).2.2 kk9 = s0.2.2 kk9 := z2_I (k2_fX0_isNeutral P s0) kk9
theorem i3_fX0_isNeutral (P : Nat) (s0 : zSt) (kk9 : Nat) : zi (zsnd (fX0_isNeutral P s0)) kk9 = zi s0 kk9 := zi_of (k2_fX0_isNeutral P s0) kk9

def fX0_findOtherShape (P : Nat) (u : Nat) (s0 : zSt) : zSt :=
    let t1 := fX1_subtract 72 (P + 1) 75 s0
    let t2 := fX1_invert 75 75 t1
    let t3 := fX1_add 72 (P + 1) 76 t2
    let t4 := fX1_multiply 75 76 u t3
    t4
set_option maxHeartbeats 4000000 in
set_option maxRecDepth 100000 in
theorem k_X0_findOtherShape (l : Launch) (D : va_G) (kc : Nat → ClassId) (ad : Nat → Nat) (n : Nat) (hn : 84 ≤ n) (P : Nat) (hP : ptB P = true) (hPn : P + 4 < n) (u : Nat) (hu : wa n 10 u) (s0 : zSt) : zM l yX0_findOtherShape cX0_findOtherShape 3 none rX0_findOtherShape (wX D kc ad n) [.ref (zad (wX D kc ad n) 83), .ref (zad (wX D kc ad n) (P + 4)), .ref (zad (wX D kc ad n) u)] s0 (zV0 (fX0_findOtherShape P u s0)) := by
  refine z_of (own := RX0) (by decide +kernel) rfl (Nat.le_of_ble_eq_true rfl) ?_
  intro κ C R0
  refine j_at [(0, .ref (zad (wX D kc ad n) 83)), (1, .ref (zad (wX D kc ad n) (P + 4))), (2, .ref (zad (wX D kc ad n) u))] ⟨rfl, rfl, rfl, trivial⟩ ?_
  refine j_aload_n C dX0_findOtherShape_0 rfl rfl ?_
  refine j_getR C dX0_findOtherShape_1 (fx_RX0_58 D kc ad n) (show 11 ≤ 83 by decide) (show 83 < n by omega) ?_
  refine j_aload_n C dX0_findOtherShape_4 rfl rfl ?_
  refine j_getR C dX0_findOtherShape_5 (fx_RX0_18 D kc ad n) (show 11 ≤ 83 by decide) (show 83 < n by omega) ?_
  refine j_aload_n C dX0_findOtherShape_8 rfl rfl ?_
  refine j_getR C dX0_findOtherShape_9 (fx_RX0_86 D kc ad n (P := P) hP) (pt_lo hP) (show P + 4 < n by omega) ?_
  refine j_aload_n C dX0_findOtherShape_12 rfl rfl ?_
  refine j_getR C dX0_findOtherShape_13 (fx_RX0_28 D kc ad n) (show 11 ≤ 83 by decide) (show 83 < n by omega) ?_
  refine j_callV0 (T := TX1) (N := 8) C dX0_findOtherShape_16 (k_X1_subtract l D kc ad n (by omega) 72 (⟨⟨rfl, rfl, by omega, by decide⟩, by decide⟩ : wa n 10 72).1 (P + 1) (pt_wa1 (P := P) hP (by omega) : wa n 10 (P + 1)).1 75 (⟨⟨rfl, rfl, by omega, by decide⟩, by decide⟩ : wa n 10 75) _ ) zy_X1_subtract mw_26_15 rfl rfl (show 11 ≤ 62 by decide) (show 62 < n by omega) rfl rfl (Nat.le_of_ble_eq_true rfl) ⟨rfl, rfl, Nat.le_of_ble_eq_true rfl, Nat.le_of_ble_eq_true rfl⟩ ?_
  refine j_nmS (fun t1 et1 => ?_)
  refine j_aload_n C dX0_findOtherShape_19 rfl rfl ?_
  refine j_getR C dX0_findOtherShape_20 (fx_RX0_58 D kc ad n) (show 11 ≤ 83 by decide) (show 83 < n by omega) ?_
  refine j_aload_n C dX0_findOtherShape_23 rfl rfl ?_
  refine j_getR C dX0_findOtherShape_24 (fx_RX0_28 D kc ad n) (show 11 ≤ 83 by decide) (show 83 < n by omega) ?_
  refine j_aload_n C dX0_findOtherShape_27 rfl rfl ?_
  refine j_getR C dX0_findOtherShape_28 (fx_RX0_28 D kc ad n) (show 11 ≤ 83 by decide) (show 83 < n by omega) ?_
  refine j_callV0 (T := TX1) (N := 8) C dX0_findOtherShape_31 (k_X1_invert l D kc ad n (by omega) 75 (⟨⟨rfl, rfl, by omega, by decide⟩, by decide⟩ : wa n 10 75).1 75 (⟨⟨rfl, rfl, by omega, by decide⟩, by decide⟩ : wa n 10 75) _ ) zy_X1_invert mw_26_14 rfl rfl (show 11 ≤ 62 by decide) (show 62 < n by omega) rfl rfl (Nat.le_of_ble_eq_true rfl) ⟨rfl, rfl, Nat.le_of_ble_eq_true rfl, Nat.le_of_ble_eq_true rfl⟩ ?_
  refine j_nmS (fun t2 et2 => ?_)
  refine j_aload_n C dX0_findOtherShape_34 rfl rfl ?_
  refine j_getR C dX0_findOtherShape_35 (fx_RX0_58 D kc ad n) (show 11 ≤ 83 by decide) (show 83 < n by omega) ?_
  refine j_aload_n C dX0_findOtherShape_38 rfl rfl ?_
  refine j_getR C dX0_findOtherShape_39 (fx_RX0_18 D kc ad n) (show 11 ≤ 83 by decide) (show 83 < n by omega) ?_
  refine j_aload_n C dX0_findOtherShape_42 rfl rfl ?_
  refine j_getR C dX0_findOtherShape_43 (fx_RX0_86 D kc ad n (P := P) hP) (pt_lo hP) (show P + 4 < n by omega) ?_
  refine j_aload_n C dX0_findOtherShape_46 rfl rfl ?_
  refine j_getR C dX0_findOtherShape_47 (fx_RX0_31 D kc ad n) (show 11 ≤ 83 by decide) (show 83 < n by omega) ?_
  refine j_callV0 (T := TX1) (N := 8) C dX0_findOtherShape_50 (k_X1_add l D kc ad n (by omega) 72 (⟨⟨rfl, rfl, by omega, by decide⟩, by decide⟩ : wa n 10 72).1 (P + 1) (pt_wa1 (P := P) hP (by omega) : wa n 10 (P + 1)).1 76 (⟨⟨rfl, rfl, by omega, by decide⟩, by decide⟩ : wa n 10 76) _ ) zy_X1_add mw_6_8 rfl rfl (show 11 ≤ 62 by decide) (show 62 < n by omega) rfl rfl (Nat.le_of_ble_eq_true rfl) ⟨rfl, rfl, Nat.le_of_ble_eq_true rfl, Nat.le_of_ble_eq_true rfl⟩ ?_
  refine j_nmS (fun t3 et3 => ?_)
  refine j_aload_n C dX0_findOtherShape_53 rfl rfl ?_
  refine j_getR C dX0_findOtherShape_54 (fx_RX0_58 D kc ad n) (show 11 ≤ 83 by decide) (show 83 < n by omega) ?_
  refine j_aload_n C dX0_findOtherShape_57 rfl rfl ?_
  refine j_getR C dX0_findOtherShape_58 (fx_RX0_28 D kc ad n) (show 11 ≤ 83 by decide) (show 83 < n by omega) ?_
  refine j_aload_n C dX0_findOtherShape_61 rfl rfl ?_
  refine j_getR C dX0_findOtherShape_62 (fx_RX0_31 D kc ad n) (show 11 ≤ 83 by decide) (show 83 < n by omega) ?_
  refine j_aload_n C dX0_findOtherShape_65 rfl rfl ?_
  refine j_callV0 (T := TX1) (N := 8) C dX0_findOtherShape_66 (k_X1_multiply l D kc ad n (by omega) 75 (⟨⟨rfl, rfl, by omega, by decide⟩, by decide⟩ : wa n 10 75).1 76 (⟨⟨rfl, rfl, by omega, by decide⟩, by decide⟩ : wa n 10 76).1 u hu _ ) zy_X1_multiply mw_6_18 rfl rfl (show 11 ≤ 62 by decide) (show 62 < n by omega) rfl rfl (Nat.le_of_ble_eq_true rfl) ⟨rfl, rfl, Nat.le_of_ble_eq_true rfl, Nat.le_of_ble_eq_true rfl⟩ ?_
  refine j_nmS (fun t4 et4 => ?_)
  exact j_vret (st := []) C R0 dX0_findOtherShape_69 ⟨rfl, (by (try rw [et4]); (try rw [et3]); (try rw [et2]); (try rw [et1]); unfold fX0_findOtherShape; (try dsimp only); all_goals ((try simp only [zfst_mk, zsnd_mk]); all_goals rfl))⟩
theorem k2_fX0_findOtherShape (P : Nat) (u : Nat) (s0 : zSt) : zk2 (fX0_findOtherShape P u s0) = zk2 s0 := by
  unfold fX0_findOtherShape
  (try dsimp only)
  all_goals (simp only [zW_2, zL_2, k2_fX1_add, k2_fX1_invert, k2_fX1_multiply, k2_fX1_subtract]; done)
theorem i2_fX0_findOtherShape (P : Nat) (u : Nat) (s0 : zSt) (kk9 : Nat) : (fX0_findOtherShape P u s0).2.2 kk9 = s0.2.2 kk9 := z2_I (k2_fX0_findOtherShape P u s0) kk9
theorem i3_fX0_findOtherShape (P : Nat) (u : Nat) (s0 : zSt) (kk9 : Nat) : zi (fX0_findOtherShape P u s0) kk9 = zi s0 kk9 := zi_of (k2_fX0_findOtherShape P u s0) kk9
