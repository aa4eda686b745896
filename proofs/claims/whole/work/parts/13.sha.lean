def vX7_byteAt (i : Nat) (s0 : zSt) : Nat :=
    (s0.2.1 36 i).toBitVec.toNat % 2 ^ 8
set_option maxHeartbeats 4000000 in
set_option maxRecDepth 100000 in
theorem k_X7_byteAt (l : Launch) (D : va_G) (kc : Nat → ClassId) (ad : Nat → Nat) (n : Nat) (hn : 38 ≤ n) (i : Nat) (hi : i < 400) (s0 : zSt) : zM l yX7_byteAt cX7_byteAt 2 (some .int) rX7_byteAt (wX D kc ad n) [.ref (zad (wX D kc ad n) 37), .int (nI (i))] s0 (zV1 (.int (nI (vX7_byteAt i s0))) s0) := by
  refine z_of (own := RX7) (by decide +kernel) rfl (Nat.le_of_ble_eq_true rfl) ?_
  intro κ C R0
  refine j_at [(0, .ref (zad (wX D kc ad n) 37)), (1, .int (nI (i)))] ⟨rfl, rfl, trivial⟩ ?_
  refine j_aload_n C dX7_byteAt_0 rfl rfl ?_
  refine j_getR C dX7_byteAt_1 (fx_RX7_9 D kc ad n) (show 11 ≤ 37 by decide) (show 37 < n by omega) ?_
  refine j_iload_n C dX7_byteAt_4 rfl rfl ?_
  refine x_bald C dX7_byteAt_5 (⟨rfl, rfl, by omega, by decide, by decide⟩ : ba n 400 36) (by omega) ?_
  refine j_sipush (v := nI 255) C dX7_byteAt_6 (by decide +kernel) ?_
  refine j_iand C dX7_byteAt_9 ?_
  refine j_top (v := .int (nI ((s0.2.1 36 i).toBitVec.toNat % 2 ^ 8))) (congrArg Value.int (pk_and _ 8 (by decide +kernel))) ?_
  exact j_iret (st := []) C R0 dX7_byteAt_10 ⟨(by unfold vX7_byteAt; (try dsimp only); all_goals ((try simp only [zfst_mk, zsnd_mk]); all_goals rfl)), ((by rfl))⟩

def fX7_append_3 (v : Int64) (L0 : Nat) (j1 : Nat) (z1 : zSt) : zSt :=
    let t4 := zV z1 36 (L0 + j1) (vp_nar .byte (((zus v (8 * j1)).toInt32).toInt8.toInt32))
    let t5 := zI t4 4 (nI ((L0 + j1) + 1))
    t5
def fX7_append (v : Int64) (k : Nat) (L0 : Nat) (s0 : zSt) : zSt :=
    let u8 := ziter (fX7_append_3 v L0) 0 k s0
    u8
set_option maxHeartbeats 4000000 in
set_option maxRecDepth 100000 in
theorem k_X7_append (l : Launch) (D : va_G) (kc : Nat → ClassId) (ad : Nat → Nat) (n : Nat) (hn : 38 ≤ n) (v : Int64) (k : Nat) (hk : k ≤ 8) (L0 : Nat) (s0 : zSt) (hlen : s0.2.2 4 = nI L0) (hroom : L0 + k ≤ 400) : zM l yX7_append cX7_append 5 none rX7_append (wX D kc ad n) [.ref (zad (wX D kc ad n) 37), .long v, .int (nI (k))] s0 (zV0 (fX7_append v k L0 s0)) := by
  refine z_of (own := RX7) (by decide +kernel) rfl (Nat.le_of_ble_eq_true rfl) ?_
  intro κ C R0
  refine j_at [(0, .ref (zad (wX D kc ad n) 37)), (1, .long v), (3, .int (nI (k)))] ⟨rfl, rfl, rfl, trivial⟩ ?_
  refine j_iconst (v := nI 0) C dX7_append_0 (by decide +kernel) ?_
  refine j_istore C dX7_append_1 (by decide) ?_
  refine j_at [(0, .ref (zad (wX D kc ad n) 37)), (1, .long v), (3, .int (nI (k))), (4, .int (nI (0)))] ⟨rfl, rfl, rfl, rfl, trivial⟩ ?_
  refine z_up (α := zSt) (fun (j1 : Nat) (z1 : zSt) => zJ κ (wX D kc ad n) 3 (zlof [(0, .ref (zad (wX D kc ad n) 37)), (1, .long v), (3, .int (nI (k))), (4, .int (nI (j1)))]) [] z1) (fX7_append_3 v L0) (fun j1 z1 => z1.2.2 4 = nI (L0 + j1)) k ?_ (fun i x _ h => rfl) k 0 s0 (by omega) hlen ?_
  · intro j1 z1 hj1 hIj1 k0
    refine j_iload C dX7_append_3 rfl ?_
    refine j_iload_n C dX7_append_5 rfl rfl ?_
    refine j_icmp_geN (tgt := 53) C dX7_append_6 (by decide) (by omega) (by omega) (fun q2 => False.elim (by omega)) (fun q2 => ?_)
    refine j_aload_n C dX7_append_9 rfl rfl ?_
    refine j_getI C dX7_append_10 (fx_RX7_13 D kc ad n) (show 11 ≤ 37 by decide) (show 37 < n by omega) ?_
    refine j_top (v := .int (nI (L0 + j1))) (congrArg Value.int (by  exact hIj1)) ?_
    refine j_sipush (v := nI 400) C dX7_append_13 (by decide +kernel) ?_
    refine j_icmp_geN (tgt := 53) C dX7_append_16 (by decide) (by omega) (by omega) (fun q3 => False.elim (by omega)) (fun q3 => ?_)
    refine j_aload_n C dX7_append_19 rfl rfl ?_
    refine j_getR C dX7_append_20 (fx_RX7_9 D kc ad n) (show 11 ≤ 37 by decide) (show 37 < n by omega) ?_
    refine j_aload_n C dX7_append_23 rfl rfl ?_
    refine j_getI C dX7_append_24 (fx_RX7_13 D kc ad n) (show 11 ≤ 37 by decide) (show 37 < n by omega) ?_
    refine j_top (v := .int (nI (L0 + j1))) (congrArg Value.int (by  exact hIj1)) ?_
    refine j_lload_n C dX7_append_27 rfl rfl ?_
    refine j_bipush (v := nI 8) C dX7_append_28 (by decide +kernel) ?_
    refine j_iload C dX7_append_30 rfl ?_
    refine j_imulN C dX7_append_32 ?_
    refine j_lushr C dX7_append_33 (by omega) ?_
    refine j_l2i C dX7_append_34 ?_
    refine j_i2b C dX7_append_35 ?_
    refine x_bast C dX7_append_36 (⟨rfl, rfl, by omega, by decide, by decide⟩ : ba n 400 36) (by omega) ?_
    refine j_nmS (fun t4 et4 => ?_)
    refine j_aload_n C dX7_append_37 rfl rfl ?_
    refine j_dup C dX7_append_38 rfl ?_
    refine j_getI C dX7_append_39 (fx_RX7_13 D kc ad n) (show 11 ≤ 37 by decide) (show 37 < n by omega) ?_
    refine j_top (v := .int (nI (L0 + j1))) (congrArg Value.int (by (try rw [et4]);  exact hIj1)) ?_
    refine j_iconst (v := nI 1) C dX7_append_42 (by decide +kernel) ?_
    refine j_iaddN C dX7_append_43 ?_
    refine j_putI C dX7_append_44 (pfx_RX7_13 D kc ad n) (ox_4 D kc ad n) (show 11 ≤ 37 by decide) (show 37 < n by omega) ?_
    refine j_nmS (fun t5 et5 => ?_)
    refine j_iincN (b := 1) C dX7_append_47 rfl (by decide +kernel) (by decide) ?_
    refine j_goto (tgt := 3) C dX7_append_50 (by decide) ?_
    refine j_nmS (fun t6 et6 => ?_)
    refine j_at [(0, .ref (zad (wX D kc ad n) 37)), (1, .long v), (3, .int (nI (k))), (4, .int (nI (j1 + 1)))] ⟨rfl, rfl, rfl, rfl, trivial⟩ ?_
    have eF : (fX7_append_3 v L0) j1 z1 = t6 := by rw [et6]; (try rw [et5]); (try rw [et4]); unfold fX7_append_3; first | done | (dsimp only; done) | rfl
    exact Eq.mp (congrArg (fun (z7 : zSt) => zJ κ (wX D kc ad n) 3 (zlof [(0, .ref (zad (wX D kc ad n) 37)), (1, .long v), (3, .int (nI (k))), (4, .int (nI (j1 + 1)))]) [] z7) eF) (k0 rfl)
  · intro hIj1
    revert hIj1
    refine z_nm (P := fun (z1 : zSt) => (fun j1 z1 => z1.2.2 4 = nI (L0 + j1)) k z1 → zJ κ (wX D kc ad n) 3 (zlof [(0, .ref (zad (wX D kc ad n) 37)), (1, .long v), (3, .int (nI (k))), (4, .int (nI (k)))]) [] z1) (fun u8 eu8 => ?_)
    intro hIj1
    refine j_iload C dX7_append_3 rfl ?_
    refine j_iload_n C dX7_append_5 rfl rfl ?_
    refine j_icmp_geN (tgt := 53) C dX7_append_6 (by decide) (by omega) (by omega) (fun q9 => ?_) (fun q9 => False.elim (by omega))
    exact j_vret (st := []) C R0 dX7_append_53 ⟨rfl, (by (try rw [eu8]); unfold fX7_append; (try dsimp only); all_goals ((try simp only [zfst_mk, zsnd_mk]); all_goals rfl))⟩

def fX5_begin  (s0 : zSt) : zSt :=
    let t1 := zI s0 5 (nI (0))
    t1
set_option maxHeartbeats 4000000 in
set_option maxRecDepth 100000 in
theorem k_X5_begin (l : Launch) (D : va_G) (kc : Nat → ClassId) (ad : Nat → Nat) (n : Nat) (hn : 180 ≤ n)  (s0 : zSt) : zM l yX5_begin cX5_begin 1 none rX5_begin (wX D kc ad n) [.ref (zad (wX D kc ad n) 179)] s0 (zV0 (fX5_begin  s0)) := by
  refine z_of (own := RX5) (by decide +kernel) rfl (Nat.le_of_ble_eq_true rfl) ?_
  intro κ C R0
  refine j_at [(0, .ref (zad (wX D kc ad n) 179))] ⟨rfl, trivial⟩ ?_
  refine j_aload_n C dX5_begin_0 rfl rfl ?_
  refine j_iconst (v := nI 0) C dX5_begin_1 (by decide +kernel) ?_
  refine j_putI C dX5_begin_2 (pfx_RX5_15 D kc ad n) (ox_5 D kc ad n) (show 11 ≤ 179 by decide) (show 179 < n by omega) ?_
  refine j_nmS (fun t1 et1 => ?_)
  exact j_vret (st := []) C R0 dX5_begin_5 ⟨rfl, (by (try rw [et1]); unfold fX5_begin; (try dsimp only); all_goals ((try simp only [zfst_mk, zsnd_mk]); all_goals rfl))⟩

def fX5_takeByte (b : Int32) (L0 : Nat) (s0 : zSt) : zSt :=
    let t2 := zV s0 176 L0 (vp_nar .byte (b.toInt8.toInt32))
    let t3 := zI t2 5 (nI (L0 + 1))
    t3
set_option maxHeartbeats 4000000 in
set_option maxRecDepth 100000 in
theorem k_X5_takeByte (l : Launch) (D : va_G) (kc : Nat → ClassId) (ad : Nat → Nat) (n : Nat) (hn : 180 ≤ n) (b : Int32) (L0 : Nat) (s0 : zSt) (hlen : s0.2.2 5 = nI L0) (hroom : L0 < 464) : zM l yX5_takeByte cX5_takeByte 2 none rX5_takeByte (wX D kc ad n) [.ref (zad (wX D kc ad n) 179), .int b] s0 (zV0 (fX5_takeByte b L0 s0)) := by
  refine z_of (own := RX5) (by decide +kernel) rfl (Nat.le_of_ble_eq_true rfl) ?_
  intro κ C R0
  refine j_at [(0, .ref (zad (wX D kc ad n) 179)), (1, .int b)] ⟨rfl, rfl, trivial⟩ ?_
  refine j_aload_n C dX5_takeByte_0 rfl rfl ?_
  refine j_getI C dX5_takeByte_1 (fx_RX5_15 D kc ad n) (show 11 ≤ 179 by decide) (show 179 < n by omega) ?_
  refine j_top (v := .int (nI (L0))) (congrArg Value.int (by  exact hlen)) ?_
  refine j_sipush (v := nI 464) C dX5_takeByte_4 (by decide +kernel) ?_
  refine j_icmp_geN (tgt := 31) C dX5_takeByte_7 (by decide) (by omega) (by omega) (fun q1 => False.elim (by omega)) (fun q1 => ?_)
  refine j_aload_n C dX5_takeByte_10 rfl rfl ?_
  refine j_getR C dX5_takeByte_11 (fx_RX5_11 D kc ad n) (show 11 ≤ 179 by decide) (show 179 < n by omega) ?_
  refine j_aload_n C dX5_takeByte_14 rfl rfl ?_
  refine j_getI C dX5_takeByte_15 (fx_RX5_15 D kc ad n) (show 11 ≤ 179 by decide) (show 179 < n by omega) ?_
  refine j_top (v := .int (nI (L0))) (congrArg Value.int (by  exact hlen)) ?_
  refine j_iload_n C dX5_takeByte_18 rfl rfl ?_
  refine j_i2b C dX5_takeByte_19 ?_
  refine x_bast C dX5_takeByte_20 (⟨rfl, rfl, by omega, by decide, by decide⟩ : ba n 512 176) (by omega) ?_
  refine j_nmS (fun t2 et2 => ?_)
  refine j_aload_n C dX5_takeByte_21 rfl rfl ?_
  refine j_dup C dX5_takeByte_22 rfl ?_
  refine j_getI C dX5_takeByte_23 (fx_RX5_15 D kc ad n) (show 11 ≤ 179 by decide) (show 179 < n by omega) ?_
  refine j_top (v := .int (nI (L0))) (congrArg Value.int (by (try rw [et2]);  exact hlen)) ?_
  refine j_iconst (v := nI 1) C dX5_takeByte_26 (by decide +kernel) ?_
  refine j_iaddN C dX5_takeByte_27 ?_
  refine j_putI C dX5_takeByte_28 (pfx_RX5_15 D kc ad n) (ox_5 D kc ad n) (show 11 ≤ 179 by decide) (show 179 < n by omega) ?_
  refine j_nmS (fun t3 et3 => ?_)
  exact j_vret (st := []) C R0 dX5_takeByte_31 ⟨rfl, (by (try rw [et3]); (try rw [et2]); unfold fX5_takeByte; (try dsimp only); all_goals ((try simp only [zfst_mk, zsnd_mk]); all_goals rfl))⟩

theorem tb_len (b : Int32) (L0 : Nat) (s : zSt) : (fX5_takeByte b L0 s).2.2 5 = nI (L0 + 1) := rfl
theorem tb_oth (b : Int32) (L0 : Nat) (s : zSt) (k : Nat) (h : k ≠ 5) : (fX5_takeByte b L0 s).2.2 k = s.2.2 k := by
  show (zI _ 5 _).2.2 k = _
  rw [zI_n _ _ h]
  rfl
def fX5_takeRow_2 (ws : Nat) (L0 : Nat) (j1 : Nat) (z1 : zSt) : zSt :=
    let t3 := fX5_takeByte ((zus (z1.1 ws (j1 / 2 ^ 3)) (8 * (j1 % 2 ^ 3))).toInt32) (L0 + j1) z1
    t3
def fX5_takeRow (ws : Nat) (L0 : Nat) (s0 : zSt) : zSt :=
    let u6 := ziter (fX5_takeRow_2 ws L0) 0 32 s0
    u6
set_option maxHeartbeats 4000000 in
set_option maxRecDepth 100000 in
theorem k_X5_takeRow (l : Launch) (D : va_G) (kc : Nat → ClassId) (ad : Nat → Nat) (n : Nat) (hn : 180 ≤ n) (ws : Nat) (hws : ra n 4 ws) (L0 : Nat) (s0 : zSt) (hlen : s0.2.2 5 = nI L0) (hroom : L0 + 32 ≤ 464) : zM l yX5_takeRow cX5_takeRow 3 none rX5_takeRow (wX D kc ad n) [.ref (zad (wX D kc ad n) 179), .ref (zad (wX D kc ad n) ws)] s0 (zV0 (fX5_takeRow ws L0 s0)) := by
  refine z_of (own := RX5) (by decide +kernel) rfl (Nat.le_of_ble_eq_true rfl) ?_
  intro κ C R0
  refine j_at [(0, .ref (zad (wX D kc ad n) 179)), (1, .ref (zad (wX D kc ad n) ws))] ⟨rfl, rfl, trivial⟩ ?_
  refine j_iconst (v := nI 0) C dX5_takeRow_0 (by decide +kernel) ?_
  refine j_istore_n C dX5_takeRow_1 rfl (by decide) ?_
  refine j_at [(0, .ref (zad (wX D kc ad n) 179)), (1, .ref (zad (wX D kc ad n) ws)), (2, .int (nI (0)))] ⟨rfl, rfl, rfl, trivial⟩ ?_
  refine z_up (α := zSt) (fun (j1 : Nat) (z1 : zSt) => zJ κ (wX D kc ad n) 2 (zlof [(0, .ref (zad (wX D kc ad n) 179)), (1, .ref (zad (wX D kc ad n) ws)), (2, .int (nI (j1)))]) [] z1) (fX5_takeRow_2 ws L0) (fun j1 z1 => z1.2.2 5 = nI (L0 + j1)) 32 ?_ (fun i x _ h => tb_len _ _ _) 32 0 s0 (by omega) hlen ?_
  · intro j1 z1 hj1 hIj1 k0
    refine j_iload_n C dX5_takeRow_2 rfl rfl ?_
    refine j_bipush (v := nI 32) C dX5_takeRow_3 (by decide +kernel) ?_
    refine j_icmp_geN (tgt := 32) C dX5_takeRow_5 (by decide) (by omega) (by omega) (fun q2 => False.elim (by omega)) (fun q2 => ?_)
    refine j_aload_n C dX5_takeRow_8 rfl rfl ?_
    refine j_aload_n C dX5_takeRow_9 rfl rfl ?_
    refine j_iload_n C dX5_takeRow_10 rfl rfl ?_
    refine j_iconst (v := nI 3) C dX5_takeRow_11 (by decide +kernel) ?_
    refine j_ishrN C dX5_takeRow_12 (by omega) (by decide +kernel) ?_
    refine x_lald C dX5_takeRow_13 hws (by omega) ?_
    refine j_bipush (v := nI 8) C dX5_takeRow_14 (by decide +kernel) ?_
    refine j_iload_n C dX5_takeRow_16 rfl rfl ?_
    refine j_bipush (v := nI 7) C dX5_takeRow_17 (by decide +kernel) ?_
    refine j_iandN C 3 dX5_takeRow_19 (by omega) (by decide +kernel) ?_
    refine j_imulN C dX5_takeRow_20 ?_
    refine j_lushr C dX5_takeRow_21 (by omega) ?_
    refine j_l2i C dX5_takeRow_22 ?_
    refine j_callV0 (T := TX5) (N := 4) C dX5_takeRow_23 (k_X5_takeByte l D kc ad n (by omega) ((zus (z1.1 ws (j1 / 2 ^ 3)) (8 * (j1 % 2 ^ 3))).toInt32) (L0 + j1) _ hIj1 (by omega)) zy_X5_takeByte mw_34_17 rfl rfl (show 11 ≤ 179 by decide) (show 179 < n by omega) rfl rfl (Nat.le_of_ble_eq_true rfl) ⟨rfl, rfl, Nat.le_of_ble_eq_true rfl, Nat.le_of_ble_eq_true rfl⟩ ?_
    refine j_nmS (fun t3 et3 => ?_)
    refine j_iincN (b := 1) C dX5_takeRow_26 rfl (by decide +kernel) (by decide) ?_
    refine j_goto (tgt := 2) C dX5_takeRow_29 (by decide) ?_
    refine j_nmS (fun t4 et4 => ?_)
    refine j_at [(0, .ref (zad (wX D kc ad n) 179)), (1, .ref (zad (wX D kc ad n) ws)), (2, .int (nI (j1 + 1)))] ⟨rfl, rfl, rfl, trivial⟩ ?_
    have eF : (fX5_takeRow_2 ws L0) j1 z1 = t4 := by rw [et4]; (try rw [et3]); unfold fX5_takeRow_2; first | done | (dsimp only; done) | rfl
    exact Eq.mp (congrArg (fun (z5 : zSt) => zJ κ (wX D kc ad n) 2 (zlof [(0, .ref (zad (wX D kc ad n) 179)), (1, .ref (zad (wX D kc ad n) ws)), (2, .int (nI (j1 + 1)))]) [] z5) eF) (k0 ((tb_len _ _ _)))
  · intro hIj1
    revert hIj1
    refine z_nm (P := fun (z1 : zSt) => (fun j1 z1 => z1.2.2 5 = nI (L0 + j1)) 32 z1 → zJ κ (wX D kc ad n) 2 (zlof [(0, .ref (zad (wX D kc ad n) 179)), (1, .ref (zad (wX D kc ad n) ws)), (2, .int (nI (32)))]) [] z1) (fun u6 eu6 => ?_)
    intro hIj1
    refine j_iload_n C dX5_takeRow_2 rfl rfl ?_
    refine j_bipush (v := nI 32) C dX5_takeRow_3 (by decide +kernel) ?_
    refine j_icmp_geN (tgt := 32) C dX5_takeRow_5 (by decide) (by omega) (by omega) (fun q7 => ?_) (fun q7 => False.elim (by omega))
    exact j_vret (st := []) C R0 dX5_takeRow_32 ⟨rfl, (by (try rw [eu6]); unfold fX5_takeRow; (try dsimp only); all_goals ((try simp only [zfst_mk, zsnd_mk]); all_goals rfl))⟩

def fX5_takeText_2 (L0 : Nat) (j1 : Nat) (z1 : zSt) : zSt :=
    let t3 := fX5_takeByte (nI (vX7_byteAt j1 z1)) (L0 + j1) z1
    t3
def fX5_takeText (L0 : Nat) (T0 : Nat) (s0 : zSt) : zSt :=
    let u6 := ziter (fX5_takeText_2 L0) 0 T0 s0
    u6
set_option maxHeartbeats 4000000 in
set_option maxRecDepth 100000 in
theorem k_X5_takeText (l : Launch) (D : va_G) (kc : Nat → ClassId) (ad : Nat → Nat) (n : Nat) (hn : 180 ≤ n) (L0 : Nat) (T0 : Nat) (s0 : zSt) (hlen : s0.2.2 5 = nI L0) (htx : s0.2.2 4 = nI T0) (hroom : L0 + T0 ≤ 464) (hT0 : T0 ≤ 400) : zM l yX5_takeText cX5_takeText 3 none rX5_takeText (wX D kc ad n) [.ref (zad (wX D kc ad n) 179), .ref (zad (wX D kc ad n) 37)] s0 (zV0 (fX5_takeText L0 T0 s0)) := by
  refine z_of (own := RX5) (by decide +kernel) rfl (Nat.le_of_ble_eq_true rfl) ?_
  intro κ C R0
  refine j_at [(0, .ref (zad (wX D kc ad n) 179)), (1, .ref (zad (wX D kc ad n) 37))] ⟨rfl, rfl, trivial⟩ ?_
  refine j_iconst (v := nI 0) C dX5_takeText_0 (by decide +kernel) ?_
  refine j_istore_n C dX5_takeText_1 rfl (by decide) ?_
  refine j_at [(0, .ref (zad (wX D kc ad n) 179)), (1, .ref (zad (wX D kc ad n) 37)), (2, .int (nI (0)))] ⟨rfl, rfl, rfl, trivial⟩ ?_
  refine z_up (α := zSt) (fun (j1 : Nat) (z1 : zSt) => zJ κ (wX D kc ad n) 2 (zlof [(0, .ref (zad (wX D kc ad n) 179)), (1, .ref (zad (wX D kc ad n) 37)), (2, .int (nI (j1)))]) [] z1) (fX5_takeText_2 L0) (fun j1 z1 => z1.2.2 5 = nI (L0 + j1) ∧ z1.2.2 4 = nI T0) T0 ?_ (fun i x _ h => ⟨tb_len _ _ _, (tb_oth _ _ _ 4 (by decide)).trans h.2⟩) T0 0 s0 (by omega) (⟨hlen, htx⟩) ?_
  · intro j1 z1 hj1 hIj1 k0
    refine j_iload_n C dX5_takeText_2 rfl rfl ?_
    refine j_aload_n C dX5_takeText_3 rfl rfl ?_
    refine j_getI C dX5_takeText_4 (fx_RX5_32 D kc ad n) (show 11 ≤ 37 by decide) (show 37 < n by omega) ?_
    refine j_top (v := .int (nI (T0))) (congrArg Value.int (hIj1.2)) ?_
    refine j_icmp_geN (tgt := 25) C dX5_takeText_7 (by decide) (by omega) (by omega) (fun q2 => False.elim (by omega)) (fun q2 => ?_)
    refine j_aload_n C dX5_takeText_10 rfl rfl ?_
    refine j_aload_n C dX5_takeText_11 rfl rfl ?_
    refine j_iload_n C dX5_takeText_12 rfl rfl ?_
    refine j_callV1 (T := TX7) (N := 2) C dX5_takeText_13 (k_X7_byteAt l D kc ad n (by omega) j1 (by omega) _ ) zy_X7_byteAt mw_34_16 rfl rfl (show 11 ≤ 37 by decide) (show 37 < n by omega) rfl rfl (Nat.le_of_ble_eq_true rfl) ⟨rfl, rfl, Nat.le_of_ble_eq_true rfl, Nat.le_of_ble_eq_true rfl⟩ ?_
    refine j_callV0 (T := TX5) (N := 4) C dX5_takeText_16 (k_X5_takeByte l D kc ad n (by omega) (nI (vX7_byteAt j1 z1)) (L0 + j1) _ hIj1.1 (by omega)) zy_X5_takeByte mw_34_17 rfl rfl (show 11 ≤ 179 by decide) (show 179 < n by omega) rfl rfl (Nat.le_of_ble_eq_true rfl) ⟨rfl, rfl, Nat.le_of_ble_eq_true rfl, Nat.le_of_ble_eq_true rfl⟩ ?_
    refine j_nmS (fun t3 et3 => ?_)
    refine j_iincN (b := 1) C dX5_takeText_19 rfl (by decide +kernel) (by decide) ?_
    refine j_goto (tgt := 2) C dX5_takeText_22 (by decide) ?_
    refine j_nmS (fun t4 et4 => ?_)
    refine j_at [(0, .ref (zad (wX D kc ad n) 179)), (1, .ref (zad (wX D kc ad n) 37)), (2, .int (nI (j1 + 1)))] ⟨rfl, rfl, rfl, trivial⟩ ?_
    have eF : (fX5_takeText_2 L0) j1 z1 = t4 := by rw [et4]; (try rw [et3]); unfold fX5_takeText_2; first | done | (dsimp only; done) | rfl
    exact Eq.mp (congrArg (fun (z5 : zSt) => zJ κ (wX D kc ad n) 2 (zlof [(0, .ref (zad (wX D kc ad n) 179)), (1, .ref (zad (wX D kc ad n) 37)), (2, .int (nI (j1 + 1)))]) [] z5) eF) (k0 (⟨tb_len _ _ _, (tb_oth _ _ _ 4 (by decide)).trans hIj1.2⟩))
  · intro hIj1
    revert hIj1
    refine z_nm (P := fun (z1 : zSt) => (fun j1 z1 => z1.2.2 5 = nI (L0 + j1) ∧ z1.2.2 4 = nI T0) T0 z1 → zJ κ (wX D kc ad n) 2 (zlof [(0, .ref (zad (wX D kc ad n) 179)), (1, .ref (zad (wX D kc ad n) 37)), (2, .int (nI (T0)))]) [] z1) (fun u6 eu6 => ?_)
    intro hIj1
    refine j_iload_n C dX5_takeText_2 rfl rfl ?_
    refine j_aload_n C dX5_takeText_3 rfl rfl ?_
    refine j_getI C dX5_takeText_4 (fx_RX5_32 D kc ad n) (show 11 ≤ 37 by decide) (show 37 < n by omega) ?_
    refine j_top (v := .int (nI (T0))) (congrArg Value.int (hIj1.2)) ?_
    refine j_icmp_geN (tgt := 25) C dX5_takeText_7 (by decide) (by omega) (by omega) (fun q7 => ?_) (fun q7 => False.elim (by omega))
    exact j_vret (st := []) C R0 dX5_takeText_25 ⟨rfl, (by (try rw [eu6]); unfold fX5_takeText; (try dsimp only); all_goals ((try simp only [zfst_mk, zsnd_mk]); all_goals rfl))⟩

theorem tr_len (ws L0 : Nat) (s : zSt) (h : s.2.2 5 = nI L0) : (fX5_takeRow ws L0 s).2.2 5 = nI (L0 + 32) := ziter_I (fX5_takeRow_2 ws L0) (fun i z => z.2.2 5 = nI (L0 + i)) 32 (fun i x _ _ => tb_len _ _ _) 32 0 s rfl h
theorem tr_oth (ws L0 : Nat) (s : zSt) (k : Nat) (h : k ≠ 5) : (fX5_takeRow ws L0 s).2.2 k = s.2.2 k := ziter_keep (fun z : zSt => z.2.2 k) (fX5_takeRow_2 ws L0) (fun i x => tb_oth _ _ _ k h) 32 0 s
theorem tt_len (L0 T0 : Nat) (s : zSt) (h : s.2.2 5 = nI L0) : (fX5_takeText L0 T0 s).2.2 5 = nI (L0 + T0) := ziter_I (fX5_takeText_2 L0) (fun i z => z.2.2 5 = nI (L0 + i)) T0 (fun i x _ _ => tb_len _ _ _) T0 0 s (by omega) h
theorem tt_oth (L0 T0 : Nat) (s : zSt) (k : Nat) (h : k ≠ 5) : (fX5_takeText L0 T0 s).2.2 k = s.2.2 k := ziter_keep (fun z : zSt => z.2.2 k) (fX5_takeText_2 L0) (fun i x => tb_oth _ _ _ k h) T0 0 s
theorem bg_len (s : zSt) : (fX5_begin s).2.2 5 = nI 0 := id rfl
theorem bg_oth (s : zSt) (k : Nat) (h : k ≠ 5) : (fX5_begin s).2.2 k = s.2.2 k := zI_n s _ h
def fX5_pad_18  (j1 : Nat) (z3 : zSt) : zSt :=
    let t5 := zV z3 176 j1 (vp_nar .byte (nI (0)))
    t5
def fX5_pad (en : Nat) (L0 : Nat) (s0 : zSt) : zSt :=
    let t1 := zV s0 176 L0 (vp_nar .byte ((-128 : Int32)))
    let x2 := L0 + 1
    let u8 := ziter fX5_pad_18 x2 (en - x2) t1
    let x10 := 8 * L0
    let t11 := zV u8 176 (en - 1) (vp_nar .byte ((nI (x10)).toInt8.toInt32))
    let t12 := zV t11 176 (en - 2) (vp_nar .byte ((((nI (x10)).toUInt32 >>> ((nI (8)).toUInt32 &&& Int32.toUInt32 31)).toInt32).toInt8.toInt32))
    t12
set_option maxHeartbeats 4000000 in
set_option maxRecDepth 100000 in
theorem k_X5_pad (l : Launch) (D : va_G) (kc : Nat → ClassId) (ad : Nat → Nat) (n : Nat) (hn : 180 ≤ n) (en : Nat) (hen : en ≤ 512) (L0 : Nat) (s0 : zSt) (hlen : s0.2.2 5 = nI L0) (hroom : L0 + 17 ≤ en) : zM l yX5_pad cX5_pad 3 none rX5_pad (wX D kc ad n) [.ref (zad (wX D kc ad n) 179), .int (nI (en))] s0 (zV0 (fX5_pad en L0 s0)) := by
  refine z_of (own := RX5) (by decide +kernel) rfl (Nat.le_of_ble_eq_true rfl) ?_
  intro κ C R0
  refine j_at [(0, .ref (zad (wX D kc ad n) 179)), (1, .int (nI (en)))] ⟨rfl, rfl, trivial⟩ ?_
  refine j_aload_n C dX5_pad_0 rfl rfl ?_
  refine j_getR C dX5_pad_1 (fx_RX5_11 D kc ad n) (show 11 ≤ 179 by decide) (show 179 < n by omega) ?_
  refine j_aload_n C dX5_pad_4 rfl rfl ?_
  refine j_getI C dX5_pad_5 (fx_RX5_15 D kc ad n) (show 11 ≤ 179 by decide) (show 179 < n by omega) ?_
  refine j_top (v := .int (nI (L0))) (congrArg Value.int (by  exact hlen)) ?_
  refine j_bipush (v := -128) C dX5_pad_8 (by decide +kernel) ?_
  refine x_bast C dX5_pad_10 (⟨rfl, rfl, by omega, by decide, by decide⟩ : ba n 512 176) (by omega) ?_
  refine j_nmS (fun t1 et1 => ?_)
  refine j_aload_n C dX5_pad_11 rfl rfl ?_
  refine j_getI C dX5_pad_12 (fx_RX5_15 D kc ad n) (show 11 ≤ 179 by decide) (show 179 < n by omega) ?_
  refine j_top (v := .int (nI (L0))) (congrArg Value.int (by (try rw [et1]);  exact hlen)) ?_
  refine j_iconst (v := nI 1) C dX5_pad_15 (by decide +kernel) ?_
  refine j_iaddN C dX5_pad_16 ?_
  refine j_nmN (fun x2 ex2 => ?_)
  refine j_istore_n C dX5_pad_17 rfl (by decide) ?_
  refine j_at [(0, .ref (zad (wX D kc ad n) 179)), (1, .int (nI (en))), (2, .int (nI (x2)))] ⟨rfl, rfl, rfl, trivial⟩ ?_
  refine z_up (α := zSt) (fun (j1 : Nat) (z3 : zSt) => zJ κ (wX D kc ad n) 18 (zlof [(0, .ref (zad (wX D kc ad n) 179)), (1, .int (nI (en))), (2, .int (nI (j1)))]) [] z3) fX5_pad_18 (fun j1 z3 => z3.2.2 5 = nI L0) en ?_ (fun i x _ h => h) (en - x2) x2 t1 (by omega) ((by rw [et1]; exact hlen)) ?_
  · intro j1 z3 hj1 hIj1 k0
    refine j_iload_n C dX5_pad_18 rfl rfl ?_
    refine j_iload_n C dX5_pad_19 rfl rfl ?_
    refine j_icmp_geN (tgt := 36) C dX5_pad_20 (by decide) (by omega) (by omega) (fun q4 => False.elim (by omega)) (fun q4 => ?_)
    refine j_aload_n C dX5_pad_23 rfl rfl ?_
    refine j_getR C dX5_pad_24 (fx_RX5_11 D kc ad n) (show 11 ≤ 179 by decide) (show 179 < n by omega) ?_
    refine j_iload_n C dX5_pad_27 rfl rfl ?_
    refine j_iconst (v := nI 0) C dX5_pad_28 (by decide +kernel) ?_
    refine x_bast C dX5_pad_29 (⟨rfl, rfl, by omega, by decide, by decide⟩ : ba n 512 176) (by omega) ?_
    refine j_nmS (fun t5 et5 => ?_)
    refine j_iincN (b := 1) C dX5_pad_30 rfl (by decide +kernel) (by decide) ?_
    refine j_goto (tgt := 18) C dX5_pad_33 (by decide) ?_
    refine j_nmS (fun t6 et6 => ?_)
    refine j_at [(0, .ref (zad (wX D kc ad n) 179)), (1, .int (nI (en))), (2, .int (nI (j1 + 1)))] ⟨rfl, rfl, rfl, trivial⟩ ?_
    have eF : fX5_pad_18 j1 z3 = t6 := by rw [et6]; (try rw [et5]); unfold fX5_pad_18; first | done | (dsimp only; done) | rfl
    exact Eq.mp (congrArg (fun (z7 : zSt) => zJ κ (wX D kc ad n) 18 (zlof [(0, .ref (zad (wX D kc ad n) 179)), (1, .int (nI (en))), (2, .int (nI (j1 + 1)))]) [] z7) eF) (k0 hIj1)
  · intro hIj1
    revert hIj1
    refine z_nm (P := fun (z3 : zSt) => (fun j1 z3 => z3.2.2 5 = nI L0) en z3 → zJ κ (wX D kc ad n) 18 (zlof [(0, .ref (zad (wX D kc ad n) 179)), (1, .int (nI (en))), (2, .int (nI (en)))]) [] z3) (fun u8 eu8 => ?_)
    intro hIj1
    refine j_iload_n C dX5_pad_18 rfl rfl ?_
    refine j_iload_n C dX5_pad_19 rfl rfl ?_
    refine j_icmp_geN (tgt := 36) C dX5_pad_20 (by decide) (by omega) (by omega) (fun q9 => ?_) (fun q9 => False.elim (by omega))
    refine j_bipush (v := nI 8) C dX5_pad_36 (by decide +kernel) ?_
    refine j_aload_n C dX5_pad_38 rfl rfl ?_
    refine j_getI C dX5_pad_39 (fx_RX5_15 D kc ad n) (show 11 ≤ 179 by decide) (show 179 < n by omega) ?_
    refine j_top (v := .int (nI (L0))) (congrArg Value.int (hIj1)) ?_
    refine j_imulN C dX5_pad_42 ?_
    refine j_nmN (fun x10 ex10 => ?_)
    refine j_istore_n C dX5_pad_43 rfl (by decide) ?_
    refine j_aload_n C dX5_pad_44 rfl rfl ?_
    refine j_getR C dX5_pad_45 (fx_RX5_11 D kc ad n) (show 11 ≤ 179 by decide) (show 179 < n by omega) ?_
    refine j_iload_n C dX5_pad_48 rfl rfl ?_
    refine j_iconst (v := nI 1) C dX5_pad_49 (by decide +kernel) ?_
    refine j_isubN C dX5_pad_50 (by omega) ?_
    refine j_iload_n C dX5_pad_51 rfl rfl ?_
    refine j_i2b C dX5_pad_52 ?_
    refine x_bast C dX5_pad_53 (⟨rfl, rfl, by omega, by decide, by decide⟩ : ba n 512 176) (by omega) ?_
    refine j_nmS (fun t11 et11 => ?_)
    refine j_aload_n C dX5_pad_54 rfl rfl ?_
    refine j_getR C dX5_pad_55 (fx_RX5_11 D kc ad n) (show 11 ≤ 179 by decide) (show 179 < n by omega) ?_
    refine j_iload_n C dX5_pad_58 rfl rfl ?_
    refine j_iconst (v := nI 2) C dX5_pad_59 (by decide +kernel) ?_
    refine j_isubN C dX5_pad_60 (by omega) ?_
    refine j_iload_n C dX5_pad_61 rfl rfl ?_
    refine j_bipush (v := nI 8) C dX5_pad_62 (by decide +kernel) ?_
    refine j_iushr C dX5_pad_64 ?_
    refine j_i2b C dX5_pad_65 ?_
    refine x_bast C dX5_pad_66 (⟨rfl, rfl, by omega, by decide, by decide⟩ : ba n 512 176) (by omega) ?_
    refine j_nmS (fun t12 et12 => ?_)
    exact j_vret (st := []) C R0 dX5_pad_67 ⟨rfl, (by (try rw [et12]); (try rw [et11]); (try rw [ex10]); (try rw [eu8]); (try rw [ex2]); (try rw [et1]); unfold fX5_pad; (try dsimp only); all_goals ((try simp only [zfst_mk, zsnd_mk]); all_goals rfl))⟩

def vX5_rotated (x : Int64) (k : Nat) (s0 : zSt) : Int64 :=
    (zus x k) ||| (zsl x (64 - k))
set_option maxHeartbeats 4000000 in
set_option maxRecDepth 100000 in
theorem k_X5_rotated (l : Launch) (D : va_G) (kc : Nat → ClassId) (ad : Nat → Nat) (n : Nat) (hn : 0 ≤ n) (x : Int64) (k : Nat) (hk : 1 ≤ k ∧ k < 64) (s0 : zSt) : zM l yX5_rotated cX5_rotated 3 (some .long) rX5_rotated (wX D kc ad n) [.long x, .int (nI (k))] s0 (zV1 (.long (vX5_rotated x k s0)) s0) := by
  refine z_of (own := RX5) (by decide +kernel) rfl (Nat.le_of_ble_eq_true rfl) ?_
  intro κ C R0
  refine j_at [(0, .long x), (2, .int (nI (k)))] ⟨rfl, rfl, trivial⟩ ?_
  refine j_lload_n C dX5_rotated_0 rfl rfl ?_
  refine j_iload_n C dX5_rotated_1 rfl rfl ?_
  refine j_lushr C dX5_rotated_2 (by omega) ?_
  refine j_lload_n C dX5_rotated_3 rfl rfl ?_
  refine j_bipush (v := nI 64) C dX5_rotated_4 (by decide +kernel) ?_
  refine j_iload_n C dX5_rotated_6 rfl rfl ?_
  refine j_isubN C dX5_rotated_7 (by omega) ?_
  refine j_lshl C dX5_rotated_8 (by omega) ?_
  refine j_lor C dX5_rotated_9 ?_
  exact j_lret (st := []) C R0 dX5_rotated_10 ⟨(by unfold vX5_rotated; (try dsimp only); all_goals ((try simp only [zfst_mk, zsnd_mk]); all_goals rfl)), ((by rfl))⟩

def fX5_turned_5 (x : Int64) (i2 : Nat) (z3 : Int64) : Int64 :=
    let x5 := (zsl z3 8) ||| ((zus x (8 * i2)) &&& ((255 : Int64)))
    x5
def vX5_turned (x : Int64) (s0 : zSt) : Int64 :=
    let x1 := (0 : Int64)
    let u8 := ziter (fX5_turned_5 x) 0 8 x1
    u8
set_option maxHeartbeats 4000000 in
set_option maxRecDepth 100000 in
theorem k_X5_turned (l : Launch) (D : va_G) (kc : Nat → ClassId) (ad : Nat → Nat) (n : Nat) (hn : 0 ≤ n) (x : Int64) (s0 : zSt) : zM l yX5_turned cX5_turned 5 (some .long) rX5_turned (wX D kc ad n) [.long x] s0 (zV1 (.long (vX5_turned x s0)) s0) := by
  refine z_of (own := RX5) (by decide +kernel) rfl (Nat.le_of_ble_eq_true rfl) ?_
  intro κ C R0
  refine j_at [(0, .long x)] ⟨rfl, trivial⟩ ?_
  refine j_lconst (v := 0) C dX5_turned_0 rfl ?_
  refine j_nmL (fun x1 ex1 => ?_)
  refine j_lstore_n C dX5_turned_1 rfl (by decide) ?_
  refine j_iconst (v := nI 0) C dX5_turned_2 (by decide +kernel) ?_
  refine j_istore C dX5_turned_3 (by decide) ?_
  refine j_at [(0, .long x), (2, .long x1), (4, .int (nI (0)))] ⟨rfl, rfl, rfl, trivial⟩ ?_
  refine z_up (α := Int64) (fun (i2 : Nat) (z3 : Int64) => zJ κ (wX D kc ad n) 5 (zlof [(0, .long x), (2, .long z3), (4, .int (nI (i2)))]) [] s0) (fX5_turned_5 x) (fun _ _ => True) 8 ?_ (fun _ _ _ _ => trivial) 8 0 x1 (by omega) trivial ?_
  · intro i2 z3 hi2 hIi2 k0
    refine j_iload C dX5_turned_5 rfl ?_
    refine j_bipush (v := nI 8) C dX5_turned_7 (by decide +kernel) ?_
    refine j_icmp_geN (tgt := 35) C dX5_turned_9 (by decide) (by omega) (by omega) (fun q4 => False.elim (by omega)) (fun q4 => ?_)
    refine j_lload_n C dX5_turned_12 rfl rfl ?_
    refine j_bipush (v := nI 8) C dX5_turned_13 (by decide +kernel) ?_
    refine j_lshl C dX5_turned_15 (by omega) ?_
    refine j_lload_n C dX5_turned_16 rfl rfl ?_
    refine j_bipush (v := nI 8) C dX5_turned_17 (by decide +kernel) ?_
    refine j_iload C dX5_turned_19 rfl ?_
    refine j_imulN C dX5_turned_21 ?_
    refine j_lushr C dX5_turned_22 (by omega) ?_
    refine j_ldc2 C dX5_turned_23 mw_35_23 ?_
    refine j_land C dX5_turned_26 ?_
    refine j_lor C dX5_turned_27 ?_
    refine j_nmL (fun x5 ex5 => ?_)
    refine j_lstore_n C dX5_turned_28 rfl (by decide) ?_
    refine j_iincN (b := 1) C dX5_turned_29 rfl (by decide +kernel) (by decide) ?_
    refine j_goto (tgt := 5) C dX5_turned_32 (by decide) ?_
    refine j_at [(0, .long x), (2, .long x5), (4, .int (nI (i2 + 1)))] ⟨rfl, rfl, rfl, trivial⟩ ?_
    have eF : (fX5_turned_5 x) i2 z3 = x5 := by (try rw [ex5]); unfold fX5_turned_5; first | done | (dsimp only; done) | rfl
    exact Eq.mp (congrArg (fun (z7 : Int64) => zJ κ (wX D kc ad n) 5 (zlof [(0, .long x), (2, .long z7), (4, .int (nI (i2 + 1)))]) [] s0) eF) (k0 trivial)
  · intro hIi2
    refine z_nm (P := fun (z3 : Int64) => zJ κ (wX D kc ad n) 5 (zlof [(0, .long x), (2, .long z3), (4, .int (nI (8)))]) [] s0) (fun u8 eu8 => ?_)
    refine j_iload C dX5_turned_5 rfl ?_
    refine j_bipush (v := nI 8) C dX5_turned_7 (by decide +kernel) ?_
    refine j_icmp_geN (tgt := 35) C dX5_turned_9 (by decide) (by omega) (by omega) (fun q9 => ?_) (fun q9 => False.elim (by omega))
    refine j_lload_n C dX5_turned_35 rfl rfl ?_
    exact j_lret (st := []) C R0 dX5_turned_36 ⟨(by (try rw [eu8]); (try rw [ex1]); unfold vX5_turned; (try dsimp only); all_goals ((try simp only [zfst_mk, zsnd_mk]); all_goals rfl)), ((by (try rw [eu8]); (try rw [ex1]); rfl))⟩

def fX5_fillSchedule_13 (b0 : Nat) (i1 : Nat) (z2 : zSt) (i5 : Nat) (z6 : Int64) : Int64 :=
    let x8 := (zsl z6 8) ||| ((nI ((z2.2.1 176 ((b0 + (8 * i1)) + i5)).toBitVec.toNat % 2 ^ 8)).toInt64)
    x8
def fX5_fillSchedule_2 (b0 : Nat) (i1 : Nat) (z2 : zSt) : zSt :=
    let x4 := (0 : Int64)
    let u11 := ziter (fX5_fillSchedule_13 b0 i1 z2) 0 8 x4
    let t13 := zW z2 177 i1 u11
    t13
def fX5_fillSchedule_67  (i18 : Nat) (z19 : zSt) : zSt :=
    let x21 := z19.1 177 (i18 - 15)
    let x22 := z19.1 177 (i18 - 2)
    let x23 := ((vX5_rotated x21 1 z19) ^^^ (vX5_rotated x21 8 z19)) ^^^ (zus x21 7)
    let x24 := ((vX5_rotated x22 19 z19) ^^^ (vX5_rotated x22 61 z19)) ^^^ (zus x22 6)
    let t25 := zW z19 177 i18 ((((z19.1 177 (i18 - 16)) + x23) + (z19.1 177 (i18 - 7))) + x24)
    t25
def fX5_fillSchedule (b0 : Nat) (s0 : zSt) : zSt :=
    let u16 := ziter (fX5_fillSchedule_2 b0) 0 16 s0
    let u28 := ziter fX5_fillSchedule_67 16 64 u16
    u28
set_option maxHeartbeats 4000000 in
set_option maxRecDepth 100000 in
theorem k_X5_fillSchedule (l : Launch) (D : va_G) (kc : Nat → ClassId) (ad : Nat → Nat) (n : Nat) (hn : 180 ≤ n) (b0 : Nat) (hb0 : b0 ≤ 384) (s0 : zSt) : zM l yX5_fillSchedule cX5_fillSchedule 11 none rX5_fillSchedule (wX D kc ad n) [.ref (zad (wX D kc ad n) 179), .int (nI (b0))] s0 (zV0 (fX5_fillSchedule b0 s0)) := by
  refine z_of (own := RX5) (by decide +kernel) rfl (Nat.le_of_ble_eq_true rfl) ?_
  intro κ C R0
  refine j_at [(0, .ref (zad (wX D kc ad n) 179)), (1, .int (nI (b0)))] ⟨rfl, rfl, trivial⟩ ?_
  refine j_iconst (v := nI 0) C dX5_fillSchedule_0 (by decide +kernel) ?_
  refine j_istore_n C dX5_fillSchedule_1 rfl (by decide) ?_
  refine j_at [(0, .ref (zad (wX D kc ad n) 179)), (1, .int (nI (b0))), (2, .int (nI (0)))] ⟨rfl, rfl, rfl, trivial⟩ ?_
  refine z_up (α := zSt) (fun (i1 : Nat) (z2 : zSt) => zJ κ (wX D kc ad n) 2 (zlof [(0, .ref (zad (wX D kc ad n) 179)), (1, .int (nI (b0))), (2, .int (nI (i1)))]) [] z2) (fX5_fillSchedule_2 b0) (fun _ _ => True) 16 ?_ (fun _ _ _ _ => trivial) 16 0 s0 (by omega) trivial ?_
  · intro i1 z2 hi1 hIi1 k0
    refine j_iload_n C dX5_fillSchedule_2 rfl rfl ?_
    refine j_bipush (v := nI 16) C dX5_fillSchedule_3 (by decide +kernel) ?_
    refine j_icmp_geN (tgt := 64) C dX5_fillSchedule_5 (by decide) (by omega) (by omega) (fun q3 => False.elim (by omega)) (fun q3 => ?_)
    refine j_lconst (v := 0) C dX5_fillSchedule_8 rfl ?_
    refine j_nmL (fun x4 ex4 => ?_)
    refine j_lstore_n C dX5_fillSchedule_9 rfl (by decide) ?_
    refine j_iconst (v := nI 0) C dX5_fillSchedule_10 (by decide +kernel) ?_
    refine j_istore C dX5_fillSchedule_11 (by decide) ?_
    refine j_at [(0, .ref (zad (wX D kc ad n) 179)), (1, .int (nI (b0))), (2, .int (nI (i1))), (3, .long x4), (5, .int (nI (0)))] ⟨rfl, rfl, rfl, rfl, rfl, trivial⟩ ?_
    refine z_up (α := Int64) (fun (i5 : Nat) (z6 : Int64) => zJ κ (wX D kc ad n) 13 (zlof [(0, .ref (zad (wX D kc ad n) 179)), (1, .int (nI (b0))), (2, .int (nI (i1))), (3, .long z6), (5, .int (nI (i5)))]) [] z2) (fX5_fillSchedule_13 b0 i1 z2) (fun _ _ => True) 8 ?_ (fun _ _ _ _ => trivial) 8 0 x4 (by omega) trivial ?_
    · intro i5 z6 hi5 hIi5 k0
      refine j_iload C dX5_fillSchedule_13 rfl ?_
      refine j_bipush (v := nI 8) C dX5_fillSchedule_15 (by decide +kernel) ?_
      refine j_icmp_geN (tgt := 51) C dX5_fillSchedule_17 (by decide) (by omega) (by omega) (fun q7 => False.elim (by omega)) (fun q7 => ?_)
      refine j_lload_n C dX5_fillSchedule_20 rfl rfl ?_
      refine j_bipush (v := nI 8) C dX5_fillSchedule_21 (by decide +kernel) ?_
      refine j_lshl C dX5_fillSchedule_23 (by omega) ?_
      refine j_aload_n C dX5_fillSchedule_24 rfl rfl ?_
      refine j_getR C dX5_fillSchedule_25 (fx_RX5_11 D kc ad n) (show 11 ≤ 179 by decide) (show 179 < n by omega) ?_
      refine j_iload_n C dX5_fillSchedule_28 rfl rfl ?_
      refine j_bipush (v := nI 8) C dX5_fillSchedule_29 (by decide +kernel) ?_
      refine j_iload_n C dX5_fillSchedule_31 rfl rfl ?_
      refine j_imulN C dX5_fillSchedule_32 ?_
      refine j_iaddN C dX5_fillSchedule_33 ?_
      refine j_iload C dX5_fillSchedule_34 rfl ?_
      refine j_iaddN C dX5_fillSchedule_36 ?_
      refine x_bald C dX5_fillSchedule_37 (⟨rfl, rfl, by omega, by decide, by decide⟩ : ba n 512 176) (by omega) ?_
      refine j_sipush (v := nI 255) C dX5_fillSchedule_38 (by decide +kernel) ?_
      refine j_iand C dX5_fillSchedule_41 ?_
      refine j_top (v := .int (nI ((z2.2.1 176 ((b0 + (8 * i1)) + i5)).toBitVec.toNat % 2 ^ 8))) (congrArg Value.int (pk_and _ 8 (by decide +kernel))) ?_
      refine j_i2l C dX5_fillSchedule_42 ?_
      refine j_lor C dX5_fillSchedule_43 ?_
      refine j_nmL (fun x8 ex8 => ?_)
      refine j_lstore_n C dX5_fillSchedule_44 rfl (by decide) ?_
      refine j_iincN (b := 1) C dX5_fillSchedule_45 rfl (by decide +kernel) (by decide) ?_
      refine j_goto (tgt := 13) C dX5_fillSchedule_48 (by decide) ?_
      refine j_at [(0, .ref (zad (wX D kc ad n) 179)), (1, .int (nI (b0))), (2, .int (nI (i1))), (3, .long x8), (5, .int (nI (i5 + 1)))] ⟨rfl, rfl, rfl, rfl, rfl, trivial⟩ ?_
      have eF : (fX5_fillSchedule_13 b0 i1 z2) i5 z6 = x8 := by (try rw [ex8]); unfold fX5_fillSchedule_13; first | done | (dsimp only; done) | rfl
      exact Eq.mp (congrArg (fun (z10 : Int64) => zJ κ (wX D kc ad n) 13 (zlof [(0, .ref (zad (wX D kc ad n) 179)), (1, .int (nI (b0))), (2, .int (nI (i1))), (3, .long z10), (5, .int (nI (i5 + 1)))]) [] z2) eF) (k0 trivial)
    · intro hIi5
      refine z_nm (P := fun (z6 : Int64) => zJ κ (wX D kc ad n) 13 (zlof [(0, .ref (zad (wX D kc ad n) 179)), (1, .int (nI (b0))), (2, .int (nI (i1))), (3, .long z6), (5, .int (nI (8)))]) [] z2) (fun u11 eu11 => ?_)
      refine j_iload C dX5_fillSchedule_13 rfl ?_
      refine j_bipush (v := nI 8) C dX5_fillSchedule_15 (by decide +kernel) ?_
      refine j_icmp_geN (tgt := 51) C dX5_fillSchedule_17 (by decide) (by omega) (by omega) (fun q12 => ?_) (fun q12 => False.elim (by omega))
      refine j_aload_n C dX5_fillSchedule_51 rfl rfl ?_
      refine j_getR C dX5_fillSchedule_52 (fx_RX5_19 D kc ad n) (show 11 ≤ 179 by decide) (show 179 < n by omega) ?_
      refine j_iload_n C dX5_fillSchedule_55 rfl rfl ?_
      refine j_lload_n C dX5_fillSchedule_56 rfl rfl ?_
      refine x_last C dX5_fillSchedule_57 (⟨⟨rfl, rfl, by omega, by decide⟩, by decide⟩ : wa n 80 177) (by omega) ?_
      refine j_nmS (fun t13 et13 => ?_)
      refine j_iincN (b := 1) C dX5_fillSchedule_58 rfl (by decide +kernel) (by decide) ?_
      refine j_goto (tgt := 2) C dX5_fillSchedule_61 (by decide) ?_
      refine j_nmS (fun t14 et14 => ?_)
      refine j_at [(0, .ref (zad (wX D kc ad n) 179)), (1, .int (nI (b0))), (2, .int (nI (i1 + 1)))] ⟨rfl, rfl, rfl, trivial⟩ ?_
      have eF : (fX5_fillSchedule_2 b0) i1 z2 = t14 := by rw [et14]; (try rw [et13]); (try rw [eu11]); (try rw [ex4]); unfold fX5_fillSchedule_2; first | done | (dsimp only; done) | rfl
      exact Eq.mp (congrArg (fun (z15 : zSt) => zJ κ (wX D kc ad n) 2 (zlof [(0, .ref (zad (wX D kc ad n) 179)), (1, .int (nI (b0))), (2, .int (nI (i1 + 1)))]) [] z15) eF) (k0 trivial)
  · intro hIi1
    refine z_nm (P := fun (z2 : zSt) => zJ κ (wX D kc ad n) 2 (zlof [(0, .ref (zad (wX D kc ad n) 179)), (1, .int (nI (b0))), (2, .int (nI (16)))]) [] z2) (fun u16 eu16 => ?_)
    refine j_iload_n C dX5_fillSchedule_2 rfl rfl ?_
    refine j_bipush (v := nI 16) C dX5_fillSchedule_3 (by decide +kernel) ?_
    refine j_icmp_geN (tgt := 64) C dX5_fillSchedule_5 (by decide) (by omega) (by omega) (fun q17 => ?_) (fun q17 => False.elim (by omega))
    refine j_bipush (v := nI 16) C dX5_fillSchedule_64 (by decide +kernel) ?_
    refine j_istore_n C dX5_fillSchedule_66 rfl (by decide) ?_
    refine j_at [(0, .ref (zad (wX D kc ad n) 179)), (2, .int (nI (16)))] ⟨rfl, rfl, trivial⟩ ?_
    refine z_up (α := zSt) (fun (i18 : Nat) (z19 : zSt) => zJ κ (wX D kc ad n) 67 (zlof [(0, .ref (zad (wX D kc ad n) 179)), (2, .int (nI (i18)))]) [] z19) fX5_fillSchedule_67 (fun i18 z19 => 16 ≤ i18) 80 ?_ (fun _ _ _ h => by omega) 64 16 u16 (by omega) ((Nat.le_refl _)) ?_
    · intro i18 z19 hi18 hIi18 k0
      refine j_iload_n C dX5_fillSchedule_67 rfl rfl ?_
      refine j_bipush (v := nI 80) C dX5_fillSchedule_68 (by decide +kernel) ?_
      refine j_icmp_geN (tgt := 172) C dX5_fillSchedule_70 (by decide) (by omega) (by omega) (fun q20 => False.elim (by omega)) (fun q20 => ?_)
      refine j_aload_n C dX5_fillSchedule_73 rfl rfl ?_
      refine j_getR C dX5_fillSchedule_74 (fx_RX5_19 D kc ad n) (show 11 ≤ 179 by decide) (show 179 < n by omega) ?_
      refine j_iload_n C dX5_fillSchedule_77 rfl rfl ?_
      refine j_bipush (v := nI 15) C dX5_fillSchedule_78 (by decide +kernel) ?_
      refine j_isubN C dX5_fillSchedule_80 (by omega) ?_
      refine x_lald C dX5_fillSchedule_81 (⟨⟨rfl, rfl, by omega, by decide⟩, by decide⟩ : wa n 80 177).1 (by omega) ?_
      refine j_nmL (fun x21 ex21 => ?_)
      refine j_lstore_n C dX5_fillSchedule_82 rfl (by decide) ?_
      refine j_aload_n C dX5_fillSchedule_83 rfl rfl ?_
      refine j_getR C dX5_fillSchedule_84 (fx_RX5_19 D kc ad n) (show 11 ≤ 179 by decide) (show 179 < n by omega) ?_
      refine j_iload_n C dX5_fillSchedule_87 rfl rfl ?_
      refine j_iconst (v := nI 2) C dX5_fillSchedule_88 (by decide +kernel) ?_
      refine j_isubN C dX5_fillSchedule_89 (by omega) ?_
      refine x_lald C dX5_fillSchedule_90 (⟨⟨rfl, rfl, by omega, by decide⟩, by decide⟩ : wa n 80 177).1 (by omega) ?_
      refine j_nmL (fun x22 ex22 => ?_)
      refine j_lstore C dX5_fillSchedule_91 (by decide) ?_
      refine j_lload_n C dX5_fillSchedule_93 rfl rfl ?_
      refine j_iconst (v := nI 1) C dX5_fillSchedule_94 (by decide +kernel) ?_
      refine j_callS1 C dX5_fillSchedule_95 (k_X5_rotated l D kc ad n (by omega) x21 1 (by omega) _ ) zy_X5_rotated mw_35_11 rfl rfl (Nat.le_of_ble_eq_true rfl) ⟨rfl, rfl, Nat.le_of_ble_eq_true rfl, Nat.le_of_ble_eq_true rfl⟩ ?_
      refine j_lload_n C dX5_fillSchedule_98 rfl rfl ?_
      refine j_bipush (v := nI 8) C dX5_fillSchedule_99 (by decide +kernel) ?_
      refine j_callS1 C dX5_fillSchedule_101 (k_X5_rotated l D kc ad n (by omega) x21 8 (by omega) _ ) zy_X5_rotated mw_35_11 rfl rfl (Nat.le_of_ble_eq_true rfl) ⟨rfl, rfl, Nat.le_of_ble_eq_true rfl, Nat.le_of_ble_eq_true rfl⟩ ?_
      refine j_lxor C dX5_fillSchedule_104 ?_
      refine j_lload_n C dX5_fillSchedule_105 rfl rfl ?_
      refine j_bipush (v := nI 7) C dX5_fillSchedule_106 (by decide +kernel) ?_
      refine j_lushr C dX5_fillSchedule_108 (by omega) ?_
      refine j_lxor C dX5_fillSchedule_109 ?_
      refine j_nmL (fun x23 ex23 => ?_)
      refine j_lstore C dX5_fillSchedule_110 (by decide) ?_
      refine j_lload C dX5_fillSchedule_112 rfl ?_
      refine j_bipush (v := nI 19) C dX5_fillSchedule_114 (by decide +kernel) ?_
      refine j_callS1 C dX5_fillSchedule_116 (k_X5_rotated l D kc ad n (by omega) x22 19 (by omega) _ ) zy_X5_rotated mw_35_11 rfl rfl (Nat.le_of_ble_eq_true rfl) ⟨rfl, rfl, Nat.le_of_ble_eq_true rfl, Nat.le_of_ble_eq_true rfl⟩ ?_
      refine j_lload C dX5_fillSchedule_119 rfl ?_
      refine j_bipush (v := nI 61) C dX5_fillSchedule_121 (by decide +kernel) ?_
      refine j_callS1 C dX5_fillSchedule_123 (k_X5_rotated l D kc ad n (by omega) x22 61 (by omega) _ ) zy_X5_rotated mw_35_11 rfl rfl (Nat.le_of_ble_eq_true rfl) ⟨rfl, rfl, Nat.le_of_ble_eq_true rfl, Nat.le_of_ble_eq_true rfl⟩ ?_
      refine j_lxor C dX5_fillSchedule_126 ?_
      refine j_lload C dX5_fillSchedule_127 rfl ?_
      refine j_bipush (v := nI 6) C dX5_fillSchedule_129 (by decide +kernel) ?_
      refine j_lushr C dX5_fillSchedule_131 (by omega) ?_
      refine j_lxor C dX5_fillSchedule_132 ?_
      refine j_nmL (fun x24 ex24 => ?_)
      refine j_lstore C dX5_fillSchedule_133 (by decide) ?_
      refine j_aload_n C dX5_fillSchedule_135 rfl rfl ?_
      refine j_getR C dX5_fillSchedule_136 (fx_RX5_19 D kc ad n) (show 11 ≤ 179 by decide) (show 179 < n by omega) ?_
      refine j_iload_n C dX5_fillSchedule_139 rfl rfl ?_
      refine j_aload_n C dX5_fillSchedule_140 rfl rfl ?_
      refine j_getR C dX5_fillSchedule_141 (fx_RX5_19 D kc ad n) (show 11 ≤ 179 by decide) (show 179 < n by omega) ?_
      refine j_iload_n C dX5_fillSchedule_144 rfl rfl ?_
      refine j_bipush (v := nI 16) C dX5_fillSchedule_145 (by decide +kernel) ?_
      refine j_isubN C dX5_fillSchedule_147 (by omega) ?_
      refine x_lald C dX5_fillSchedule_148 (⟨⟨rfl, rfl, by omega, by decide⟩, by decide⟩ : wa n 80 177).1 (by omega) ?_
      refine j_lload C dX5_fillSchedule_149 rfl ?_
      refine j_ladd C dX5_fillSchedule_151 ?_
      refine j_aload_n C dX5_fillSchedule_152 rfl rfl ?_
      refine j_getR C dX5_fillSchedule_153 (fx_RX5_19 D kc ad n) (show 11 ≤ 179 by decide) (show 179 < n by omega) ?_
      refine j_iload_n C dX5_fillSchedule_156 rfl rfl ?_
      refine j_bipush (v := nI 7) C dX5_fillSchedule_157 (by decide +kernel) ?_
      refine j_isubN C dX5_fillSchedule_159 (by omega) ?_
      refine x_lald C dX5_fillSchedule_160 (⟨⟨rfl, rfl, by omega, by decide⟩, by decide⟩ : wa n 80 177).1 (by omega) ?_
      refine j_ladd C dX5_fillSchedule_161 ?_
      refine j_lload C dX5_fillSchedule_162 rfl ?_
      refine j_ladd C dX5_fillSchedule_164 ?_
      refine x_last C dX5_fillSchedule_165 (⟨⟨rfl, rfl, by omega, by decide⟩, by decide⟩ : wa n 80 177) (by omega) ?_
      refine j_nmS (fun t25 et25 => ?_)
      refine j_iincN (b := 1) C dX5_fillSchedule_166 rfl (by decide +kernel) (by decide) ?_
      refine j_goto (tgt := 67) C dX5_fillSchedule_169 (by decide) ?_
      refine j_nmS (fun t26 et26 => ?_)
      refine j_at [(0, .ref (zad (wX D kc ad n) 179)), (2, .int (nI (i18 + 1)))] ⟨rfl, rfl, trivial⟩ ?_
      have eF : fX5_fillSchedule_67 i18 z19 = t26 := by rw [et26]; (try rw [et25]); (try rw [ex24]); (try rw [ex23]); (try rw [ex22]); (try rw [ex21]); unfold fX5_fillSchedule_67; first | done | (dsimp only; done) | rfl
      exact Eq.mp (congrArg (fun (z27 : zSt) => zJ κ (wX D kc ad n) 67 (zlof [(0, .ref (zad (wX D kc ad n) 179)), (2, .int (nI (i18 + 1)))]) [] z27) eF) (k0 ((by omega)))
    · intro hIi18
      revert hIi18
      refine z_nm (P := fun (z19 : zSt) => (fun i18 z19 => 16 ≤ i18) 80 z19 → zJ κ (wX D kc ad n) 67 (zlof [(0, .ref (zad (wX D kc ad n) 179)), (2, .int (nI (80)))]) [] z19) (fun u28 eu28 => ?_)
      intro hIi18
      refine j_iload_n C dX5_fillSchedule_67 rfl rfl ?_
      refine j_bipush (v := nI 80) C dX5_fillSchedule_68 (by decide +kernel) ?_
      refine j_icmp_geN (tgt := 172) C dX5_fillSchedule_70 (by decide) (by omega) (by omega) (fun q29 => ?_) (fun q29 => False.elim (by omega))
      exact j_vret (st := []) C R0 dX5_fillSchedule_172 ⟨rfl, (by (try rw [eu28]); (try rw [eu16]); unfold fX5_fillSchedule; (try dsimp only); all_goals ((try simp only [zfst_mk, zsnd_mk]); all_goals rfl))⟩
theorem k2_fX5_fillSchedule_2 (b0 : Nat) (i1 : Nat) (z2 : zSt) : zk2 (fX5_fillSchedule_2 b0 i1 z2) = zk2 z2 := by
  unfold fX5_fillSchedule_2
  (try dsimp only)
  all_goals (simp only [zW_2, zL_2]; done)
theorem k2it_fX5_fillSchedule_2 (b0 : Nat) (nn ii : Nat) (xx : zSt) : zk2 (ziter (fX5_fillSchedule_2 b0) ii nn xx) = zk2 xx := ziter_keep (fun x => zk2 x) _ (k2_fX5_fillSchedule_2 b0) nn ii xx
theorem k2_fX5_fillSchedule_67  (i18 : Nat) (z19 : zSt) : zk2 (fX5_fillSchedule_67  i18 z19) = zk2 z19 := by
  unfold fX5_fillSchedule_67
  (try dsimp only)
  all_goals (simp only [zW_2, zL_2]; done)
theorem k2it_fX5_fillSchedule_67  (nn ii : Nat) (xx : zSt) : zk2 (ziter (fX5_fillSchedule_67 ) ii nn xx) = zk2 xx := ziter_keep (fun x => zk2 x) _ (k2_fX5_fillSchedule_67 ) nn ii xx
theorem k2_fX5_fillSchedule (b0 : Nat) (s0 : zSt) : zk2 (fX5_fillSchedule b0 s0) = zk2 s0 := by
  unfold fX5_fillSchedule
  (try dsimp only)
  all_goals (simp only [zW_2, zL_2, k2_fX5_fillSchedule_2, k2_fX5_fillSchedule_67, k2it_fX5_fillSchedule_2, k2it_fX5_fillSchedule_67]; done)
theorem i2_fX5_fillSchedule (b0 : Nat) (s0 : zSt) (kk9 : Nat) : (fX5_fillSchedule b0 s0).2.2 kk9 = s0.2.2 kk9 := z2_I (k2_fX5_fillSchedule b0 s0) kk9
theorem i3_fX5_fillSchedule (b0 : Nat) (s0 : zSt) (kk9 : Nat) : zi (fX5_fillSchedule b0 s0) kk9 = zi s0 kk9 := zi_of (k2_fX5_fillSchedule b0 s0) kk9

def fX5_mix_67 (s0 : zSt) (i9 : Nat) (z10 : Int64 × Int64 × Int64 × Int64 × Int64 × Int64 × Int64 × Int64) : Int64 × Int64 × Int64 × Int64 × Int64 × Int64 × Int64 × Int64 :=
    let x12 := ((vX5_rotated z10.2.2.2.2.1 14 s0) ^^^ (vX5_rotated z10.2.2.2.2.1 18 s0)) ^^^ (vX5_rotated z10.2.2.2.2.1 41 s0)
    let x13 := (z10.2.2.2.2.1 &&& z10.2.2.2.2.2.1) ^^^ ((z10.2.2.2.2.1 ^^^ ((-1 : Int64))) &&& z10.2.2.2.2.2.2.1)
    let x14 := (((z10.2.2.2.2.2.2.2 + x12) + x13) + (s0.1 10 i9)) + (s0.1 177 i9)
    let x15 := ((vX5_rotated z10.1 28 s0) ^^^ (vX5_rotated z10.1 34 s0)) ^^^ (vX5_rotated z10.1 39 s0)
    let x16 := ((z10.1 &&& z10.2.1) ^^^ (z10.1 &&& z10.2.2.1)) ^^^ (z10.2.1 &&& z10.2.2.1)
    let x17 := z10.2.2.2.2.2.2.1
    let x18 := z10.2.2.2.2.2.1
    let x19 := z10.2.2.2.2.1
    let x20 := z10.2.2.2.1 + x14
    let x21 := z10.2.2.1
    let x22 := z10.2.1
    let x23 := z10.1
    let x24 := (x14 + x15) + x16
    (x24, x23, x22, x21, x20, x19, x18, x17)
def fX5_mix  (s0 : zSt) : zSt :=
    let x1 := s0.1 178 0
    let x2 := s0.1 178 1
    let x3 := s0.1 178 2
    let x4 := s0.1 178 3
    let x5 := s0.1 178 4
    let x6 := s0.1 178 5
    let x7 := s0.1 178 6
    let x8 := s0.1 178 7
    let u27 := ziter (fX5_mix_67 s0) 0 80 (x1, x2, x3, x4, x5, x6, x7, x8)
    let t29 := zW s0 178 0 ((s0.1 178 0) + u27.1)
    let t30 := zW t29 178 1 ((t29.1 178 1) + u27.2.1)
    let t31 := zW t30 178 2 ((t30.1 178 2) + u27.2.2.1)
    let t32 := zW t31 178 3 ((t31.1 178 3) + u27.2.2.2.1)
    let t33 := zW t32 178 4 ((t32.1 178 4) + u27.2.2.2.2.1)
    let t34 := zW t33 178 5 ((t33.1 178 5) + u27.2.2.2.2.2.1)
    let t35 := zW t34 178 6 ((t34.1 178 6) + u27.2.2.2.2.2.2.1)
    let t36 := zW t35 178 7 ((t35.1 178 7) + u27.2.2.2.2.2.2.2)
    t36
set_option maxHeartbeats 4000000 in
set_option maxRecDepth 100000 in
theorem k_X5_mix (l : Launch) (D : va_G) (kc : Nat → ClassId) (ad : Nat → Nat) (n : Nat) (hn : 180 ≤ n)  (s0 : zSt) : zM l yX5_mix cX5_mix 28 none rX5_mix (wX D kc ad n) [.ref (zad (wX D kc ad n) 179)] s0 (zV0 (fX5_mix  s0)) := by
  refine z_of (own := RX5) (by decide +kernel) rfl (Nat.le_of_ble_eq_true rfl) ?_
  intro κ C R0
  refine j_at [(0, .ref (zad (wX D kc ad n) 179))] ⟨rfl, trivial⟩ ?_
  refine j_aload_n C dX5_mix_0 rfl rfl ?_
  refine j_getR C dX5_mix_1 (fx_RX5_23 D kc ad n) (show 11 ≤ 179 by decide) (show 179 < n by omega) ?_
  refine j_iconst (v := nI 0) C dX5_mix_4 (by decide +kernel) ?_
  refine x_lald C dX5_mix_5 (⟨⟨rfl, rfl, by omega, by decide⟩, by decide⟩ : wa n 8 178).1 (by omega) ?_
  refine j_nmL (fun x1 ex1 => ?_)
  refine j_lstore_n C dX5_mix_6 rfl (by decide) ?_
  refine j_aload_n C dX5_mix_7 rfl rfl ?_
  refine j_getR C dX5_mix_8 (fx_RX5_23 D kc ad n) (show 11 ≤ 179 by decide) (show 179 < n by omega) ?_
  refine j_iconst (v := nI 1) C dX5_mix_11 (by decide +kernel) ?_
  refine x_lald C dX5_mix_12 (⟨⟨rfl, rfl, by omega, by decide⟩, by decide⟩ : wa n 8 178).1 (by omega) ?_
  refine j_nmL (fun x2 ex2 => ?_)
  refine j_lstore_n C dX5_mix_13 rfl (by decide) ?_
  refine j_aload_n C dX5_mix_14 rfl rfl ?_
  refine j_getR C dX5_mix_15 (fx_RX5_23 D kc ad n) (show 11 ≤ 179 by decide) (show 179 < n by omega) ?_
  refine j_iconst (v := nI 2) C dX5_mix_18 (by decide +kernel) ?_
  refine x_lald C dX5_mix_19 (⟨⟨rfl, rfl, by omega, by decide⟩, by decide⟩ : wa n 8 178).1 (by omega) ?_
  refine j_nmL (fun x3 ex3 => ?_)
  refine j_lstore C dX5_mix_20 (by decide) ?_
  refine j_aload_n C dX5_mix_22 rfl rfl ?_
  refine j_getR C dX5_mix_23 (fx_RX5_23 D kc ad n) (show 11 ≤ 179 by decide) (show 179 < n by omega) ?_
  refine j_iconst (v := nI 3) C dX5_mix_26 (by decide +kernel) ?_
  refine x_lald C dX5_mix_27 (⟨⟨rfl, rfl, by omega, by decide⟩, by decide⟩ : wa n 8 178).1 (by omega) ?_
  refine j_nmL (fun x4 ex4 => ?_)
  refine j_lstore C dX5_mix_28 (by decide) ?_
  refine j_aload_n C dX5_mix_30 rfl rfl ?_
  refine j_getR C dX5_mix_31 (fx_RX5_23 D kc ad n) (show 11 ≤ 179 by decide) (show 179 < n by omega) ?_
  refine j_iconst (v := nI 4) C dX5_mix_34 (by decide +kernel) ?_
  refine x_lald C dX5_mix_35 (⟨⟨rfl, rfl, by omega, by decide⟩, by decide⟩ : wa n 8 178).1 (by omega) ?_
  refine j_nmL (fun x5 ex5 => ?_)
  refine j_lstore C dX5_mix_36 (by decide) ?_
  refine j_aload_n C dX5_mix_38 rfl rfl ?_
  refine j_getR C dX5_mix_39 (fx_RX5_23 D kc ad n) (show 11 ≤ 179 by decide) (show 179 < n by omega) ?_
  refine j_iconst (v := nI 5) C dX5_mix_42 (by decide +kernel) ?_
  refine x_lald C dX5_mix_43 (⟨⟨rfl, rfl, by omega, by decide⟩, by decide⟩ : wa n 8 178).1 (by omega) ?_
  refine j_nmL (fun x6 ex6 => ?_)
  refine j_lstore C dX5_mix_44 (by decide) ?_
  refine j_aload_n C dX5_mix_46 rfl rfl ?_
  refine j_getR C dX5_mix_47 (fx_RX5_23 D kc ad n) (show 11 ≤ 179 by decide) (show 179 < n by omega) ?_
  refine j_bipush (v := nI 6) C dX5_mix_50 (by decide +kernel) ?_
  refine x_lald C dX5_mix_52 (⟨⟨rfl, rfl, by omega, by decide⟩, by decide⟩ : wa n 8 178).1 (by omega) ?_
  refine j_nmL (fun x7 ex7 => ?_)
  refine j_lstore C dX5_mix_53 (by decide) ?_
  refine j_aload_n C dX5_mix_55 rfl rfl ?_
  refine j_getR C dX5_mix_56 (fx_RX5_23 D kc ad n) (show 11 ≤ 179 by decide) (show 179 < n by omega) ?_
  refine j_bipush (v := nI 7) C dX5_mix_59 (by decide +kernel) ?_
  refine x_lald C dX5_mix_61 (⟨⟨rfl, rfl, by omega, by decide⟩, by decide⟩ : wa n 8 178).1 (by omega) ?_
  refine j_nmL (fun x8 ex8 => ?_)
  refine j_lstore C dX5_mix_62 (by decide) ?_
  refine j_iconst (v := nI 0) C dX5_mix_64 (by decide +kernel) ?_
  refine j_istore C dX5_mix_65 (by decide) ?_
  refine j_at [(0, .ref (zad (wX D kc ad n) 179)), (1, .long x1), (3, .long x2), (5, .long x3), (7, .long x4), (9, .long x5), (11, .long x6), (13, .long x7), (15, .long x8), (17, .int (nI (0)))] ⟨rfl, rfl, rfl, rfl, rfl, rfl, rfl, rfl, rfl, rfl, trivial⟩ ?_
  refine z_up (α := Int64 × Int64 × Int64 × Int64 × Int64 × Int64 × Int64 × Int64) (fun (i9 : Nat) (z10 : Int64 × Int64 × Int64 × Int64 × Int64 × Int64 × Int64 × Int64) => zJ κ (wX D kc ad n) 67 (zlof [(0, .ref (zad (wX D kc ad n) 179)), (1, .long z10.1), (3, .long z10.2.1), (5, .long z10.2.2.1), (7, .long z10.2.2.2.1), (9, .long z10.2.2.2.2.1), (11, .long z10.2.2.2.2.2.1), (13, .long z10.2.2.2.2.2.2.1), (15, .long z10.2.2.2.2.2.2.2), (17, .int (nI (i9)))]) [] s0) (fX5_mix_67 s0) (fun _ _ => True) 80 ?_ (fun _ _ _ _ => trivial) 80 0 (x1, x2, x3, x4, x5, x6, x7, x8) (by omega) trivial ?_
  · intro i9 z10 hi9 hIi9 k0
    refine j_iload C dX5_mix_67 rfl ?_
    refine j_bipush (v := nI 80) C dX5_mix_69 (by decide +kernel) ?_
    refine j_icmp_geN (tgt := 221) C dX5_mix_71 (by decide) (by omega) (by omega) (fun q11 => False.elim (by omega)) (fun q11 => ?_)
    refine j_lload C dX5_mix_74 rfl ?_
    refine j_bipush (v := nI 14) C dX5_mix_76 (by decide +kernel) ?_
    refine j_callS1 C dX5_mix_78 (k_X5_rotated l D kc ad n (by omega) z10.2.2.2.2.1 14 (by omega) _ ) zy_X5_rotated mw_35_11 rfl rfl (Nat.le_of_ble_eq_true rfl) ⟨rfl, rfl, Nat.le_of_ble_eq_true rfl, Nat.le_of_ble_eq_true rfl⟩ ?_
    refine j_lload C dX5_mix_81 rfl ?_
    refine j_bipush (v := nI 18) C dX5_mix_83 (by decide +kernel) ?_
    refine j_callS1 C dX5_mix_85 (k_X5_rotated l D kc ad n (by omega) z10.2.2.2.2.1 18 (by omega) _ ) zy_X5_rotated mw_35_11 rfl rfl (Nat.le_of_ble_eq_true rfl) ⟨rfl, rfl, Nat.le_of_ble_eq_true rfl, Nat.le_of_ble_eq_true rfl⟩ ?_
    refine j_lxor C dX5_mix_88 ?_
    refine j_lload C dX5_mix_89 rfl ?_
    refine j_bipush (v := nI 41) C dX5_mix_91 (by decide +kernel) ?_
    refine j_callS1 C dX5_mix_93 (k_X5_rotated l D kc ad n (by omega) z10.2.2.2.2.1 41 (by omega) _ ) zy_X5_rotated mw_35_11 rfl rfl (Nat.le_of_ble_eq_true rfl) ⟨rfl, rfl, Nat.le_of_ble_eq_true rfl, Nat.le_of_ble_eq_true rfl⟩ ?_
    refine j_lxor C dX5_mix_96 ?_
    refine j_nmL (fun x12 ex12 => ?_)
    refine j_lstore C dX5_mix_97 (by decide) ?_
    refine j_lload C dX5_mix_99 rfl ?_
    refine j_lload C dX5_mix_101 rfl ?_
    refine j_land C dX5_mix_103 ?_
    refine j_lload C dX5_mix_104 rfl ?_
    refine j_ldc2 C dX5_mix_106 mw_35_18 ?_
    refine j_lxor C dX5_mix_109 ?_
    refine j_lload C dX5_mix_110 rfl ?_
    refine j_land C dX5_mix_112 ?_
    refine j_lxor C dX5_mix_113 ?_
    refine j_nmL (fun x13 ex13 => ?_)
    refine j_lstore C dX5_mix_114 (by decide) ?_
    refine j_lload C dX5_mix_116 rfl ?_
    refine j_lload C dX5_mix_118 rfl ?_
    refine j_ladd C dX5_mix_120 ?_
    refine j_lload C dX5_mix_121 rfl ?_
    refine j_ladd C dX5_mix_123 ?_
    refine j_gets (id := 10) C dX5_mix_124 (show 10 < 11 by decide) rfl mw_35_19 ?_
    refine j_iload C dX5_mix_127 rfl ?_
    refine x_lald C dX5_mix_129 (⟨rfl, rfl, by omega, by decide⟩ : ra n 80 10) (by omega) ?_
    refine j_ladd C dX5_mix_130 ?_
    refine j_aload_n C dX5_mix_131 rfl rfl ?_
    refine j_getR C dX5_mix_132 (fx_RX5_19 D kc ad n) (show 11 ≤ 179 by decide) (show 179 < n by omega) ?_
    refine j_iload C dX5_mix_135 rfl ?_
    refine x_lald C dX5_mix_137 (⟨⟨rfl, rfl, by omega, by decide⟩, by decide⟩ : wa n 80 177).1 (by omega) ?_
    refine j_ladd C dX5_mix_138 ?_
    refine j_nmL (fun x14 ex14 => ?_)
    refine j_lstore C dX5_mix_139 (by decide) ?_
    refine j_lload_n C dX5_mix_141 rfl rfl ?_
    refine j_bipush (v := nI 28) C dX5_mix_142 (by decide +kernel) ?_
    refine j_callS1 C dX5_mix_144 (k_X5_rotated l D kc ad n (by omega) z10.1 28 (by omega) _ ) zy_X5_rotated mw_35_11 rfl rfl (Nat.le_of_ble_eq_true rfl) ⟨rfl, rfl, Nat.le_of_ble_eq_true rfl, Nat.le_of_ble_eq_true rfl⟩ ?_
    refine j_lload_n C dX5_mix_147 rfl rfl ?_
    refine j_bipush (v := nI 34) C dX5_mix_148 (by decide +kernel) ?_
    refine j_callS1 C dX5_mix_150 (k_X5_rotated l D kc ad n (by omega) z10.1 34 (by omega) _ ) zy_X5_rotated mw_35_11 rfl rfl (Nat.le_of_ble_eq_true rfl) ⟨rfl, rfl, Nat.le_of_ble_eq_true rfl, Nat.le_of_ble_eq_true rfl⟩ ?_
    refine j_lxor C dX5_mix_153 ?_
    refine j_lload_n C dX5_mix_154 rfl rfl ?_
    refine j_bipush (v := nI 39) C dX5_mix_155 (by decide +kernel) ?_
    refine j_callS1 C dX5_mix_157 (k_X5_rotated l D kc ad n (by omega) z10.1 39 (by omega) _ ) zy_X5_rotated mw_35_11 rfl rfl (Nat.le_of_ble_eq_true rfl) ⟨rfl, rfl, Nat.le_of_ble_eq_true rfl, Nat.le_of_ble_eq_true rfl⟩ ?_
    refine j_lxor C dX5_mix_160 ?_
    refine j_nmL (fun x15 ex15 => ?_)
    refine j_lstore C dX5_mix_161 (by decide) ?_
    refine j_lload_n C dX5_mix_163 rfl rfl ?_
    refine j_lload_n C dX5_mix_164 rfl rfl ?_
    refine j_land C dX5_mix_165 ?_
    refine j_lload_n C dX5_mix_166 rfl rfl ?_
    refine j_lload C dX5_mix_167 rfl ?_
    refine j_land C dX5_mix_169 ?_
    refine j_lxor C dX5_mix_170 ?_
    refine j_lload_n C dX5_mix_171 rfl rfl ?_
    refine j_lload C dX5_mix_172 rfl ?_
    refine j_land C dX5_mix_174 ?_
    refine j_lxor C dX5_mix_175 ?_
    refine j_nmL (fun x16 ex16 => ?_)
    refine j_lstore C dX5_mix_176 (by decide) ?_
    refine j_lload C dX5_mix_178 rfl ?_
    refine j_nmL (fun x17 ex17 => ?_)
    refine j_lstore C dX5_mix_180 (by decide) ?_
    refine j_lload C dX5_mix_182 rfl ?_
    refine j_nmL (fun x18 ex18 => ?_)
    refine j_lstore C dX5_mix_184 (by decide) ?_
    refine j_lload C dX5_mix_186 rfl ?_
    refine j_nmL (fun x19 ex19 => ?_)
    refine j_lstore C dX5_mix_188 (by decide) ?_
    refine j_lload C dX5_mix_190 rfl ?_
    refine j_lload C dX5_mix_192 rfl ?_
    refine j_ladd C dX5_mix_194 ?_
    refine j_nmL (fun x20 ex20 => ?_)
    refine j_lstore C dX5_mix_195 (by decide) ?_
    refine j_lload C dX5_mix_197 rfl ?_
    refine j_nmL (fun x21 ex21 => ?_)
    refine j_lstore C dX5_mix_199 (by decide) ?_
    refine j_lload_n C dX5_mix_201 rfl rfl ?_
    refine j_nmL (fun x22 ex22 => ?_)
    refine j_lstore C dX5_mix_202 (by decide) ?_
    refine j_lload_n C dX5_mix_204 rfl rfl ?_
    refine j_nmL (fun x23 ex23 => ?_)
    refine j_lstore_n C dX5_mix_205 rfl (by decide) ?_
    refine j_lload C dX5_mix_206 rfl ?_
    refine j_lload C dX5_mix_208 rfl ?_
    refine j_ladd C dX5_mix_210 ?_
    refine j_lload C dX5_mix_211 rfl ?_
    refine j_ladd C dX5_mix_213 ?_
    refine j_nmL (fun x24 ex24 => ?_)
    refine j_lstore_n C dX5_mix_214 rfl (by decide) ?_
    refine j_iincN (b := 1) C dX5_mix_215 rfl (by decide +kernel) (by decide) ?_
    refine j_goto (tgt := 67) C dX5_mix_218 (by decide) ?_
    refine j_at [(0, .ref (zad (wX D kc ad n) 179)), (1, .long x24), (3, .long x23), (5, .long x22), (7, .long x21), (9, .long x20), (11, .long x19), (13, .long x18), (15, .long x17), (17, .int (nI (i9 + 1)))] ⟨rfl, rfl, rfl, rfl, rfl, rfl, rfl, rfl, rfl, rfl, trivial⟩ ?_
    have eF : (fX5_mix_67 s0) i9 z10 = (x24, x23, x22, x21, x20, x19, x18, x17) := by (try rw [ex24]); (try rw [ex23]); (try rw [ex22]); (try rw [ex21]); (try rw [ex20]); (try rw [ex19]); (try rw [ex18]); (try rw [ex17]); (try rw [ex16]); (try rw [ex15]); (try rw [ex14]); (try rw [ex13]); (try rw [ex12]); unfold fX5_mix_67; first | done | (dsimp only; done) | rfl
    exact Eq.mp (congrArg (fun (z26 : Int64 × Int64 × Int64 × Int64 × Int64 × Int64 × Int64 × Int64) => zJ κ (wX D kc ad n) 67 (zlof [(0, .ref (zad (wX D kc ad n) 179)), (1, .long z26.1), (3, .long z26.2.1), (5, .long z26.2.2.1), (7, .long z26.2.2.2.1), (9, .long z26.2.2.2.2.1), (11, .long z26.2.2.2.2.2.1), (13, .long z26.2.2.2.2.2.2.1), (15, .long z26.2.2.2.2.2.2.2), (17, .int (nI (i9 + 1)))]) [] s0) eF) (k0 trivial)
  · intro hIi9
    refine z_nm (P := fun (z10 : Int64 × Int64 × Int64 × Int64 × Int64 × Int64 × Int64 × Int64) => zJ κ (wX D kc ad n) 67 (zlof [(0, .ref (zad (wX D kc ad n) 179)), (1, .long z10.1), (3, .long z10.2.1), (5, .long z10.2.2.1), (7, .long z10.2.2.2.1), (9, .long z10.2.2.2.2.1), (11, .long z10.2.2.2.2.2.1), (13, .long z10.2.2.2.2.2.2.1), (15, .long z10.2.2.2.2.2.2.2), (17, .int (nI (80)))]) [] s0) (fun u27 eu27 => ?_)
    refine j_iload C dX5_mix_67 rfl ?_
    refine j_bipush (v := nI 80) C dX5_mix_69 (by decide +kernel) ?_
    refine j_icmp_geN (tgt := 221) C dX5_mix_71 (by decide) (by omega) (by omega) (fun q28 => ?_) (fun q28 => False.elim (by omega))
    refine j_aload_n C dX5_mix_221 rfl rfl ?_
    refine j_getR C dX5_mix_222 (fx_RX5_23 D kc ad n) (show 11 ≤ 179 by decide) (show 179 < n by omega) ?_
    refine j_iconst (v := nI 0) C dX5_mix_225 (by decide +kernel) ?_
    refine j_dup2 C dX5_mix_226 rfl rfl ?_
    refine x_lald C dX5_mix_227 (⟨⟨rfl, rfl, by omega, by decide⟩, by decide⟩ : wa n 8 178).1 (by omega) ?_
    refine j_lload_n C dX5_mix_228 rfl rfl ?_
    refine j_ladd C dX5_mix_229 ?_
    refine x_last C dX5_mix_230 (⟨⟨rfl, rfl, by omega, by decide⟩, by decide⟩ : wa n 8 178) (by omega) ?_
    refine j_nmS (fun t29 et29 => ?_)
    refine j_aload_n C dX5_mix_231 rfl rfl ?_
    refine j_getR C dX5_mix_232 (fx_RX5_23 D kc ad n) (show 11 ≤ 179 by decide) (show 179 < n by omega) ?_
    refine j_iconst (v := nI 1) C dX5_mix_235 (by decide +kernel) ?_
    refine j_dup2 C dX5_mix_236 rfl rfl ?_
    refine x_lald C dX5_mix_237 (⟨⟨rfl, rfl, by omega, by decide⟩, by decide⟩ : wa n 8 178).1 (by omega) ?_
    refine j_lload_n C dX5_mix_238 rfl rfl ?_
    refine j_ladd C dX5_mix_239 ?_
    refine x_last C dX5_mix_240 (⟨⟨rfl, rfl, by omega, by decide⟩, by decide⟩ : wa n 8 178) (by omega) ?_
    refine j_nmS (fun t30 et30 => ?_)
    refine j_aload_n C dX5_mix_241 rfl rfl ?_
    refine j_getR C dX5_mix_242 (fx_RX5_23 D kc ad n) (show 11 ≤ 179 by decide) (show 179 < n by omega) ?_
    refine j_iconst (v := nI 2) C dX5_mix_245 (by decide +kernel) ?_
    refine j_dup2 C dX5_mix_246 rfl rfl ?_
    refine x_lald C dX5_mix_247 (⟨⟨rfl, rfl, by omega, by decide⟩, by decide⟩ : wa n 8 178).1 (by omega) ?_
    refine j_lload C dX5_mix_248 rfl ?_
    refine j_ladd C dX5_mix_250 ?_
    refine x_last C dX5_mix_251 (⟨⟨rfl, rfl, by omega, by decide⟩, by decide⟩ : wa n 8 178) (by omega) ?_
    refine j_nmS (fun t31 et31 => ?_)
    refine j_aload_n C dX5_mix_252 rfl rfl ?_
    refine j_getR C dX5_mix_253 (fx_RX5_23 D kc ad n) (show 11 ≤ 179 by decide) (show 179 < n by omega) ?_
    refine j_iconst (v := nI 3) C dX5_mix_256 (by decide +kernel) ?_
    refine j_dup2 C dX5_mix_257 rfl rfl ?_
    refine x_lald C dX5_mix_258 (⟨⟨rfl, rfl, by omega, by decide⟩, by decide⟩ : wa n 8 178).1 (by omega) ?_
    refine j_lload C dX5_mix_259 rfl ?_
    refine j_ladd C dX5_mix_261 ?_
    refine x_last C dX5_mix_262 (⟨⟨rfl, rfl, by omega, by decide⟩, by decide⟩ : wa n 8 178) (by omega) ?_
    refine j_nmS (fun t32 et32 => ?_)
    refine j_aload_n C dX5_mix_263 rfl rfl ?_
    refine j_getR C dX5_mix_264 (fx_RX5_23 D kc ad n) (show 11 ≤ 179 by decide) (show 179 < n by omega) ?_
    refine j_iconst (v := nI 4) C dX5_mix_267 (by decide +kernel) ?_
    refine j_dup2 C dX5_mix_268 rfl rfl ?_
    refine x_lald C dX5_mix_269 (⟨⟨rfl, rfl, by omega, by decide⟩, by decide⟩ : wa n 8 178).1 (by omega) ?_
    refine j_lload C dX5_mix_270 rfl ?_
    refine j_ladd C dX5_mix_272 ?_
    refine x_last C dX5_mix_273 (⟨⟨rfl, rfl, by omega, by decide⟩, by decide⟩ : wa n 8 178) (by omega) ?_
    refine j_nmS (fun t33 et33 => ?_)
    refine j_aload_n C dX5_mix_274 rfl rfl ?_
    refine j_getR C dX5_mix_275 (fx_RX5_23 D kc ad n) (show 11 ≤ 179 by decide) (show 179 < n by omega) ?_
    refine j_iconst (v := nI 5) C dX5_mix_278 (by decide +kernel) ?_
    refine j_dup2 C dX5_mix_279 rfl rfl ?_
    refine x_lald C dX5_mix_280 (⟨⟨rfl, rfl, by omega, by decide⟩, by decide⟩ : wa n 8 178).1 (by omega) ?_
    refine j_lload C dX5_mix_281 rfl ?_
    refine j_ladd C dX5_mix_283 ?_
    refine x_last C dX5_mix_284 (⟨⟨rfl, rfl, by omega, by decide⟩, by decide⟩ : wa n 8 178) (by omega) ?_
    refine j_nmS (fun t34 et34 => ?_)
    refine j_aload_n C dX5_mix_285 rfl rfl ?_
    refine j_getR C dX5_mix_286 (fx_RX5_23 D kc ad n) (show 11 ≤ 179 by decide) (show 179 < n by omega) ?_
    refine j_bipush (v := nI 6) C dX5_mix_289 (by decide +kernel) ?_
    refine j_dup2 C dX5_mix_291 rfl rfl ?_
    refine x_lald C dX5_mix_292 (⟨⟨rfl, rfl, by omega, by decide⟩, by decide⟩ : wa n 8 178).1 (by omega) ?_
    refine j_lload C dX5_mix_293 rfl ?_
    refine j_ladd C dX5_mix_295 ?_
    refine x_last C dX5_mix_296 (⟨⟨rfl, rfl, by omega, by decide⟩, by decide⟩ : wa n 8 178) (by omega) ?_
    refine j_nmS (fun t35 et35 => ?_)
    refine j_aload_n C dX5_mix_297 rfl rfl ?_
    refine j_getR C dX5_mix_298 (fx_RX5_23 D kc ad n) (show 11 ≤ 179 by decide) (show 179 < n by omega) ?_
    refine j_bipush (v := nI 7) C dX5_mix_301 (by decide +kernel) ?_
    refine j_dup2 C dX5_mix_303 rfl rfl ?_
    refine x_lald C dX5_mix_304 (⟨⟨rfl, rfl, by omega, by decide⟩, by decide⟩ : wa n 8 178).1 (by omega) ?_
    refine j_lload C dX5_mix_305 rfl ?_
    refine j_ladd C dX5_mix_307 ?_
    refine x_last C dX5_mix_308 (⟨⟨rfl, rfl, by omega, by decide⟩, by decide⟩ : wa n 8 178) (by omega) ?_
    refine j_nmS (fun t36 et36 => ?_)
    exact j_vret (st := []) C R0 dX5_mix_309 ⟨rfl, (by (try rw [et36]); (try rw [et35]); (try rw [et34]); (try rw [et33]); (try rw [et32]); (try rw [et31]); (try rw [et30]); (try rw [et29]); (try rw [eu27]); (try rw [ex8]); (try rw [ex7]); (try rw [ex6]); (try rw [ex5]); (try rw [ex4]); (try rw [ex3]); (try rw [ex2]); (try rw [ex1]); unfold fX5_mix; (try dsimp only); all_goals ((try simp only [zfst_mk, zsnd_mk]); all_goals rfl))⟩
theorem k2_fX5_mix  (s0 : zSt) : zk2 (fX5_mix  s0) = zk2 s0 := by
  unfold fX5_mix
  (try dsimp only)
  all_goals (simp only [zW_2, zL_2]; done)
theorem i2_fX5_mix  (s0 : zSt) (kk9 : Nat) : (fX5_mix  s0).2.2 kk9 = s0.2.2 kk9 := z2_I (k2_fX5_mix s0) kk9
theorem i3_fX5_mix  (s0 : zSt) (kk9 : Nat) : zi (fX5_mix  s0) kk9 = zi s0 kk9 := zi_of (k2_fX5_mix s0) kk9
