def fJ7_fill_d0a16_6 (a : Nat) (v : Int64) (i1 : Nat) (z2 : zSt) : zSt :=
    let t4 := zW z2 a i1 v
    t4
def fJ7_fill_d0a16 (a : Nat) (k : Nat) (v : Int64) (s0 : zSt) : zSt :=
    let u7 := ziter (fJ7_fill_d0a16_6 a v) 0 k s0
    u7
set_option maxHeartbeats 4000000 in
set_option maxRecDepth 100000 in
theorem k_J7_fill_d0a16 (l : Launch) (D : va_G) (kc : Nat → ClassId) (ad : Nat → Nat) (n : Nat) (hn : 0 ≤ n) (a : Nat) (k : Nat) (ha : wa n k a) (v : Int64) (s0 : zSt) (hk : k < 2147483648) : zM l yJ7_fill_d0a16 cJ7_fill_d0a16 5 none rJ7_fill_d0a16 (wX D kc ad n) [.ref (zad (wX D kc ad n) a), .long v] s0 (zV0 (fJ7_fill_d0a16 a k v s0)) := by
  refine z_of (own := RJ7) (by decide +kernel) rfl (Nat.le_of_ble_eq_true rfl) ?_
  intro κ C R0
  refine j_at [(0, .ref (zad (wX D kc ad n) a)), (1, .long v)] ⟨rfl, rfl, trivial⟩ ?_
  refine j_iconst (v := nI 0) C dJ7_fill_d0a16_0 (by decide +kernel) ?_
  refine j_istore_n C dJ7_fill_d0a16_1 rfl (by decide) ?_
  refine j_aload_n C dJ7_fill_d0a16_2 rfl rfl ?_
  refine x_alen C dJ7_fill_d0a16_3 ha ?_
  refine j_istore C dJ7_fill_d0a16_4 (by decide) ?_
  refine j_at [(0, .ref (zad (wX D kc ad n) a)), (1, .long v), (3, .int (nI (0))), (4, .int (nI (k)))] ⟨rfl, rfl, rfl, rfl, trivial⟩ ?_
  refine z_up (α := zSt) (fun (i1 : Nat) (z2 : zSt) => zJ κ (wX D kc ad n) 6 (zlof [(0, .ref (zad (wX D kc ad n) a)), (1, .long v), (3, .int (nI (i1))), (4, .int (nI (k)))]) [] z2) (fJ7_fill_d0a16_6 a v) (fun _ _ => True) k ?_ (fun _ _ _ _ => trivial) k 0 s0 (by omega) trivial ?_
  · intro i1 z2 hi1 hIi1 k0
    refine j_iload_n C dJ7_fill_d0a16_6 rfl rfl ?_
    refine j_iload C dJ7_fill_d0a16_7 rfl ?_
    refine j_icmp_geN (tgt := 22) C dJ7_fill_d0a16_9 (by decide) (by omega) (by omega) (fun q3 => False.elim (by omega)) (fun q3 => ?_)
    refine j_aload_n C dJ7_fill_d0a16_12 rfl rfl ?_
    refine j_iload_n C dJ7_fill_d0a16_13 rfl rfl ?_
    refine j_lload_n C dJ7_fill_d0a16_14 rfl rfl ?_
    refine x_last C dJ7_fill_d0a16_15 ha (by omega) ?_
    refine j_nmS (fun t4 et4 => ?_)
    refine j_iincN (b := 1) C dJ7_fill_d0a16_16 rfl (by decide +kernel) (by decide) ?_
    refine j_goto (tgt := 6) C dJ7_fill_d0a16_19 (by decide) ?_
    refine j_nmS (fun t5 et5 => ?_)
    refine j_at [(0, .ref (zad (wX D kc ad n) a)), (1, .long v), (3, .int (nI (i1 + 1))), (4, .int (nI (k)))] ⟨rfl, rfl, rfl, rfl, trivial⟩ ?_
    have eF : (fJ7_fill_d0a16_6 a v) i1 z2 = t5 := by rw [et5]; (try rw [et4]); unfold fJ7_fill_d0a16_6; first | done | (dsimp only; done) | rfl
    exact Eq.mp (congrArg (fun (z6 : zSt) => zJ κ (wX D kc ad n) 6 (zlof [(0, .ref (zad (wX D kc ad n) a)), (1, .long v), (3, .int (nI (i1 + 1))), (4, .int (nI (k)))]) [] z6) eF) (k0 trivial)
  · intro hIi1
    refine z_nm (P := fun (z2 : zSt) => zJ κ (wX D kc ad n) 6 (zlof [(0, .ref (zad (wX D kc ad n) a)), (1, .long v), (3, .int (nI (k))), (4, .int (nI (k)))]) [] z2) (fun u7 eu7 => ?_)
    refine j_iload_n C dJ7_fill_d0a16_6 rfl rfl ?_
    refine j_iload C dJ7_fill_d0a16_7 rfl ?_
    refine j_icmp_geN (tgt := 22) C dJ7_fill_d0a16_9 (by decide) (by omega) (by omega) (fun q8 => ?_) (fun q8 => False.elim (by omega))
    exact j_vret (st := []) C R0 dJ7_fill_d0a16_22 ⟨rfl, (by (try rw [eu7]); unfold fJ7_fill_d0a16; (try dsimp only); all_goals ((try simp only [zfst_mk, zsnd_mk]); all_goals rfl))⟩
theorem k2_fJ7_fill_d0a16_6 (a : Nat) (v : Int64) (i1 : Nat) (z2 : zSt) : zk2 (fJ7_fill_d0a16_6 a v i1 z2) = zk2 z2 := by
  unfold fJ7_fill_d0a16_6
  (try dsimp only)
  all_goals (simp only [zW_2, zL_2]; done)
theorem k2it_fJ7_fill_d0a16_6 (a : Nat) (v : Int64) (nn ii : Nat) (xx : zSt) : zk2 (ziter (fJ7_fill_d0a16_6 a v) ii nn xx) = zk2 xx := ziter_keep (fun x => zk2 x) _ (k2_fJ7_fill_d0a16_6 a v) nn ii xx
theorem k2_fJ7_fill_d0a16 (a : Nat) (k : Nat) (v : Int64) (s0 : zSt) : zk2 (fJ7_fill_d0a16 a k v s0) = zk2 s0 := by
  unfold fJ7_fill_d0a16
  (try dsimp only)
  all_goals (simp only [zW_2, zL_2, k2_fJ7_fill_d0a16_6, k2it_fJ7_fill_d0a16_6]; done)
theorem i2_fJ7_fill_d0a16 (a : Nat) (k : Nat) (v : Int64) (s0 : zSt) (kk9 : Nat) : (fJ7_fill_d0a16 a k v s0).2.2 kk9 = s0.2.2 kk9 := z2_I (k2_fJ7_fill_d0a16 a k v s0) kk9
theorem i3_fJ7_fill_d0a16 (a : Nat) (k : Nat) (v : Int64) (s0 : zSt) (kk9 : Nat) : zi (fJ7_fill_d0a16 a k v s0) kk9 = zi s0 kk9 := zi_of (k2_fJ7_fill_d0a16 a k v s0) kk9

def vX8_bit (row : Nat) (k : Nat) (i : Nat) (s0 : zSt) : Nat :=
    ((zus (s0.1 row (i / 2 ^ 6)) (i % 2 ^ 6)).toInt32).toBitVec.toNat % 2 ^ 1
set_option maxHeartbeats 4000000 in
set_option maxRecDepth 100000 in
theorem k_X8_bit (l : Launch) (D : va_G) (kc : Nat → ClassId) (ad : Nat → Nat) (n : Nat) (hn : 0 ≤ n) (row : Nat) (k : Nat) (hrow : ra n k row) (i : Nat) (hi : i < 64 * k) (s0 : zSt) (hk : k ≤ 8) : zM l yX8_bit cX8_bit 2 (some .int) rX8_bit (wX D kc ad n) [.ref (zad (wX D kc ad n) row), .int (nI (i))] s0 (zV1 (.int (nI (vX8_bit row k i s0))) s0) := by
  refine z_of (own := RX8) (by decide +kernel) rfl (Nat.le_of_ble_eq_true rfl) ?_
  intro κ C R0
  refine j_at [(0, .ref (zad (wX D kc ad n) row)), (1, .int (nI (i)))] ⟨rfl, rfl, trivial⟩ ?_
  refine j_aload_n C dX8_bit_0 rfl rfl ?_
  refine j_iload_n C dX8_bit_1 rfl rfl ?_
  refine j_bipush (v := nI 6) C dX8_bit_2 (by decide +kernel) ?_
  refine j_ishrN C dX8_bit_4 (by omega) (by decide +kernel) ?_
  refine x_lald C dX8_bit_5 hrow (by omega) ?_
  refine j_iload_n C dX8_bit_6 rfl rfl ?_
  refine j_bipush (v := nI 63) C dX8_bit_7 (by decide +kernel) ?_
  refine j_iandN C 6 dX8_bit_9 (by omega) (by decide +kernel) ?_
  refine j_lushr C dX8_bit_10 (by omega) ?_
  refine j_l2i C dX8_bit_11 ?_
  refine j_iconst (v := nI 1) C dX8_bit_12 (by decide +kernel) ?_
  refine j_iand C dX8_bit_13 ?_
  refine j_top (v := .int (nI (((zus (s0.1 row (i / 2 ^ 6)) (i % 2 ^ 6)).toInt32).toBitVec.toNat % 2 ^ 1))) (congrArg Value.int (pk_and _ 1 (by decide +kernel))) ?_
  exact j_iret (st := []) C R0 dX8_bit_14 ⟨(by unfold vX8_bit; (try dsimp only); all_goals ((try simp only [zfst_mk, zsnd_mk]); all_goals rfl)), ((by rfl))⟩

theorem lt_bit (row k i : Nat) (s : zSt) : vX8_bit row k i s < 2 := Nat.mod_lt _ (by decide)
def vX8_nibble (row : Nat) (i : Nat) (s0 : zSt) : Nat :=
    ((zus (s0.1 row (i / 2 ^ 4)) (4 * (i % 2 ^ 4))).toInt32).toBitVec.toNat % 2 ^ 4
set_option maxHeartbeats 4000000 in
set_option maxRecDepth 100000 in
theorem k_X8_nibble (l : Launch) (D : va_G) (kc : Nat → ClassId) (ad : Nat → Nat) (n : Nat) (hn : 0 ≤ n) (row : Nat) (hrow : ra n 4 row) (i : Nat) (hi : i < 64) (s0 : zSt) : zM l yX8_nibble cX8_nibble 2 (some .int) rX8_nibble (wX D kc ad n) [.ref (zad (wX D kc ad n) row), .int (nI (i))] s0 (zV1 (.int (nI (vX8_nibble row i s0))) s0) := by
  refine z_of (own := RX8) (by decide +kernel) rfl (Nat.le_of_ble_eq_true rfl) ?_
  intro κ C R0
  refine j_at [(0, .ref (zad (wX D kc ad n) row)), (1, .int (nI (i)))] ⟨rfl, rfl, trivial⟩ ?_
  refine j_aload_n C dX8_nibble_0 rfl rfl ?_
  refine j_iload_n C dX8_nibble_1 rfl rfl ?_
  refine j_iconst (v := nI 4) C dX8_nibble_2 (by decide +kernel) ?_
  refine j_ishrN C dX8_nibble_3 (by omega) (by decide +kernel) ?_
  refine x_lald C dX8_nibble_4 hrow (by omega) ?_
  refine j_iconst (v := nI 4) C dX8_nibble_5 (by decide +kernel) ?_
  refine j_iload_n C dX8_nibble_6 rfl rfl ?_
  refine j_bipush (v := nI 15) C dX8_nibble_7 (by decide +kernel) ?_
  refine j_iandN C 4 dX8_nibble_9 (by omega) (by decide +kernel) ?_
  refine j_imulN C dX8_nibble_10 ?_
  refine j_lushr C dX8_nibble_11 (by omega) ?_
  refine j_l2i C dX8_nibble_12 ?_
  refine j_bipush (v := nI 15) C dX8_nibble_13 (by decide +kernel) ?_
  refine j_iand C dX8_nibble_15 ?_
  refine j_top (v := .int (nI (((zus (s0.1 row (i / 2 ^ 4)) (4 * (i % 2 ^ 4))).toInt32).toBitVec.toNat % 2 ^ 4))) (congrArg Value.int (pk_and _ 4 (by decide +kernel))) ?_
  exact j_iret (st := []) C R0 dX8_nibble_16 ⟨(by unfold vX8_nibble; (try dsimp only); all_goals ((try simp only [zfst_mk, zsnd_mk]); all_goals rfl)), ((by rfl))⟩

theorem lt_nibble (row i : Nat) (s : zSt) : vX8_nibble row i s < 16 := Nat.mod_lt _ (by decide)
def fX8_move (a : Nat) (b : Nat) (s0 : zSt) : zSt :=
    let t1 := zL s0 b (va_cpy (s0.1 a) (s0.1 b) 0 0 4)
    t1
set_option maxHeartbeats 4000000 in
set_option maxRecDepth 100000 in
theorem k_X8_move (l : Launch) (D : va_G) (kc : Nat → ClassId) (ad : Nat → Nat) (n : Nat) (hn : 0 ≤ n) (a : Nat) (ha : ra n 4 a) (b : Nat) (hb : wa n 4 b) (s0 : zSt) : zM l yX8_move cX8_move 2 none rX8_move (wX D kc ad n) [.ref (zad (wX D kc ad n) a), .ref (zad (wX D kc ad n) b)] s0 (zV0 (fX8_move a b s0)) := by
  refine z_of (own := RX8) (by decide +kernel) rfl (Nat.le_of_ble_eq_true rfl) ?_
  intro κ C R0
  refine j_at [(0, .ref (zad (wX D kc ad n) a)), (1, .ref (zad (wX D kc ad n) b))] ⟨rfl, rfl, trivial⟩ ?_
  refine j_aload_n C dX8_move_0 rfl rfl ?_
  refine j_iconst (v := nI 0) C dX8_move_1 (by decide +kernel) ?_
  refine j_aload_n C dX8_move_2 rfl rfl ?_
  refine j_iconst (v := nI 0) C dX8_move_3 (by decide +kernel) ?_
  refine j_iconst (v := nI 4) C dX8_move_4 (by decide +kernel) ?_
  refine x_copyl C dX8_move_5 mw_16_1 ha hb (by omega) (by omega) ⟨Nat.le_of_ble_eq_true rfl, Nat.le_of_ble_eq_true rfl⟩ ?_
  refine j_nmS (fun t1 et1 => ?_)
  exact j_vret (st := []) C R0 dX8_move_8 ⟨rfl, (by (try rw [et1]); unfold fX8_move; (try dsimp only); all_goals ((try simp only [zfst_mk, zsnd_mk]); all_goals rfl))⟩
theorem k2_fX8_move (a : Nat) (b : Nat) (s0 : zSt) : zk2 (fX8_move a b s0) = zk2 s0 := by
  unfold fX8_move
  (try dsimp only)
  all_goals (simp only [zW_2, zL_2]; done)
theorem i2_fX8_move (a : Nat) (b : Nat) (s0 : zSt) (kk9 : Nat) : (fX8_move a b s0).2.2 kk9 = s0.2.2 kk9 := z2_I (k2_fX8_move a b s0) kk9
theorem i3_fX8_move (a : Nat) (b : Nat) (s0 : zSt) (kk9 : Nat) : zi (fX8_move a b s0) kk9 = zi s0 kk9 := zi_of (k2_fX8_move a b s0) kk9

def fX8_order_a1 (s0 : zSt) : Int32 :=
    nI (0)
def fX8_order_a2 (s0 : zSt) : Int32 :=
    nI (1)
def fX8_order_a3 (s0 : zSt) : Int32 :=
    (-1 : Int32)
def fX8_order_a4 (a : Nat) (b : Nat) (s0 : zSt) : Int32 :=
    if 0 ≤ lg_cmp ((s0.1 a 0) ^^^ ((-9223372036854775808 : Int64))) ((s0.1 b 0) ^^^ ((-9223372036854775808 : Int64))) then
      fX8_order_a2 s0
    else
      fX8_order_a3 s0
def fX8_order_a5 (a : Nat) (b : Nat) (s0 : zSt) : Int32 :=
    if lg_cmp (s0.1 a 0) (s0.1 b 0) = 0 then
      fX8_order_a1 s0
    else
      fX8_order_a4 a b s0
def fX8_order_a6 (s0 : zSt) : Int32 :=
    nI (1)
def fX8_order_a7 (s0 : zSt) : Int32 :=
    (-1 : Int32)
def fX8_order_a8 (a : Nat) (b : Nat) (s0 : zSt) : Int32 :=
    if 0 ≤ lg_cmp ((s0.1 a 1) ^^^ ((-9223372036854775808 : Int64))) ((s0.1 b 1) ^^^ ((-9223372036854775808 : Int64))) then
      fX8_order_a6 s0
    else
      fX8_order_a7 s0
def fX8_order_a9 (a : Nat) (b : Nat) (s0 : zSt) : Int32 :=
    if lg_cmp (s0.1 a 1) (s0.1 b 1) = 0 then
      fX8_order_a5 a b s0
    else
      fX8_order_a8 a b s0
def fX8_order_a10 (s0 : zSt) : Int32 :=
    nI (1)
def fX8_order_a11 (s0 : zSt) : Int32 :=
    (-1 : Int32)
def fX8_order_a12 (a : Nat) (b : Nat) (s0 : zSt) : Int32 :=
    if 0 ≤ lg_cmp ((s0.1 a 2) ^^^ ((-9223372036854775808 : Int64))) ((s0.1 b 2) ^^^ ((-9223372036854775808 : Int64))) then
      fX8_order_a10 s0
    else
      fX8_order_a11 s0
def fX8_order_a13 (a : Nat) (b : Nat) (s0 : zSt) : Int32 :=
    if lg_cmp (s0.1 a 2) (s0.1 b 2) = 0 then
      fX8_order_a9 a b s0
    else
      fX8_order_a12 a b s0
def fX8_order_a14 (s0 : zSt) : Int32 :=
    nI (1)
def fX8_order_a15 (s0 : zSt) : Int32 :=
    (-1 : Int32)
def fX8_order_a16 (a : Nat) (b : Nat) (s0 : zSt) : Int32 :=
    if 0 ≤ lg_cmp ((s0.1 a 3) ^^^ ((-9223372036854775808 : Int64))) ((s0.1 b 3) ^^^ ((-9223372036854775808 : Int64))) then
      fX8_order_a14 s0
    else
      fX8_order_a15 s0
def vX8_order (a : Nat) (b : Nat) (s0 : zSt) : Int32 :=
    if lg_cmp (s0.1 a 3) (s0.1 b 3) = 0 then
      fX8_order_a13 a b s0
    else
      fX8_order_a16 a b s0
set_option maxHeartbeats 4000000 in
set_option maxRecDepth 100000 in
theorem k_X8_order (l : Launch) (D : va_G) (kc : Nat → ClassId) (ad : Nat → Nat) (n : Nat) (hn : 0 ≤ n) (a : Nat) (ha : ra n 4 a) (b : Nat) (hb : ra n 4 b) (s0 : zSt) : zM l yX8_order cX8_order 3 (some .int) rX8_order (wX D kc ad n) [.ref (zad (wX D kc ad n) a), .ref (zad (wX D kc ad n) b)] s0 (zV1 (.int (vX8_order a b s0)) s0) := by
  refine z_of (own := RX8) (by decide +kernel) rfl (Nat.le_of_ble_eq_true rfl) ?_
  intro κ C R0
  refine j_at [(0, .ref (zad (wX D kc ad n) a)), (1, .ref (zad (wX D kc ad n) b))] ⟨rfl, rfl, trivial⟩ ?_
  refine j_iconst (v := nI 3) C dX8_order_0 (by decide +kernel) ?_
  refine j_istore_n C dX8_order_1 rfl (by decide) ?_
  refine j_iload_n C dX8_order_2 rfl rfl ?_
  refine j_if_lt (tgt := 46) C dX8_order_3 (by decide) (fun q1 => False.elim (absurd q1 (by decide +kernel))) (fun q1 => ?_)
  refine j_aload_n C dX8_order_6 rfl rfl ?_
  refine j_iload_n C dX8_order_7 rfl rfl ?_
  refine x_lald C dX8_order_8 ha (by omega) ?_
  refine j_aload_n C dX8_order_9 rfl rfl ?_
  refine j_iload_n C dX8_order_10 rfl rfl ?_
  refine x_lald C dX8_order_11 hb (by omega) ?_
  refine j_lcmp C dX8_order_12 ?_
  refine j_if_eq (tgt := 40) C dX8_order_13 (by decide) (fun q2 => ?_) (fun q2 => ?_)
  · have hA3 : vX8_order a b s0 = fX8_order_a13 a b s0 := by have q2z := q2; (try dsimp only at q2z); unfold vX8_order; (try dsimp only); rw [if_pos q2z]; (try rfl)
    refine j_iincP C dX8_order_40 rfl (by decide) ?_
    refine j_goto (tgt := 2) C dX8_order_43 (by decide) ?_
    refine j_iload_n C dX8_order_2 rfl rfl ?_
    refine j_if_lt (tgt := 46) C dX8_order_3 (by decide) (fun q4 => False.elim (absurd q4 (by decide +kernel))) (fun q4 => ?_)
    refine j_aload_n C dX8_order_6 rfl rfl ?_
    refine j_iload_n C dX8_order_7 rfl rfl ?_
    refine x_lald C dX8_order_8 ha (by omega) ?_
    refine j_aload_n C dX8_order_9 rfl rfl ?_
    refine j_iload_n C dX8_order_10 rfl rfl ?_
    refine x_lald C dX8_order_11 hb (by omega) ?_
    refine j_lcmp C dX8_order_12 ?_
    refine j_if_eq (tgt := 40) C dX8_order_13 (by decide) (fun q5 => ?_) (fun q5 => ?_)
    · have hA6 : fX8_order_a13 a b s0 = fX8_order_a9 a b s0 := by have q5z := q5; (try dsimp only at q5z); unfold fX8_order_a13; (try dsimp only); rw [if_pos q5z]; (try rfl)
      refine j_iincP C dX8_order_40 rfl (by decide) ?_
      refine j_goto (tgt := 2) C dX8_order_43 (by decide) ?_
      refine j_iload_n C dX8_order_2 rfl rfl ?_
      refine j_if_lt (tgt := 46) C dX8_order_3 (by decide) (fun q7 => False.elim (absurd q7 (by decide +kernel))) (fun q7 => ?_)
      refine j_aload_n C dX8_order_6 rfl rfl ?_
      refine j_iload_n C dX8_order_7 rfl rfl ?_
      refine x_lald C dX8_order_8 ha (by omega) ?_
      refine j_aload_n C dX8_order_9 rfl rfl ?_
      refine j_iload_n C dX8_order_10 rfl rfl ?_
      refine x_lald C dX8_order_11 hb (by omega) ?_
      refine j_lcmp C dX8_order_12 ?_
      refine j_if_eq (tgt := 40) C dX8_order_13 (by decide) (fun q8 => ?_) (fun q8 => ?_)
      · have hA9 : fX8_order_a9 a b s0 = fX8_order_a5 a b s0 := by have q8z := q8; (try dsimp only at q8z); unfold fX8_order_a9; (try dsimp only); rw [if_pos q8z]; (try rfl)
        refine j_iincP C dX8_order_40 rfl (by decide) ?_
        refine j_goto (tgt := 2) C dX8_order_43 (by decide) ?_
        refine j_iload_n C dX8_order_2 rfl rfl ?_
        refine j_if_lt (tgt := 46) C dX8_order_3 (by decide) (fun q10 => False.elim (absurd q10 (by decide +kernel))) (fun q10 => ?_)
        refine j_aload_n C dX8_order_6 rfl rfl ?_
        refine j_iload_n C dX8_order_7 rfl rfl ?_
        refine x_lald C dX8_order_8 ha (by omega) ?_
        refine j_aload_n C dX8_order_9 rfl rfl ?_
        refine j_iload_n C dX8_order_10 rfl rfl ?_
        refine x_lald C dX8_order_11 hb (by omega) ?_
        refine j_lcmp C dX8_order_12 ?_
        refine j_if_eq (tgt := 40) C dX8_order_13 (by decide) (fun q11 => ?_) (fun q11 => ?_)
        · have hA12 : fX8_order_a5 a b s0 = fX8_order_a1 s0 := by have q11z := q11; (try dsimp only at q11z); unfold fX8_order_a5; (try dsimp only); rw [if_pos q11z]; (try rfl)
          refine j_iincD C dX8_order_40 rfl (by decide) ?_
          refine j_goto (tgt := 2) C dX8_order_43 (by decide) ?_
          refine j_iload_n C dX8_order_2 rfl rfl ?_
          refine j_if_lt (tgt := 46) C dX8_order_3 (by decide) (fun q13 => ?_) (fun q13 => False.elim (absurd dI_0 q13))
          refine j_iconst (v := nI 0) C dX8_order_46 (by decide +kernel) ?_
          exact j_iret (st := []) C R0 dX8_order_47 ⟨(by rw [hA3, hA6, hA9, hA12]; unfold fX8_order_a1; (try dsimp only); all_goals ((try simp only [zfst_mk, zsnd_mk]); all_goals rfl)), ((by rfl))⟩
        · have hA14 : fX8_order_a5 a b s0 = fX8_order_a4 a b s0 := by have q11z := q11; (try dsimp only at q11z); unfold fX8_order_a5; (try dsimp only); rw [if_neg q11z]; (try rfl)
          refine j_aload_n C dX8_order_16 rfl rfl ?_
          refine j_iload_n C dX8_order_17 rfl rfl ?_
          refine x_lald C dX8_order_18 ha (by omega) ?_
          refine j_ldc2 C dX8_order_19 mw_23_3 ?_
          refine j_lxor C dX8_order_22 ?_
          refine j_aload_n C dX8_order_23 rfl rfl ?_
          refine j_iload_n C dX8_order_24 rfl rfl ?_
          refine x_lald C dX8_order_25 hb (by omega) ?_
          refine j_ldc2 C dX8_order_26 mw_23_3 ?_
          refine j_lxor C dX8_order_29 ?_
          refine j_lcmp C dX8_order_30 ?_
          refine j_if_ge (tgt := 38) C dX8_order_31 (by decide) (fun q15 => ?_) (fun q15 => ?_)
          · have hA16 : fX8_order_a4 a b s0 = fX8_order_a2 s0 := by have q15z := q15; (try dsimp only at q15z); unfold fX8_order_a4; (try dsimp only); rw [if_pos q15z]; (try rfl)
            refine j_iconst (v := nI 1) C dX8_order_38 (by decide +kernel) ?_
            exact j_iret (st := []) C R0 dX8_order_39 ⟨(by rw [hA3, hA6, hA9, hA14, hA16]; unfold fX8_order_a2; (try dsimp only); all_goals ((try simp only [zfst_mk, zsnd_mk]); all_goals rfl)), ((by rfl))⟩
          · have hA17 : fX8_order_a4 a b s0 = fX8_order_a3 s0 := by have q15z := q15; (try dsimp only at q15z); unfold fX8_order_a4; (try dsimp only); rw [if_neg q15z]; (try rfl)
            refine j_iconst (v := -1) C dX8_order_34 (by decide +kernel) ?_
            refine j_goto (tgt := 39) C dX8_order_35 (by decide) ?_
            exact j_iret (st := []) C R0 dX8_order_39 ⟨(by rw [hA3, hA6, hA9, hA14, hA17]; unfold fX8_order_a3; (try dsimp only); all_goals ((try simp only [zfst_mk, zsnd_mk]); all_goals rfl)), ((by rfl))⟩
      · have hA18 : fX8_order_a9 a b s0 = fX8_order_a8 a b s0 := by have q8z := q8; (try dsimp only at q8z); unfold fX8_order_a9; (try dsimp only); rw [if_neg q8z]; (try rfl)
        refine j_aload_n C dX8_order_16 rfl rfl ?_
        refine j_iload_n C dX8_order_17 rfl rfl ?_
        refine x_lald C dX8_order_18 ha (by omega) ?_
        refine j_ldc2 C dX8_order_19 mw_23_3 ?_
        refine j_lxor C dX8_order_22 ?_
        refine j_aload_n C dX8_order_23 rfl rfl ?_
        refine j_iload_n C dX8_order_24 rfl rfl ?_
        refine x_lald C dX8_order_25 hb (by omega) ?_
        refine j_ldc2 C dX8_order_26 mw_23_3 ?_
        refine j_lxor C dX8_order_29 ?_
        refine j_lcmp C dX8_order_30 ?_
        refine j_if_ge (tgt := 38) C dX8_order_31 (by decide) (fun q19 => ?_) (fun q19 => ?_)
        · have hA20 : fX8_order_a8 a b s0 = fX8_order_a6 s0 := by have q19z := q19; (try dsimp only at q19z); unfold fX8_order_a8; (try dsimp only); rw [if_pos q19z]; (try rfl)
          refine j_iconst (v := nI 1) C dX8_order_38 (by decide +kernel) ?_
          exact j_iret (st := []) C R0 dX8_order_39 ⟨(by rw [hA3, hA6, hA18, hA20]; unfold fX8_order_a6; (try dsimp only); all_goals ((try simp only [zfst_mk, zsnd_mk]); all_goals rfl)), ((by rfl))⟩
        · have hA21 : fX8_order_a8 a b s0 = fX8_order_a7 s0 := by have q19z := q19; (try dsimp only at q19z); unfold fX8_order_a8; (try dsimp only); rw [if_neg q19z]; (try rfl)
          refine j_iconst (v := -1) C dX8_order_34 (by decide +kernel) ?_
          refine j_goto (tgt := 39) C dX8_order_35 (by decide) ?_
          exact j_iret (st := []) C R0 dX8_order_39 ⟨(by rw [hA3, hA6, hA18, hA21]; unfold fX8_order_a7; (try dsimp only); all_goals ((try simp only [zfst_mk, zsnd_mk]); all_goals rfl)), ((by rfl))⟩
    · have hA22 : fX8_order_a13 a b s0 = fX8_order_a12 a b s0 := by have q5z := q5; (try dsimp only at q5z); unfold fX8_order_a13; (try dsimp only); rw [if_neg q5z]; (try rfl)
      refine j_aload_n C dX8_order_16 rfl rfl ?_
      refine j_iload_n C dX8_order_17 rfl rfl ?_
      refine x_lald C dX8_order_18 ha (by omega) ?_
      refine j_ldc2 C dX8_order_19 mw_23_3 ?_
      refine j_lxor C dX8_order_22 ?_
      refine j_aload_n C dX8_order_23 rfl rfl ?_
      refine j_iload_n C dX8_order_24 rfl rfl ?_
      refine x_lald C dX8_order_25 hb (by omega) ?_
      refine j_ldc2 C dX8_order_26 mw_23_3 ?_
      refine j_lxor C dX8_order_29 ?_
      refine j_lcmp C dX8_order_30 ?_
      refine j_if_ge (tgt := 38) C dX8_order_31 (by decide) (fun q23 => ?_) (fun q23 => ?_)
      · have hA24 : fX8_order_a12 a b s0 = fX8_order_a10 s0 := by have q23z := q23; (try dsimp only at q23z); unfold fX8_order_a12; (try dsimp only); rw [if_pos q23z]; (try rfl)
        refine j_iconst (v := nI 1) C dX8_order_38 (by decide +kernel) ?_
        exact j_iret (st := []) C R0 dX8_order_39 ⟨(by rw [hA3, hA22, hA24]; unfold fX8_order_a10; (try dsimp only); all_goals ((try simp only [zfst_mk, zsnd_mk]); all_goals rfl)), ((by rfl))⟩
      · have hA25 : fX8_order_a12 a b s0 = fX8_order_a11 s0 := by have q23z := q23; (try dsimp only at q23z); unfold fX8_order_a12; (try dsimp only); rw [if_neg q23z]; (try rfl)
        refine j_iconst (v := -1) C dX8_order_34 (by decide +kernel) ?_
        refine j_goto (tgt := 39) C dX8_order_35 (by decide) ?_
        exact j_iret (st := []) C R0 dX8_order_39 ⟨(by rw [hA3, hA22, hA25]; unfold fX8_order_a11; (try dsimp only); all_goals ((try simp only [zfst_mk, zsnd_mk]); all_goals rfl)), ((by rfl))⟩
  · have hA26 : vX8_order a b s0 = fX8_order_a16 a b s0 := by have q2z := q2; (try dsimp only at q2z); unfold vX8_order; (try dsimp only); rw [if_neg q2z]; (try rfl)
    refine j_aload_n C dX8_order_16 rfl rfl ?_
    refine j_iload_n C dX8_order_17 rfl rfl ?_
    refine x_lald C dX8_order_18 ha (by omega) ?_
    refine j_ldc2 C dX8_order_19 mw_23_3 ?_
    refine j_lxor C dX8_order_22 ?_
    refine j_aload_n C dX8_order_23 rfl rfl ?_
    refine j_iload_n C dX8_order_24 rfl rfl ?_
    refine x_lald C dX8_order_25 hb (by omega) ?_
    refine j_ldc2 C dX8_order_26 mw_23_3 ?_
    refine j_lxor C dX8_order_29 ?_
    refine j_lcmp C dX8_order_30 ?_
    refine j_if_ge (tgt := 38) C dX8_order_31 (by decide) (fun q27 => ?_) (fun q27 => ?_)
    · have hA28 : fX8_order_a16 a b s0 = fX8_order_a14 s0 := by have q27z := q27; (try dsimp only at q27z); unfold fX8_order_a16; (try dsimp only); rw [if_pos q27z]; (try rfl)
      refine j_iconst (v := nI 1) C dX8_order_38 (by decide +kernel) ?_
      exact j_iret (st := []) C R0 dX8_order_39 ⟨(by rw [hA26, hA28]; unfold fX8_order_a14; (try dsimp only); all_goals ((try simp only [zfst_mk, zsnd_mk]); all_goals rfl)), ((by rfl))⟩
    · have hA29 : fX8_order_a16 a b s0 = fX8_order_a15 s0 := by have q27z := q27; (try dsimp only at q27z); unfold fX8_order_a16; (try dsimp only); rw [if_neg q27z]; (try rfl)
      refine j_iconst (v := -1) C dX8_order_34 (by decide +kernel) ?_
      refine j_goto (tgt := 39) C dX8_order_35 (by decide) ?_
      exact j_iret (st := []) C R0 dX8_order_39 ⟨(by rw [hA26, hA29]; unfold fX8_order_a15; (try dsimp only); all_goals ((try simp only [zfst_mk, zsnd_mk]); all_goals rfl)), ((by rfl))⟩

def fX8_increase_5 (a : Nat) (b : Nat) (i2 : Nat) (z3 : zSt × Int64) : zSt × Int64 :=
    let x5 := z3.1.1 a i2
    let x6 := z3.1.1 b i2
    let x7 := (x5 + x6) + z3.2
    let x8 := zus ((x5 &&& x6) ||| ((x5 ||| x6) &&& (x7 ^^^ ((-1 : Int64))))) 63
    let t9 := zW z3.1 a i2 x7
    (t9, x8)
def fX8_increase (a : Nat) (b : Nat) (s0 : zSt) : zSt :=
    let x1 := (0 : Int64)
    let u12 := ziter (fX8_increase_5 a b) 0 4 (s0, x1)
    u12.1
set_option maxHeartbeats 4000000 in
set_option maxRecDepth 100000 in
theorem k_X8_increase (l : Launch) (D : va_G) (kc : Nat → ClassId) (ad : Nat → Nat) (n : Nat) (hn : 0 ≤ n) (a : Nat) (ha : wa n 4 a) (b : Nat) (hb : ra n 4 b) (s0 : zSt) : zM l yX8_increase cX8_increase 11 none rX8_increase (wX D kc ad n) [.ref (zad (wX D kc ad n) a), .ref (zad (wX D kc ad n) b)] s0 (zV0 (fX8_increase a b s0)) := by
  refine z_of (own := RX8) (by decide +kernel) rfl (Nat.le_of_ble_eq_true rfl) ?_
  intro κ C R0
  refine j_at [(0, .ref (zad (wX D kc ad n) a)), (1, .ref (zad (wX D kc ad n) b))] ⟨rfl, rfl, trivial⟩ ?_
  refine j_lconst (v := 0) C dX8_increase_0 rfl ?_
  refine j_nmL (fun x1 ex1 => ?_)
  refine j_lstore_n C dX8_increase_1 rfl (by decide) ?_
  refine j_iconst (v := nI 0) C dX8_increase_2 (by decide +kernel) ?_
  refine j_istore C dX8_increase_3 (by decide) ?_
  refine j_at [(0, .ref (zad (wX D kc ad n) a)), (1, .ref (zad (wX D kc ad n) b)), (2, .long x1), (4, .int (nI (0)))] ⟨rfl, rfl, rfl, rfl, trivial⟩ ?_
  refine z_up (α := zSt × Int64) (fun (i2 : Nat) (z3 : zSt × Int64) => zJ κ (wX D kc ad n) 5 (zlof [(0, .ref (zad (wX D kc ad n) a)), (1, .ref (zad (wX D kc ad n) b)), (2, .long z3.2), (4, .int (nI (i2)))]) [] z3.1) (fX8_increase_5 a b) (fun _ _ => True) 4 ?_ (fun _ _ _ _ => trivial) 4 0 (s0, x1) (by omega) trivial ?_
  · intro i2 z3 hi2 hIi2 k0
    refine j_iload C dX8_increase_5 rfl ?_
    refine j_iconst (v := nI 4) C dX8_increase_7 (by decide +kernel) ?_
    refine j_icmp_geN (tgt := 66) C dX8_increase_8 (by decide) (by omega) (by omega) (fun q4 => False.elim (by omega)) (fun q4 => ?_)
    refine j_aload_n C dX8_increase_11 rfl rfl ?_
    refine j_iload C dX8_increase_12 rfl ?_
    refine x_lald C dX8_increase_14 ha.1 (by omega) ?_
    refine j_nmL (fun x5 ex5 => ?_)
    refine j_lstore C dX8_increase_15 (by decide) ?_
    refine j_aload_n C dX8_increase_17 rfl rfl ?_
    refine j_iload C dX8_increase_18 rfl ?_
    refine x_lald C dX8_increase_20 hb (by omega) ?_
    refine j_nmL (fun x6 ex6 => ?_)
    refine j_lstore C dX8_increase_21 (by decide) ?_
    refine j_lload C dX8_increase_23 rfl ?_
    refine j_lload C dX8_increase_25 rfl ?_
    refine j_ladd C dX8_increase_27 ?_
    refine j_lload_n C dX8_increase_28 rfl rfl ?_
    refine j_ladd C dX8_increase_29 ?_
    refine j_nmL (fun x7 ex7 => ?_)
    refine j_lstore C dX8_increase_30 (by decide) ?_
    refine j_lload C dX8_increase_32 rfl ?_
    refine j_lload C dX8_increase_34 rfl ?_
    refine j_land C dX8_increase_36 ?_
    refine j_lload C dX8_increase_37 rfl ?_
    refine j_lload C dX8_increase_39 rfl ?_
    refine j_lor C dX8_increase_41 ?_
    refine j_lload C dX8_increase_42 rfl ?_
    refine j_ldc2 C dX8_increase_44 mw_25_0 ?_
    refine j_lxor C dX8_increase_47 ?_
    refine j_land C dX8_increase_48 ?_
    refine j_lor C dX8_increase_49 ?_
    refine j_bipush (v := nI 63) C dX8_increase_50 (by decide +kernel) ?_
    refine j_lushr C dX8_increase_52 (by omega) ?_
    refine j_nmL (fun x8 ex8 => ?_)
    refine j_lstore_n C dX8_increase_53 rfl (by decide) ?_
    refine j_aload_n C dX8_increase_54 rfl rfl ?_
    refine j_iload C dX8_increase_55 rfl ?_
    refine j_lload C dX8_increase_57 rfl ?_
    refine x_last C dX8_increase_59 ha (by omega) ?_
    refine j_nmS (fun t9 et9 => ?_)
    refine j_iincN (b := 1) C dX8_increase_60 rfl (by decide +kernel) (by decide) ?_
    refine j_goto (tgt := 5) C dX8_increase_63 (by decide) ?_
    refine j_nmS (fun t10 et10 => ?_)
    refine j_at [(0, .ref (zad (wX D kc ad n) a)), (1, .ref (zad (wX D kc ad n) b)), (2, .long x8), (4, .int (nI (i2 + 1)))] ⟨rfl, rfl, rfl, rfl, trivial⟩ ?_
    have eF : (fX8_increase_5 a b) i2 z3 = (t10, x8) := by rw [et10]; (try rw [et9]); (try rw [ex8]); (try rw [ex7]); (try rw [ex6]); (try rw [ex5]); unfold fX8_increase_5; first | done | (dsimp only; done) | rfl
    exact Eq.mp (congrArg (fun (z11 : zSt × Int64) => zJ κ (wX D kc ad n) 5 (zlof [(0, .ref (zad (wX D kc ad n) a)), (1, .ref (zad (wX D kc ad n) b)), (2, .long z11.2), (4, .int (nI (i2 + 1)))]) [] z11.1) eF) (k0 trivial)
  · intro hIi2
    refine z_nm (P := fun (z3 : zSt × Int64) => zJ κ (wX D kc ad n) 5 (zlof [(0, .ref (zad (wX D kc ad n) a)), (1, .ref (zad (wX D kc ad n) b)), (2, .long z3.2), (4, .int (nI (4)))]) [] z3.1) (fun u12 eu12 => ?_)
    refine j_iload C dX8_increase_5 rfl ?_
    refine j_iconst (v := nI 4) C dX8_increase_7 (by decide +kernel) ?_
    refine j_icmp_geN (tgt := 66) C dX8_increase_8 (by decide) (by omega) (by omega) (fun q13 => ?_) (fun q13 => False.elim (by omega))
    exact j_vret (st := []) C R0 dX8_increase_66 ⟨rfl, (by (try rw [eu12]); (try rw [ex1]); unfold fX8_increase; (try dsimp only); all_goals ((try simp only [zfst_mk, zsnd_mk]); all_goals rfl))⟩
theorem k2q_fX8_increase_5 (a : Nat) (b : Nat) (i2 : Nat) (z3 : zSt × Int64) : zk2f (fX8_increase_5 a b i2 z3) = zk2 z3.1 := by
  unfold fX8_increase_5
  (try dsimp only)
  all_goals (simp only [zW_2, zL_2, zk2f_mk]; done)
theorem k2_fX8_increase_5 (a : Nat) (b : Nat) (i2 : Nat) (z3 : zSt × Int64) : zk2 (fX8_increase_5 a b i2 z3).1 = zk2 z3.1 := k2q_fX8_increase_5 a b i2 z3
theorem k2it_fX8_increase_5 (a : Nat) (b : Nat) (nn ii : Nat) (xx : zSt × Int64) : zk2 (ziter (fX8_increase_5 a b) ii nn xx).1 = zk2 xx.1 := ziter_keep (fun x => zk2 x.1) _ (k2_fX8_increase_5 a b) nn ii xx
theorem k2_fX8_increase (a : Nat) (b : Nat) (s0 : zSt) : zk2 (fX8_increase a b s0) = zk2 s0 := by
  unfold fX8_increase
  (try dsimp only)
  all_goals (simp only [zW_2, zL_2, k2_fX8_increase_5, k2q_fX8_increase_5, k2it_fX8_increase_5]; done)
theorem i2_fX8_increase (a : Nat) (b : Nat) (s0 : zSt) (kk9 : Nat) : (fX8_increase a b s0).2.2 kk9 = s0.2.2 kk9 := z2_I (k2_fX8_increase a b s0) kk9
theorem i3_fX8_increase (a : Nat) (b : Nat) (s0 : zSt) (kk9 : Nat) : zi (fX8_increase a b s0) kk9 = zi s0 kk9 := zi_of (k2_fX8_increase a b s0) kk9

def fX8_decrease_5 (a : Nat) (b : Nat) (i2 : Nat) (z3 : zSt × Int64) : zSt × Int64 :=
    let x5 := z3.1.1 a i2
    let x6 := z3.1.1 b i2
    let x7 := (x5 - x6) - z3.2
    let x8 := zus (((x5 ^^^ ((-1 : Int64))) &&& x6) ||| (((x5 ^^^ ((-1 : Int64))) ||| x6) &&& x7)) 63
    let t9 := zW z3.1 a i2 x7
    (t9, x8)
def fX8_decrease (a : Nat) (b : Nat) (s0 : zSt) : zSt :=
    let x1 := (0 : Int64)
    let u12 := ziter (fX8_decrease_5 a b) 0 4 (s0, x1)
    u12.1
set_option maxHeartbeats 4000000 in
set_option maxRecDepth 100000 in
theorem k_X8_decrease (l : Launch) (D : va_G) (kc : Nat → ClassId) (ad : Nat → Nat) (n : Nat) (hn : 0 ≤ n) (a : Nat) (ha : wa n 4 a) (b : Nat) (hb : ra n 4 b) (s0 : zSt) : zM l yX8_decrease cX8_decrease 11 none rX8_decrease (wX D kc ad n) [.ref (zad (wX D kc ad n) a), .ref (zad (wX D kc ad n) b)] s0 (zV0 (fX8_decrease a b s0)) := by
  refine z_of (own := RX8) (by decide +kernel) rfl (Nat.le_of_ble_eq_true rfl) ?_
  intro κ C R0
  refine j_at [(0, .ref (zad (wX D kc ad n) a)), (1, .ref (zad (wX D kc ad n) b))] ⟨rfl, rfl, trivial⟩ ?_
  refine j_lconst (v := 0) C dX8_decrease_0 rfl ?_
  refine j_nmL (fun x1 ex1 => ?_)
  refine j_lstore_n C dX8_decrease_1 rfl (by decide) ?_
  refine j_iconst (v := nI 0) C dX8_decrease_2 (by decide +kernel) ?_
  refine j_istore C dX8_decrease_3 (by decide) ?_
  refine j_at [(0, .ref (zad (wX D kc ad n) a)), (1, .ref (zad (wX D kc ad n) b)), (2, .long x1), (4, .int (nI (0)))] ⟨rfl, rfl, rfl, rfl, trivial⟩ ?_
  refine z_up (α := zSt × Int64) (fun (i2 : Nat) (z3 : zSt × Int64) => zJ κ (wX D kc ad n) 5 (zlof [(0, .ref (zad (wX D kc ad n) a)), (1, .ref (zad (wX D kc ad n) b)), (2, .long z3.2), (4, .int (nI (i2)))]) [] z3.1) (fX8_decrease_5 a b) (fun _ _ => True) 4 ?_ (fun _ _ _ _ => trivial) 4 0 (s0, x1) (by omega) trivial ?_
  · intro i2 z3 hi2 hIi2 k0
    refine j_iload C dX8_decrease_5 rfl ?_
    refine j_iconst (v := nI 4) C dX8_decrease_7 (by decide +kernel) ?_
    refine j_icmp_geN (tgt := 70) C dX8_decrease_8 (by decide) (by omega) (by omega) (fun q4 => False.elim (by omega)) (fun q4 => ?_)
    refine j_aload_n C dX8_decrease_11 rfl rfl ?_
    refine j_iload C dX8_decrease_12 rfl ?_
    refine x_lald C dX8_decrease_14 ha.1 (by omega) ?_
    refine j_nmL (fun x5 ex5 => ?_)
    refine j_lstore C dX8_decrease_15 (by decide) ?_
    refine j_aload_n C dX8_decrease_17 rfl rfl ?_
    refine j_iload C dX8_decrease_18 rfl ?_
    refine x_lald C dX8_decrease_20 hb (by omega) ?_
    refine j_nmL (fun x6 ex6 => ?_)
    refine j_lstore C dX8_decrease_21 (by decide) ?_
    refine j_lload C dX8_decrease_23 rfl ?_
    refine j_lload C dX8_decrease_25 rfl ?_
    refine j_lsub C dX8_decrease_27 ?_
    refine j_lload_n C dX8_decrease_28 rfl rfl ?_
    refine j_lsub C dX8_decrease_29 ?_
    refine j_nmL (fun x7 ex7 => ?_)
    refine j_lstore C dX8_decrease_30 (by decide) ?_
    refine j_lload C dX8_decrease_32 rfl ?_
    refine j_ldc2 C dX8_decrease_34 mw_25_0 ?_
    refine j_lxor C dX8_decrease_37 ?_
    refine j_lload C dX8_decrease_38 rfl ?_
    refine j_land C dX8_decrease_40 ?_
    refine j_lload C dX8_decrease_41 rfl ?_
    refine j_ldc2 C dX8_decrease_43 mw_25_0 ?_
    refine j_lxor C dX8_decrease_46 ?_
    refine j_lload C dX8_decrease_47 rfl ?_
    refine j_lor C dX8_decrease_49 ?_
    refine j_lload C dX8_decrease_50 rfl ?_
    refine j_land C dX8_decrease_52 ?_
    refine j_lor C dX8_decrease_53 ?_
    refine j_bipush (v := nI 63) C dX8_decrease_54 (by decide +kernel) ?_
    refine j_lushr C dX8_decrease_56 (by omega) ?_
    refine j_nmL (fun x8 ex8 => ?_)
    refine j_lstore_n C dX8_decrease_57 rfl (by decide) ?_
    refine j_aload_n C dX8_decrease_58 rfl rfl ?_
    refine j_iload C dX8_decrease_59 rfl ?_
    refine j_lload C dX8_decrease_61 rfl ?_
    refine x_last C dX8_decrease_63 ha (by omega) ?_
    refine j_nmS (fun t9 et9 => ?_)
    refine j_iincN (b := 1) C dX8_decrease_64 rfl (by decide +kernel) (by decide) ?_
    refine j_goto (tgt := 5) C dX8_decrease_67 (by decide) ?_
    refine j_nmS (fun t10 et10 => ?_)
    refine j_at [(0, .ref (zad (wX D kc ad n) a)), (1, .ref (zad (wX D kc ad n) b)), (2, .long x8), (4, .int (nI (i2 + 1)))] ⟨rfl, rfl, rfl, rfl, trivial⟩ ?_
    have eF : (fX8_decrease_5 a b) i2 z3 = (t10, x8) := by rw [et10]; (try rw [et9]); (try rw [ex8]); (try rw [ex7]); (try rw [ex6]); (try rw [ex5]); unfold fX8_decrease_5; first | done | (dsimp only; done) | rfl
    exact Eq.mp (congrArg (fun (z11 : zSt × Int64) => zJ κ (wX D kc ad n) 5 (zlof [(0, .ref (zad (wX D kc ad n) a)), (1, .ref (zad (wX D kc ad n) b)), (2, .long z11.2), (4, .int (nI (i2 + 1)))]) [] z11.1) eF) (k0 trivial)
  · intro hIi2
    refine z_nm (P := fun (z3 : zSt × Int64) => zJ κ (wX D kc ad n) 5 (zlof [(0, .ref (zad (wX D kc ad n) a)), (1, .ref (zad (wX D kc ad n) b)), (2, .long z3.2), (4, .int (nI (4)))]) [] z3.1) (fun u12 eu12 => ?_)
    refine j_iload C dX8_decrease_5 rfl ?_
    refine j_iconst (v := nI 4) C dX8_decrease_7 (by decide +kernel) ?_
    refine j_icmp_geN (tgt := 70) C dX8_decrease_8 (by decide) (by omega) (by omega) (fun q13 => ?_) (fun q13 => False.elim (by omega))
    exact j_vret (st := []) C R0 dX8_decrease_70 ⟨rfl, (by (try rw [eu12]); (try rw [ex1]); unfold fX8_decrease; (try dsimp only); all_goals ((try simp only [zfst_mk, zsnd_mk]); all_goals rfl))⟩
theorem k2q_fX8_decrease_5 (a : Nat) (b : Nat) (i2 : Nat) (z3 : zSt × Int64) : zk2f (fX8_decrease_5 a b i2 z3) = zk2 z3.1 := by
  unfold fX8_decrease_5
  (try dsimp only)
  all_goals (simp only [zW_2, zL_2, zk2f_mk]; done)
theorem k2_fX8_decrease_5 (a : Nat) (b : Nat) (i2 : Nat) (z3 : zSt × Int64) : zk2 (fX8_decrease_5 a b i2 z3).1 = zk2 z3.1 := k2q_fX8_decrease_5 a b i2 z3
theorem k2it_fX8_decrease_5 (a : Nat) (b : Nat) (nn ii : Nat) (xx : zSt × Int64) : zk2 (ziter (fX8_decrease_5 a b) ii nn xx).1 = zk2 xx.1 := ziter_keep (fun x => zk2 x.1) _ (k2_fX8_decrease_5 a b) nn ii xx
theorem k2_fX8_decrease (a : Nat) (b : Nat) (s0 : zSt) : zk2 (fX8_decrease a b s0) = zk2 s0 := by
  unfold fX8_decrease
  (try dsimp only)
  all_goals (simp only [zW_2, zL_2, k2_fX8_decrease_5, k2q_fX8_decrease_5, k2it_fX8_decrease_5]; done)
theorem i2_fX8_decrease (a : Nat) (b : Nat) (s0 : zSt) (kk9 : Nat) : (fX8_decrease a b s0).2.2 kk9 = s0.2.2 kk9 := z2_I (k2_fX8_decrease a b s0) kk9
theorem i3_fX8_decrease (a : Nat) (b : Nat) (s0 : zSt) (kk9 : Nat) : zi (fX8_decrease a b s0) kk9 = zi s0 kk9 := zi_of (k2_fX8_decrease a b s0) kk9

def fX8_clamp (a : Nat) (s0 : zSt) : zSt :=
    let t1 := zW s0 a 0 ((s0.1 a 0) &&& ((-8 : Int64)))
    let t2 := zW t1 a 3 (((t1.1 a 3) &&& ((9223372036854775807 : Int64))) ||| ((4611686018427387904 : Int64)))
    t2
set_option maxHeartbeats 4000000 in
set_option maxRecDepth 100000 in
theorem k_X8_clamp (l : Launch) (D : va_G) (kc : Nat → ClassId) (ad : Nat → Nat) (n : Nat) (hn : 0 ≤ n) (a : Nat) (ha : wa n 4 a) (s0 : zSt) : zM l yX8_clamp cX8_clamp 1 none rX8_clamp (wX D kc ad n) [.ref (zad (wX D kc ad n) a)] s0 (zV0 (fX8_clamp a s0)) := by
  refine z_of (own := RX8) (by decide +kernel) rfl (Nat.le_of_ble_eq_true rfl) ?_
  intro κ C R0
  refine j_at [(0, .ref (zad (wX D kc ad n) a))] ⟨rfl, trivial⟩ ?_
  refine j_aload_n C dX8_clamp_0 rfl rfl ?_
  refine j_iconst (v := nI 0) C dX8_clamp_1 (by decide +kernel) ?_
  refine j_dup2 C dX8_clamp_2 rfl rfl ?_
  refine x_lald C dX8_clamp_3 ha.1 (by omega) ?_
  refine j_ldc2 C dX8_clamp_4 mw_32_13 ?_
  refine j_land C dX8_clamp_7 ?_
  refine x_last C dX8_clamp_8 ha (by omega) ?_
  refine j_nmS (fun t1 et1 => ?_)
  refine j_aload_n C dX8_clamp_9 rfl rfl ?_
  refine j_iconst (v := nI 3) C dX8_clamp_10 (by decide +kernel) ?_
  refine j_aload_n C dX8_clamp_11 rfl rfl ?_
  refine j_iconst (v := nI 3) C dX8_clamp_12 (by decide +kernel) ?_
  refine x_lald C dX8_clamp_13 ha.1 (by omega) ?_
  refine j_ldc2 C dX8_clamp_14 mw_32_14 ?_
  refine j_land C dX8_clamp_17 ?_
  refine j_ldc2 C dX8_clamp_18 mw_32_15 ?_
  refine j_lor C dX8_clamp_21 ?_
  refine x_last C dX8_clamp_22 ha (by omega) ?_
  refine j_nmS (fun t2 et2 => ?_)
  exact j_vret (st := []) C R0 dX8_clamp_23 ⟨rfl, (by (try rw [et2]); (try rw [et1]); unfold fX8_clamp; (try dsimp only); all_goals ((try simp only [zfst_mk, zsnd_mk]); all_goals rfl))⟩
theorem k2_fX8_clamp (a : Nat) (s0 : zSt) : zk2 (fX8_clamp a s0) = zk2 s0 := by
  unfold fX8_clamp
  (try dsimp only)
  all_goals (simp only [zW_2, zL_2]; done)
theorem i2_fX8_clamp (a : Nat) (s0 : zSt) (kk9 : Nat) : (fX8_clamp a s0).2.2 kk9 = s0.2.2 kk9 := z2_I (k2_fX8_clamp a s0) kk9
theorem i3_fX8_clamp (a : Nat) (s0 : zSt) (kk9 : Nat) : zi (fX8_clamp a s0) kk9 = zi s0 kk9 := zi_of (k2_fX8_clamp a s0) kk9
