def fX9_set_a1 (v : Int32) (i : Int32) (x : Int64) (s0 : zSt) : Int32 × zSt :=
    let t7 := zW s0 (11 + v.toNatClampNeg) i.toNatClampNeg x
    (nI (1), t7)
def fX9_set_a2 (s0 : zSt) : Int32 × zSt :=
    ((-102 : Int32), s0)
def fX9_set_a3 (v : Int32) (i : Int32) (x : Int64) (s0 : zSt) : Int32 × zSt :=
    bif (vX9_isWithin i (nI (4)) s0) then
      fX9_set_a1 v i x s0
    else
      fX9_set_a2 s0
def fX9_set_a4 (s0 : zSt) : Int32 × zSt :=
    ((-101 : Int32), s0)
def fX9_set (v : Int32) (i : Int32) (x : Int64) (s0 : zSt) : Int32 × zSt :=
    bif (vX9_isSlot v s0) then
      fX9_set_a3 v i x s0
    else
      fX9_set_a4 s0
set_option maxHeartbeats 4000000 in
set_option maxRecDepth 100000 in
theorem k_X9_set (l : Launch) (D : va_G) (kc : Nat → ClassId) (ad : Nat → Nat) (n : Nat) (hn : 216 ≤ n) (v : Int32) (i : Int32) (x : Int64) (s0 : zSt) : zM l yX9_set cX9_set 5 (some .int) rX9_set (wX D kc ad n) [.ref (zad (wX D kc ad n) 215), .int v, .int i, .long x] s0 (zV1 (.int (zfst (fX9_set v i x s0))) (zsnd (fX9_set v i x s0))) := by
  refine z_of (own := RX9) (by decide +kernel) rfl (Nat.le_of_ble_eq_true rfl) ?_
  intro κ C R0
  refine j_at [(0, .ref (zad (wX D kc ad n) 215)), (1, .int v), (2, .int i), (3, .long x)] ⟨rfl, rfl, rfl, rfl, trivial⟩ ?_
  refine j_iload_n C dX9_set_0 rfl rfl ?_
  refine j_callS1 C dX9_set_1 (k_X9_isSlot l D kc ad n (by omega) (v) _ ) zy_X9_isSlot mw_14_17 rfl rfl (Nat.le_of_ble_eq_true rfl) ⟨rfl, rfl, Nat.le_of_ble_eq_true rfl, Nat.le_of_ble_eq_true rfl⟩ ?_
  refine j_if_neB (tgt := 10) C dX9_set_4 (by decide) (fun q1 => ?_) (fun q1 => ?_)
  · have hA2 : fX9_set v i x s0 = fX9_set_a3 v i x s0 := by have q1z := q1; (try dsimp only at q1z); unfold fX9_set; (try dsimp only); rw [q1z, cond_true]; (try rfl)
    have hc3 := sl_of (x := v) (by assumption)
    have hc3b := hc3.2
    refine j_at [(0, .ref (zad (wX D kc ad n) 215)), (1, .int (nI (v.toNatClampNeg))), (2, .int i), (3, .long x)] ⟨rfl, congrArg (fun q => some (Value.int q)) hc3.1, rfl, rfl, trivial⟩ ?_
    refine j_iload_n C dX9_set_10 rfl rfl ?_
    refine j_iconst (v := nI 4) C dX9_set_11 (by decide +kernel) ?_
    refine j_callS1 C dX9_set_12 (k_X9_isWithin l D kc ad n (by omega) (i) (nI (4)) _ ) zy_X9_isWithin mw_14_20 rfl rfl (Nat.le_of_ble_eq_true rfl) ⟨rfl, rfl, Nat.le_of_ble_eq_true rfl, Nat.le_of_ble_eq_true rfl⟩ ?_
    refine j_if_neB (tgt := 21) C dX9_set_15 (by decide) (fun q4 => ?_) (fun q4 => ?_)
    · have hA5 : fX9_set_a3 v i x s0 = fX9_set_a1 v i x s0 := by have q4z := q4; (try dsimp only at q4z); unfold fX9_set_a3; (try dsimp only); rw [q4z, cond_true]; (try rfl)
      have hc6 := wi_of (x := i) (b := 4) (by decide) (by assumption)
      have hc6b := hc6.2
      refine j_at [(0, .ref (zad (wX D kc ad n) 215)), (1, .int (nI (v.toNatClampNeg))), (2, .int (nI (i.toNatClampNeg))), (3, .long x)] ⟨rfl, rfl, congrArg (fun q => some (Value.int q)) hc6.1, rfl, trivial⟩ ?_
      refine j_aload_n C dX9_set_21 rfl rfl ?_
      refine j_getR C dX9_set_22 (fx_RX9_13 D kc ad n) (show 11 ≤ 215 by decide) (show 215 < n by omega) ?_
      refine j_iload_n C dX9_set_25 rfl rfl ?_
      refine x_aald35 C dX9_set_26 (by omega) (by omega) ?_
      refine j_iload_n C dX9_set_27 rfl rfl ?_
      refine j_lload_n C dX9_set_28 rfl rfl ?_
      refine x_last C dX9_set_29 (sl_wa (n := n) v.toNatClampNeg (by omega) (by omega)) (by omega) ?_
      refine j_nmS (fun t7 et7 => ?_)
      refine j_iconst (v := nI 1) C dX9_set_30 (by decide +kernel) ?_
      exact j_iret (st := []) C R0 dX9_set_31 ⟨(by rw [hA2, hA5]; (try rw [et7]); unfold fX9_set_a1; (try dsimp only); all_goals ((try simp only [zfst_mk, zsnd_mk]); all_goals rfl)), ((by rw [hA2, hA5]; (try rw [et7]); unfold fX9_set_a1; (try dsimp only); all_goals ((try simp only [zfst_mk, zsnd_mk]); all_goals rfl)))⟩
    · have hA8 : fX9_set_a3 v i x s0 = fX9_set_a2 s0 := by have q4z := q4; (try dsimp only at q4z); unfold fX9_set_a3; (try dsimp only); rw [q4z, cond_false]; (try rfl)
      refine j_bipush (v := -102) C dX9_set_18 (by decide +kernel) ?_
      exact j_iret (st := []) C R0 dX9_set_20 ⟨(by rw [hA2, hA8]; unfold fX9_set_a2; (try dsimp only); all_goals ((try simp only [zfst_mk, zsnd_mk]); all_goals rfl)), ((by rw [hA2, hA8]; unfold fX9_set_a2; (try dsimp only); all_goals ((try simp only [zfst_mk, zsnd_mk]); all_goals rfl)))⟩
  · have hA9 : fX9_set v i x s0 = fX9_set_a4 s0 := by have q1z := q1; (try dsimp only at q1z); unfold fX9_set; (try dsimp only); rw [q1z, cond_false]; (try rfl)
    refine j_bipush (v := -101) C dX9_set_7 (by decide +kernel) ?_
    exact j_iret (st := []) C R0 dX9_set_9 ⟨(by rw [hA9]; unfold fX9_set_a4; (try dsimp only); all_goals ((try simp only [zfst_mk, zsnd_mk]); all_goals rfl)), ((by rw [hA9]; unfold fX9_set_a4; (try dsimp only); all_goals ((try simp only [zfst_mk, zsnd_mk]); all_goals rfl)))⟩
theorem k2q_fX9_set_a1 (v : Int32) (i : Int32) (x : Int64) (s0 : zSt) : zk2s (fX9_set_a1 v i x s0) = zk2 s0 := by
  unfold fX9_set_a1
  (try dsimp only)
  all_goals (simp only [zW_2, zL_2, zk2s_mk]; done)
theorem k2_fX9_set_a1 (v : Int32) (i : Int32) (x : Int64) (s0 : zSt) : zk2 (zsnd (fX9_set_a1 v i x s0)) = zk2 s0 := k2q_fX9_set_a1 v i x s0
theorem k2q_fX9_set_a2 (s0 : zSt) : zk2s (fX9_set_a2 s0) = zk2 s0 := by
  unfold fX9_set_a2
  (try dsimp only)
  all_goals (simp only [zW_2, zL_2, zk2s_mk]; done)
theorem k2_fX9_set_a2 (s0 : zSt) : zk2 (zsnd (fX9_set_a2 s0)) = zk2 s0 := k2q_fX9_set_a2 s0
theorem k2q_fX9_set_a3 (v : Int32) (i : Int32) (x : Int64) (s0 : zSt) : zk2s (fX9_set_a3 v i x s0) = zk2 s0 := by
  unfold fX9_set_a3
  (try dsimp only)
  all_goals (refine cond_keep (fun r : Int32 × zSt => zk2s r) _ ?_ ?_ <;> (simp only [zW_2, zL_2, k2_fX9_set_a1, k2_fX9_set_a2, k2q_fX9_set_a1, k2q_fX9_set_a2, zk2s_mk]; done))
theorem k2_fX9_set_a3 (v : Int32) (i : Int32) (x : Int64) (s0 : zSt) : zk2 (zsnd (fX9_set_a3 v i x s0)) = zk2 s0 := k2q_fX9_set_a3 v i x s0
theorem k2q_fX9_set_a4 (s0 : zSt) : zk2s (fX9_set_a4 s0) = zk2 s0 := by
  unfold fX9_set_a4
  (try dsimp only)
  all_goals (simp only [zW_2, zL_2, zk2s_mk]; done)
theorem k2_fX9_set_a4 (s0 : zSt) : zk2 (zsnd (fX9_set_a4 s0)) = zk2 s0 := k2q_fX9_set_a4 s0
theorem k2q_fX9_set (v : Int32) (i : Int32) (x : Int64) (s0 : zSt) : zk2s (fX9_set v i x s0) = zk2 s0 := by
  unfold fX9_set
  (try dsimp only)
  all_goals (refine cond_keep (fun r : Int32 × zSt => zk2s r) _ ?_ ?_ <;> (simp only [zW_2, zL_2, k2_fX9_set_a3, k2_fX9_set_a4, k2q_fX9_set_a3, k2q_fX9_set_a4, zk2s_mk]; done))
theorem k2_fX9_set (v : Int32) (i : Int32) (x : Int64) (s0 : zSt) : zk2 (zsnd (fX9_set v i x s0)) = zk2 s0 := k2q_fX9_set v i x s0
theorem i2_fX9_set (v : Int32) (i : Int32) (x : Int64) (s0 : zSt) (kk9 : Nat) : (zsnd (fX9_set v i x s0)).2.2 kk9 = s0.2.2 kk9 := z2_I (k2_fX9_set v i x s0) kk9
theorem i3_fX9_set (v : Int32) (i : Int32) (x : Int64) (s0 : zSt) (kk9 : Nat) : zi (zsnd (fX9_set v i x s0)) kk9 = zi s0 kk9 := zi_of (k2_fX9_set v i x s0) kk9

def fX9_word_a1 (s0 : zSt) : Int64 :=
    (0 : Int64)
def fX9_word_a2 (v : Int32) (i : Int32) (s0 : zSt) : Int64 :=
    s0.1 (11 + v.toNatClampNeg) i.toNatClampNeg
def fX9_word_a3 (s0 : zSt) : Int64 :=
    (0 : Int64)
def fX9_word_a4 (v : Int32) (i : Int32) (s0 : zSt) : Int64 :=
    bif (vX9_isWithin i (nI (4)) s0) then
      fX9_word_a2 v i s0
    else
      fX9_word_a3 s0
def vX9_word (v : Int32) (i : Int32) (s0 : zSt) : Int64 :=
    bif (vX9_isSlot v s0) then
      fX9_word_a4 v i s0
    else
      fX9_word_a1 s0
set_option maxHeartbeats 4000000 in
set_option maxRecDepth 100000 in
theorem k_X9_word (l : Launch) (D : va_G) (kc : Nat → ClassId) (ad : Nat → Nat) (n : Nat) (hn : 216 ≤ n) (v : Int32) (i : Int32) (s0 : zSt) : zM l yX9_word cX9_word 3 (some .long) rX9_word (wX D kc ad n) [.ref (zad (wX D kc ad n) 215), .int v, .int i] s0 (zV1 (.long (vX9_word v i s0)) s0) := by
  refine z_of (own := RX9) (by decide +kernel) rfl (Nat.le_of_ble_eq_true rfl) ?_
  intro κ C R0
  refine j_at [(0, .ref (zad (wX D kc ad n) 215)), (1, .int v), (2, .int i)] ⟨rfl, rfl, rfl, trivial⟩ ?_
  refine j_iload_n C dX9_word_0 rfl rfl ?_
  refine j_callS1 C dX9_word_1 (k_X9_isSlot l D kc ad n (by omega) (v) _ ) zy_X9_isSlot mw_14_17 rfl rfl (Nat.le_of_ble_eq_true rfl) ⟨rfl, rfl, Nat.le_of_ble_eq_true rfl, Nat.le_of_ble_eq_true rfl⟩ ?_
  refine j_if_eqB (tgt := 15) C dX9_word_4 (by decide) (fun q1 => ?_) (fun q1 => ?_)
  · have hA2 : vX9_word v i s0 = fX9_word_a1 s0 := by have q1z := q1; (try dsimp only at q1z); unfold vX9_word; (try dsimp only); rw [q1z, cond_false]; (try rfl)
    refine j_lconst (v := 0) C dX9_word_15 rfl ?_
    exact j_lret (st := []) C R0 dX9_word_16 ⟨(by rw [hA2]; unfold fX9_word_a1; (try dsimp only); all_goals ((try simp only [zfst_mk, zsnd_mk]); all_goals rfl)), ((by rfl))⟩
  · have hA3 : vX9_word v i s0 = fX9_word_a4 v i s0 := by have q1z := q1; (try dsimp only at q1z); unfold vX9_word; (try dsimp only); rw [q1z, cond_true]; (try rfl)
    refine j_iload_n C dX9_word_7 rfl rfl ?_
    refine j_iconst (v := nI 4) C dX9_word_8 (by decide +kernel) ?_
    refine j_callS1 C dX9_word_9 (k_X9_isWithin l D kc ad n (by omega) (i) (nI (4)) _ ) zy_X9_isWithin mw_14_20 rfl rfl (Nat.le_of_ble_eq_true rfl) ⟨rfl, rfl, Nat.le_of_ble_eq_true rfl, Nat.le_of_ble_eq_true rfl⟩ ?_
    refine j_if_neB (tgt := 17) C dX9_word_12 (by decide) (fun q4 => ?_) (fun q4 => ?_)
    · have hA5 : fX9_word_a4 v i s0 = fX9_word_a2 v i s0 := by have q4z := q4; (try dsimp only at q4z); unfold fX9_word_a4; (try dsimp only); rw [q4z, cond_true]; (try rfl)
      have hc6 := sl_of (x := v) (by assumption)
      have hc6b := hc6.2
      have hc7 := wi_of (x := i) (b := 4) (by decide) (by assumption)
      have hc7b := hc7.2
      refine j_at [(0, .ref (zad (wX D kc ad n) 215)), (1, .int (nI (v.toNatClampNeg))), (2, .int (nI (i.toNatClampNeg)))] ⟨rfl, congrArg (fun q => some (Value.int q)) hc6.1, congrArg (fun q => some (Value.int q)) hc7.1, trivial⟩ ?_
      refine j_aload_n C dX9_word_17 rfl rfl ?_
      refine j_getR C dX9_word_18 (fx_RX9_13 D kc ad n) (show 11 ≤ 215 by decide) (show 215 < n by omega) ?_
      refine j_iload_n C dX9_word_21 rfl rfl ?_
      refine x_aald35 C dX9_word_22 (by omega) (by omega) ?_
      refine j_iload_n C dX9_word_23 rfl rfl ?_
      refine x_lald C dX9_word_24 (sl_wa (n := n) v.toNatClampNeg (by omega) (by omega)).1 (by omega) ?_
      exact j_lret (st := []) C R0 dX9_word_25 ⟨(by rw [hA3, hA5]; unfold fX9_word_a2; (try dsimp only); all_goals ((try simp only [zfst_mk, zsnd_mk]); all_goals rfl)), ((by rfl))⟩
    · have hA8 : fX9_word_a4 v i s0 = fX9_word_a3 s0 := by have q4z := q4; (try dsimp only at q4z); unfold fX9_word_a4; (try dsimp only); rw [q4z, cond_false]; (try rfl)
      refine j_lconst (v := 0) C dX9_word_15 rfl ?_
      exact j_lret (st := []) C R0 dX9_word_16 ⟨(by rw [hA3, hA8]; unfold fX9_word_a3; (try dsimp only); all_goals ((try simp only [zfst_mk, zsnd_mk]); all_goals rfl)), ((by rfl))⟩

def fX9_copy_a1 (s0 : zSt) : Int32 × zSt :=
    ((-101 : Int32), s0)
def fX9_copy_a2 (v : Int32) (u : Int32) (s0 : zSt) : Int32 × zSt :=
    let t8 := fX8_move (11 + v.toNatClampNeg) (11 + u.toNatClampNeg) s0
    (nI (1), t8)
def fX9_copy_a3 (s0 : zSt) : Int32 × zSt :=
    ((-101 : Int32), s0)
def fX9_copy_a4 (v : Int32) (u : Int32) (s0 : zSt) : Int32 × zSt :=
    bif (vX9_isSlot u s0) then
      fX9_copy_a2 v u s0
    else
      fX9_copy_a3 s0
def fX9_copy (v : Int32) (u : Int32) (s0 : zSt) : Int32 × zSt :=
    bif (vX9_isSlot v s0) then
      fX9_copy_a4 v u s0
    else
      fX9_copy_a1 s0
set_option maxHeartbeats 4000000 in
set_option maxRecDepth 100000 in
theorem k_X9_copy (l : Launch) (D : va_G) (kc : Nat → ClassId) (ad : Nat → Nat) (n : Nat) (hn : 216 ≤ n) (v : Int32) (u : Int32) (s0 : zSt) : zM l yX9_copy cX9_copy 3 (some .int) rX9_copy (wX D kc ad n) [.ref (zad (wX D kc ad n) 215), .int v, .int u] s0 (zV1 (.int (zfst (fX9_copy v u s0))) (zsnd (fX9_copy v u s0))) := by
  refine z_of (own := RX9) (by decide +kernel) rfl (Nat.le_of_ble_eq_true rfl) ?_
  intro κ C R0
  refine j_at [(0, .ref (zad (wX D kc ad n) 215)), (1, .int v), (2, .int u)] ⟨rfl, rfl, rfl, trivial⟩ ?_
  refine j_iload_n C dX9_copy_0 rfl rfl ?_
  refine j_callS1 C dX9_copy_1 (k_X9_isSlot l D kc ad n (by omega) (v) _ ) zy_X9_isSlot mw_14_17 rfl rfl (Nat.le_of_ble_eq_true rfl) ⟨rfl, rfl, Nat.le_of_ble_eq_true rfl, Nat.le_of_ble_eq_true rfl⟩ ?_
  refine j_if_eqB (tgt := 14) C dX9_copy_4 (by decide) (fun q1 => ?_) (fun q1 => ?_)
  · have hA2 : fX9_copy v u s0 = fX9_copy_a1 s0 := by have q1z := q1; (try dsimp only at q1z); unfold fX9_copy; (try dsimp only); rw [q1z, cond_false]; (try rfl)
    refine j_bipush (v := -101) C dX9_copy_14 (by decide +kernel) ?_
    exact j_iret (st := []) C R0 dX9_copy_16 ⟨(by rw [hA2]; unfold fX9_copy_a1; (try dsimp only); all_goals ((try simp only [zfst_mk, zsnd_mk]); all_goals rfl)), ((by rw [hA2]; unfold fX9_copy_a1; (try dsimp only); all_goals ((try simp only [zfst_mk, zsnd_mk]); all_goals rfl)))⟩
  · have hA3 : fX9_copy v u s0 = fX9_copy_a4 v u s0 := by have q1z := q1; (try dsimp only at q1z); unfold fX9_copy; (try dsimp only); rw [q1z, cond_true]; (try rfl)
    refine j_iload_n C dX9_copy_7 rfl rfl ?_
    refine j_callS1 C dX9_copy_8 (k_X9_isSlot l D kc ad n (by omega) (u) _ ) zy_X9_isSlot mw_14_17 rfl rfl (Nat.le_of_ble_eq_true rfl) ⟨rfl, rfl, Nat.le_of_ble_eq_true rfl, Nat.le_of_ble_eq_true rfl⟩ ?_
    refine j_if_neB (tgt := 17) C dX9_copy_11 (by decide) (fun q4 => ?_) (fun q4 => ?_)
    · have hA5 : fX9_copy_a4 v u s0 = fX9_copy_a2 v u s0 := by have q4z := q4; (try dsimp only at q4z); unfold fX9_copy_a4; (try dsimp only); rw [q4z, cond_true]; (try rfl)
      have hc6 := sl_of (x := v) (by assumption)
      have hc6b := hc6.2
      have hc7 := sl_of (x := u) (by assumption)
      have hc7b := hc7.2
      refine j_at [(0, .ref (zad (wX D kc ad n) 215)), (1, .int (nI (v.toNatClampNeg))), (2, .int (nI (u.toNatClampNeg)))] ⟨rfl, congrArg (fun q => some (Value.int q)) hc6.1, congrArg (fun q => some (Value.int q)) hc7.1, trivial⟩ ?_
      refine j_aload_n C dX9_copy_17 rfl rfl ?_
      refine j_getR C dX9_copy_18 (fx_RX9_13 D kc ad n) (show 11 ≤ 215 by decide) (show 215 < n by omega) ?_
      refine j_iload_n C dX9_copy_21 rfl rfl ?_
      refine x_aald35 C dX9_copy_22 (by omega) (by omega) ?_
      refine j_aload_n C dX9_copy_23 rfl rfl ?_
      refine j_getR C dX9_copy_24 (fx_RX9_13 D kc ad n) (show 11 ≤ 215 by decide) (show 215 < n by omega) ?_
      refine j_iload_n C dX9_copy_27 rfl rfl ?_
      refine x_aald35 C dX9_copy_28 (by omega) (by omega) ?_
      refine j_callS0 C dX9_copy_29 (k_X8_move l D kc ad n (by omega) (11 + v.toNatClampNeg) (sl_wa (n := n) v.toNatClampNeg (by omega) (by omega)).1 (11 + u.toNatClampNeg) (sl_wa (n := n) u.toNatClampNeg (by omega) (by omega)) _ ) zy_X8_move mw_15_21 rfl rfl (Nat.le_of_ble_eq_true rfl) ⟨rfl, rfl, Nat.le_of_ble_eq_true rfl, Nat.le_of_ble_eq_true rfl⟩ ?_
      refine j_nmS (fun t8 et8 => ?_)
      refine j_iconst (v := nI 1) C dX9_copy_32 (by decide +kernel) ?_
      exact j_iret (st := []) C R0 dX9_copy_33 ⟨(by rw [hA3, hA5]; (try rw [et8]); unfold fX9_copy_a2; (try dsimp only); all_goals ((try simp only [zfst_mk, zsnd_mk]); all_goals rfl)), ((by rw [hA3, hA5]; (try rw [et8]); unfold fX9_copy_a2; (try dsimp only); all_goals ((try simp only [zfst_mk, zsnd_mk]); all_goals rfl)))⟩
    · have hA9 : fX9_copy_a4 v u s0 = fX9_copy_a3 s0 := by have q4z := q4; (try dsimp only at q4z); unfold fX9_copy_a4; (try dsimp only); rw [q4z, cond_false]; (try rfl)
      refine j_bipush (v := -101) C dX9_copy_14 (by decide +kernel) ?_
      exact j_iret (st := []) C R0 dX9_copy_16 ⟨(by rw [hA3, hA9]; unfold fX9_copy_a3; (try dsimp only); all_goals ((try simp only [zfst_mk, zsnd_mk]); all_goals rfl)), ((by rw [hA3, hA9]; unfold fX9_copy_a3; (try dsimp only); all_goals ((try simp only [zfst_mk, zsnd_mk]); all_goals rfl)))⟩
theorem k2q_fX9_copy_a1 (s0 : zSt) : zk2s (fX9_copy_a1 s0) = zk2 s0 := by
  unfold fX9_copy_a1
  (try dsimp only)
  all_goals (simp only [zW_2, zL_2, zk2s_mk]; done)
theorem k2_fX9_copy_a1 (s0 : zSt) : zk2 (zsnd (fX9_copy_a1 s0)) = zk2 s0 := k2q_fX9_copy_a1 s0
theorem k2q_fX9_copy_a2 (v : Int32) (u : Int32) (s0 : zSt) : zk2s (fX9_copy_a2 v u s0) = zk2 s0 := by
  unfold fX9_copy_a2
  (try dsimp only)
  all_goals (simp only [zW_2, zL_2, k2_fX8_move, zk2s_mk]; done)
theorem k2_fX9_copy_a2 (v : Int32) (u : Int32) (s0 : zSt) : zk2 (zsnd (fX9_copy_a2 v u s0)) = zk2 s0 := k2q_fX9_copy_a2 v u s0
theorem k2q_fX9_copy_a3 (s0 : zSt) : zk2s (fX9_copy_a3 s0) = zk2 s0 := by
  unfold fX9_copy_a3
  (try dsimp only)
  all_goals (simp only [zW_2, zL_2, zk2s_mk]; done)
theorem k2_fX9_copy_a3 (s0 : zSt) : zk2 (zsnd (fX9_copy_a3 s0)) = zk2 s0 := k2q_fX9_copy_a3 s0
theorem k2q_fX9_copy_a4 (v : Int32) (u : Int32) (s0 : zSt) : zk2s (fX9_copy_a4 v u s0) = zk2 s0 := by
  unfold fX9_copy_a4
  (try dsimp only)
  all_goals (refine cond_keep (fun r : Int32 × zSt => zk2s r) _ ?_ ?_ <;> (simp only [zW_2, zL_2, k2_fX9_copy_a2, k2_fX9_copy_a3, k2q_fX9_copy_a2, k2q_fX9_copy_a3, zk2s_mk]; done))
theorem k2_fX9_copy_a4 (v : Int32) (u : Int32) (s0 : zSt) : zk2 (zsnd (fX9_copy_a4 v u s0)) = zk2 s0 := k2q_fX9_copy_a4 v u s0
theorem k2q_fX9_copy (v : Int32) (u : Int32) (s0 : zSt) : zk2s (fX9_copy v u s0) = zk2 s0 := by
  unfold fX9_copy
  (try dsimp only)
  all_goals (refine cond_keep (fun r : Int32 × zSt => zk2s r) _ ?_ ?_ <;> (simp only [zW_2, zL_2, k2_fX9_copy_a1, k2_fX9_copy_a4, k2q_fX9_copy_a1, k2q_fX9_copy_a4, zk2s_mk]; done))
theorem k2_fX9_copy (v : Int32) (u : Int32) (s0 : zSt) : zk2 (zsnd (fX9_copy v u s0)) = zk2 s0 := k2q_fX9_copy v u s0
theorem i2_fX9_copy (v : Int32) (u : Int32) (s0 : zSt) (kk9 : Nat) : (zsnd (fX9_copy v u s0)).2.2 kk9 = s0.2.2 kk9 := z2_I (k2_fX9_copy v u s0) kk9
theorem i3_fX9_copy (v : Int32) (u : Int32) (s0 : zSt) (kk9 : Nat) : zi (zsnd (fX9_copy v u s0)) kk9 = zi s0 kk9 := zi_of (k2_fX9_copy v u s0) kk9

def fX9_clear  (s0 : zSt) : Int32 × zSt :=
    let x1 := s0.2.2 4
    let t2 := zI s0 4 (nI (0))
    (x1, t2)
set_option maxHeartbeats 4000000 in
set_option maxRecDepth 100000 in
theorem k_X9_clear (l : Launch) (D : va_G) (kc : Nat → ClassId) (ad : Nat → Nat) (n : Nat) (hn : 216 ≤ n)  (s0 : zSt) : zM l yX9_clear cX9_clear 2 (some .int) rX9_clear (wX D kc ad n) [.ref (zad (wX D kc ad n) 215)] s0 (zV1 (.int (zfst (fX9_clear  s0))) (zsnd (fX9_clear  s0))) := by
  refine z_of (own := RX9) (by decide +kernel) rfl (Nat.le_of_ble_eq_true rfl) ?_
  intro κ C R0
  refine j_at [(0, .ref (zad (wX D kc ad n) 215))] ⟨rfl, trivial⟩ ?_
  refine j_aload_n C dX9_clear_0 rfl rfl ?_
  refine j_getR C dX9_clear_1 (fx_RX9_19 D kc ad n) (show 11 ≤ 215 by decide) (show 215 < n by omega) ?_
  refine j_getI C dX9_clear_4 (fx_RX9_114 D kc ad n) (show 11 ≤ 37 by decide) (show 37 < n by omega) ?_
  refine j_nmI (fun x1 ex1 => ?_)
  refine j_istore_n C dX9_clear_7 rfl (by decide) ?_
  refine j_aload_n C dX9_clear_8 rfl rfl ?_
  refine j_getR C dX9_clear_9 (fx_RX9_19 D kc ad n) (show 11 ≤ 215 by decide) (show 215 < n by omega) ?_
  refine j_iconst (v := nI 0) C dX9_clear_12 (by decide +kernel) ?_
  refine j_putI C dX9_clear_13 (pfx_RX9_114 D kc ad n) (ox_4 D kc ad n) (show 11 ≤ 37 by decide) (show 37 < n by omega) ?_
  refine j_nmS (fun t2 et2 => ?_)
  refine j_iload_n C dX9_clear_16 rfl rfl ?_
  exact j_iret (st := []) C R0 dX9_clear_17 ⟨(by (try rw [et2]); (try rw [ex1]); unfold fX9_clear; (try dsimp only); all_goals ((try simp only [zfst_mk, zsnd_mk]); all_goals rfl)), ((by (try rw [et2]); (try rw [ex1]); unfold fX9_clear; (try dsimp only); all_goals ((try simp only [zfst_mk, zsnd_mk]); all_goals rfl)))⟩

theorem ty_of {x : Int32} (h1 : ¬ x < nI 1) (h2 : x ≤ nI 8) : x = nI x.toNatClampNeg ∧ x.toNatClampNeg < 9 := nI_self (by decide) (fun q => h1 (Int32.lt_iff_toInt_lt.mpr (by have := Int32.lt_iff_toInt_lt.mp q; rw [nI_toInt (by decide)]; simp at this; omega))) (Or.inl (Int32.lt_iff_toInt_lt.mpr (by have := Int32.le_iff_toInt_le.mp h2; rw [nI_toInt (by decide)] at this ⊢; omega)))
theorem zI04 (σ : zSt) (v : Int32) : (zI σ 0 v).2.2 4 = σ.2.2 4 := id rfl
theorem zI24 (σ : zSt) (v : Int32) : (zI σ 2 v).2.2 4 = σ.2.2 4 := id rfl
theorem zI10 (σ : zSt) (v : Int32) : (zI σ 1 v).2.2 0 = σ.2.2 0 := id rfl
theorem zI30 (σ : zSt) (v : Int32) : (zI σ 3 v).2.2 0 = σ.2.2 0 := id rfl
theorem zI15 (σ : zSt) (v : Int32) : (zI σ 1 v).2.2 5 = σ.2.2 5 := id rfl
theorem zI35 (σ : zSt) (v : Int32) : (zI σ 3 v).2.2 5 = σ.2.2 5 := id rfl
def fX9_type_a1 (s0 : zSt) : Int32 × zSt :=
    ((-102 : Int32), s0)
def fX9_type_a2 (x : Int64) (k : Int32) (T0 : Nat) (s0 : zSt) : Int32 × zSt :=
    let t9 := fX7_append x k.toNatClampNeg T0 s0
    (t9.2.2 4, t9)
def fX9_type_a3 (s0 : zSt) : Int32 × zSt :=
    ((-104 : Int32), s0)
def fX9_type_a4 (x : Int64) (k : Int32) (T0 : Nat) (s0 : zSt) : Int32 × zSt :=
    if k.toNatClampNeg ≤ 400 - T0 then
      fX9_type_a2 x k T0 s0
    else
      fX9_type_a3 s0
def fX9_type_a5 (s0 : zSt) : Int32 × zSt :=
    ((-102 : Int32), s0)
def fX9_type_a6 (x : Int64) (k : Int32) (T0 : Nat) (s0 : zSt) : Int32 × zSt :=
    if k ≤ nI (8) then
      fX9_type_a4 x k T0 s0
    else
      fX9_type_a5 s0
def fX9_type (x : Int64) (k : Int32) (T0 : Nat) (s0 : zSt) : Int32 × zSt :=
    if k < nI (1) then
      fX9_type_a1 s0
    else
      fX9_type_a6 x k T0 s0
set_option maxHeartbeats 4000000 in
set_option maxRecDepth 100000 in
theorem k_X9_type (l : Launch) (D : va_G) (kc : Nat → ClassId) (ad : Nat → Nat) (n : Nat) (hn : 216 ≤ n) (x : Int64) (k : Int32) (T0 : Nat) (s0 : zSt) (htx : s0.2.2 4 = nI T0) (hT0 : T0 ≤ 400) : zM l yX9_type cX9_type 4 (some .int) rX9_type (wX D kc ad n) [.ref (zad (wX D kc ad n) 215), .long x, .int k] s0 (zV1 (.int (zfst (fX9_type x k T0 s0))) (zsnd (fX9_type x k T0 s0))) := by
  refine z_of (own := RX9) (by decide +kernel) rfl (Nat.le_of_ble_eq_true rfl) ?_
  intro κ C R0
  refine j_at [(0, .ref (zad (wX D kc ad n) 215)), (1, .long x), (3, .int k)] ⟨rfl, rfl, rfl, trivial⟩ ?_
  refine j_iload_n C dX9_type_0 rfl rfl ?_
  refine j_iconst (v := nI 1) C dX9_type_1 (by decide +kernel) ?_
  refine j_icmp_lt (tgt := 11) C dX9_type_2 (by decide) (fun q1 => ?_) (fun q1 => ?_)
  · have hA2 : fX9_type x k T0 s0 = fX9_type_a1 s0 := by have q1z := q1; (try dsimp only at q1z); unfold fX9_type; (try dsimp only); rw [if_pos q1z]; (try rfl)
    refine j_bipush (v := -102) C dX9_type_11 (by decide +kernel) ?_
    exact j_iret (st := []) C R0 dX9_type_13 ⟨(by rw [hA2]; unfold fX9_type_a1; (try dsimp only); all_goals ((try simp only [zfst_mk, zsnd_mk]); all_goals rfl)), ((by rw [hA2]; unfold fX9_type_a1; (try dsimp only); all_goals ((try simp only [zfst_mk, zsnd_mk]); all_goals rfl)))⟩
  · have hA3 : fX9_type x k T0 s0 = fX9_type_a6 x k T0 s0 := by have q1z := q1; (try dsimp only at q1z); unfold fX9_type; (try dsimp only); rw [if_neg q1z]; (try rfl)
    refine j_iload_n C dX9_type_5 rfl rfl ?_
    refine j_bipush (v := nI 8) C dX9_type_6 (by decide +kernel) ?_
    refine j_icmp_le (tgt := 14) C dX9_type_8 (by decide) (fun q4 => ?_) (fun q4 => ?_)
    · have hA5 : fX9_type_a6 x k T0 s0 = fX9_type_a4 x k T0 s0 := by have q4z := q4; (try dsimp only at q4z); unfold fX9_type_a6; (try dsimp only); rw [if_pos q4z]; (try rfl)
      have hc6 := ty_of (x := k) (by assumption) (by assumption)
      have hc6b := hc6.2
      refine j_at [(0, .ref (zad (wX D kc ad n) 215)), (1, .long x), (3, .int (nI (k.toNatClampNeg)))] ⟨rfl, rfl, congrArg (fun q => some (Value.int q)) hc6.1, trivial⟩ ?_
      refine j_iload_n C dX9_type_14 rfl rfl ?_
      refine j_sipush (v := nI 400) C dX9_type_15 (by decide +kernel) ?_
      refine j_aload_n C dX9_type_18 rfl rfl ?_
      refine j_getR C dX9_type_19 (fx_RX9_19 D kc ad n) (show 11 ≤ 215 by decide) (show 215 < n by omega) ?_
      refine j_getI C dX9_type_22 (fx_RX9_114 D kc ad n) (show 11 ≤ 37 by decide) (show 37 < n by omega) ?_
      refine j_top (v := .int (nI (T0))) (congrArg Value.int (htx)) ?_
      refine j_isubN C dX9_type_25 (by omega) ?_
      refine j_icmp_leN (tgt := 32) C dX9_type_26 (by decide) (by omega) (by omega) (fun q7 => ?_) (fun q7 => ?_)
      · have hA8 : fX9_type_a4 x k T0 s0 = fX9_type_a2 x k T0 s0 := by have q7z := q7; (try dsimp only at q7z); unfold fX9_type_a4; (try dsimp only); rw [if_pos q7z]; (try rfl)
        refine j_aload_n C dX9_type_32 rfl rfl ?_
        refine j_getR C dX9_type_33 (fx_RX9_19 D kc ad n) (show 11 ≤ 215 by decide) (show 215 < n by omega) ?_
        refine j_lload_n C dX9_type_36 rfl rfl ?_
        refine j_iload_n C dX9_type_37 rfl rfl ?_
        refine j_callV0 (T := TX7) (N := 2) C dX9_type_38 (k_X7_append l D kc ad n (by omega) x k.toNatClampNeg (by omega) T0 _ htx (by omega)) zy_X7_append mw_16_22 rfl rfl (show 11 ≤ 37 by decide) (show 37 < n by omega) rfl rfl (Nat.le_of_ble_eq_true rfl) ⟨rfl, rfl, Nat.le_of_ble_eq_true rfl, Nat.le_of_ble_eq_true rfl⟩ ?_
        refine j_nmS (fun t9 et9 => ?_)
        refine j_aload_n C dX9_type_41 rfl rfl ?_
        refine j_getR C dX9_type_42 (fx_RX9_19 D kc ad n) (show 11 ≤ 215 by decide) (show 215 < n by omega) ?_
        refine j_getI C dX9_type_45 (fx_RX9_114 D kc ad n) (show 11 ≤ 37 by decide) (show 37 < n by omega) ?_
        exact j_iret (st := []) C R0 dX9_type_48 ⟨(by rw [hA3, hA5, hA8]; (try rw [et9]); unfold fX9_type_a2; (try dsimp only); all_goals ((try simp only [zfst_mk, zsnd_mk]); all_goals rfl)), ((by rw [hA3, hA5, hA8]; (try rw [et9]); unfold fX9_type_a2; (try dsimp only); all_goals ((try simp only [zfst_mk, zsnd_mk]); all_goals rfl)))⟩
      · have hA10 : fX9_type_a4 x k T0 s0 = fX9_type_a3 s0 := by have q7z : ¬ (k.toNatClampNeg ≤ 400 - T0) := (by omega); (try dsimp only at q7z); unfold fX9_type_a4; (try dsimp only); rw [if_neg q7z]; (try rfl)
        refine j_bipush (v := -104) C dX9_type_29 (by decide +kernel) ?_
        exact j_iret (st := []) C R0 dX9_type_31 ⟨(by rw [hA3, hA5, hA10]; unfold fX9_type_a3; (try dsimp only); all_goals ((try simp only [zfst_mk, zsnd_mk]); all_goals rfl)), ((by rw [hA3, hA5, hA10]; unfold fX9_type_a3; (try dsimp only); all_goals ((try simp only [zfst_mk, zsnd_mk]); all_goals rfl)))⟩
    · have hA11 : fX9_type_a6 x k T0 s0 = fX9_type_a5 s0 := by have q4z := q4; (try dsimp only at q4z); unfold fX9_type_a6; (try dsimp only); rw [if_neg q4z]; (try rfl)
      refine j_bipush (v := -102) C dX9_type_11 (by decide +kernel) ?_
      exact j_iret (st := []) C R0 dX9_type_13 ⟨(by rw [hA3, hA11]; unfold fX9_type_a5; (try dsimp only); all_goals ((try simp only [zfst_mk, zsnd_mk]); all_goals rfl)), ((by rw [hA3, hA11]; unfold fX9_type_a5; (try dsimp only); all_goals ((try simp only [zfst_mk, zsnd_mk]); all_goals rfl)))⟩

def fX9_at_a1 (s0 : zSt) : Int32 :=
    (-1 : Int32)
def fX9_at_a2 (i : Int32) (s0 : zSt) : Int32 :=
    nI (vX7_byteAt i.toNatClampNeg s0)
def vX9_at (i : Int32) (T0 : Nat) (s0 : zSt) : Int32 :=
    bif (vX9_isWithin i (nI (T0)) s0) then
      fX9_at_a2 i s0
    else
      fX9_at_a1 s0
set_option maxHeartbeats 4000000 in
set_option maxRecDepth 100000 in
theorem k_X9_at (l : Launch) (D : va_G) (kc : Nat → ClassId) (ad : Nat → Nat) (n : Nat) (hn : 216 ≤ n) (i : Int32) (T0 : Nat) (s0 : zSt) (htx : s0.2.2 4 = nI T0) (hT0 : T0 ≤ 400) : zM l yX9_at cX9_at 2 (some .int) rX9_at (wX D kc ad n) [.ref (zad (wX D kc ad n) 215), .int i] s0 (zV1 (.int (vX9_at i T0 s0)) s0) := by
  refine z_of (own := RX9) (by decide +kernel) rfl (Nat.le_of_ble_eq_true rfl) ?_
  intro κ C R0
  refine j_at [(0, .ref (zad (wX D kc ad n) 215)), (1, .int i)] ⟨rfl, rfl, trivial⟩ ?_
  refine j_iload_n C dX9_at_0 rfl rfl ?_
  refine j_aload_n C dX9_at_1 rfl rfl ?_
  refine j_getR C dX9_at_2 (fx_RX9_19 D kc ad n) (show 11 ≤ 215 by decide) (show 215 < n by omega) ?_
  refine j_getI C dX9_at_5 (fx_RX9_114 D kc ad n) (show 11 ≤ 37 by decide) (show 37 < n by omega) ?_
  refine j_top (v := .int (nI (T0))) (congrArg Value.int (htx)) ?_
  refine j_callS1 C dX9_at_8 (k_X9_isWithin l D kc ad n (by omega) (i) (nI (T0)) _ ) zy_X9_isWithin mw_14_20 rfl rfl (Nat.le_of_ble_eq_true rfl) ⟨rfl, rfl, Nat.le_of_ble_eq_true rfl, Nat.le_of_ble_eq_true rfl⟩ ?_
  refine j_if_eqB (tgt := 25) C dX9_at_11 (by decide) (fun q1 => ?_) (fun q1 => ?_)
  · have hA2 : vX9_at i T0 s0 = fX9_at_a1 s0 := by have q1z := q1; (try dsimp only at q1z); unfold vX9_at; (try dsimp only); rw [q1z, cond_false]; (try rfl)
    refine j_iconst (v := -1) C dX9_at_25 (by decide +kernel) ?_
    exact j_iret (st := []) C R0 dX9_at_26 ⟨(by rw [hA2]; unfold fX9_at_a1; (try dsimp only); all_goals ((try simp only [zfst_mk, zsnd_mk]); all_goals rfl)), ((by rfl))⟩
  · have hA3 : vX9_at i T0 s0 = fX9_at_a2 i s0 := by have q1z := q1; (try dsimp only at q1z); unfold vX9_at; (try dsimp only); rw [q1z, cond_true]; (try rfl)
    have hc4 := wi_of (x := i) (b := T0) (by omega) (by assumption)
    have hc4b := hc4.2
    refine j_at [(0, .ref (zad (wX D kc ad n) 215)), (1, .int (nI (i.toNatClampNeg)))] ⟨rfl, congrArg (fun q => some (Value.int q)) hc4.1, trivial⟩ ?_
    refine j_aload_n C dX9_at_14 rfl rfl ?_
    refine j_getR C dX9_at_15 (fx_RX9_19 D kc ad n) (show 11 ≤ 215 by decide) (show 215 < n by omega) ?_
    refine j_iload_n C dX9_at_18 rfl rfl ?_
    refine j_callV1 (T := TX7) (N := 2) C dX9_at_19 (k_X7_byteAt l D kc ad n (by omega) i.toNatClampNeg (by omega) _ ) zy_X7_byteAt mw_17_19 rfl rfl (show 11 ≤ 37 by decide) (show 37 < n by omega) rfl rfl (Nat.le_of_ble_eq_true rfl) ⟨rfl, rfl, Nat.le_of_ble_eq_true rfl, Nat.le_of_ble_eq_true rfl⟩ ?_
    refine j_goto (tgt := 26) C dX9_at_22 (by decide) ?_
    exact j_iret (st := []) C R0 dX9_at_26 ⟨(by rw [hA3]; unfold fX9_at_a2; (try dsimp only); all_goals ((try simp only [zfst_mk, zsnd_mk]); all_goals rfl)), ((by rfl))⟩

def fX9_flip_a1 (s0 : zSt) : Int32 × zSt :=
    ((-102 : Int32), s0)
def fX9_flip_a2 (v : Int32) (k : Int32) (i : Int32) (s0 : zSt) : Int32 × zSt :=
    let x11 := (8 * k.toNatClampNeg) + i.toNatClampNeg
    let t12 := zW s0 (11 + v.toNatClampNeg) (x11 / 2 ^ 6) ((s0.1 (11 + v.toNatClampNeg) (x11 / 2 ^ 6)) ^^^ (zsl ((1 : Int64)) (x11 % 2 ^ 6)))
    let x13 := vX8_bit (11 + v.toNatClampNeg) 4 x11 t12
    (nI (x13), t12)
def fX9_flip_a3 (s0 : zSt) : Int32 × zSt :=
    ((-102 : Int32), s0)
def fX9_flip_a4 (v : Int32) (k : Int32) (i : Int32) (s0 : zSt) : Int32 × zSt :=
    bif (vX9_isWithin i (nI (8)) s0) then
      fX9_flip_a2 v k i s0
    else
      fX9_flip_a3 s0
def fX9_flip_a5 (v : Int32) (k : Int32) (i : Int32) (s0 : zSt) : Int32 × zSt :=
    bif (vX9_isWithin k (nI (32)) s0) then
      fX9_flip_a4 v k i s0
    else
      fX9_flip_a1 s0
def fX9_flip_a6 (s0 : zSt) : Int32 × zSt :=
    ((-101 : Int32), s0)
def fX9_flip (v : Int32) (k : Int32) (i : Int32) (s0 : zSt) : Int32 × zSt :=
    bif (vX9_isSlot v s0) then
      fX9_flip_a5 v k i s0
    else
      fX9_flip_a6 s0
set_option maxHeartbeats 4000000 in
set_option maxRecDepth 100000 in
theorem k_X9_flip (l : Launch) (D : va_G) (kc : Nat → ClassId) (ad : Nat → Nat) (n : Nat) (hn : 216 ≤ n) (v : Int32) (k : Int32) (i : Int32) (s0 : zSt) : zM l yX9_flip cX9_flip 5 (some .int) rX9_flip (wX D kc ad n) [.ref (zad (wX D kc ad n) 215), .int v, .int k, .int i] s0 (zV1 (.int (zfst (fX9_flip v k i s0))) (zsnd (fX9_flip v k i s0))) := by
  refine z_of (own := RX9) (by decide +kernel) rfl (Nat.le_of_ble_eq_true rfl) ?_
  intro κ C R0
  refine j_at [(0, .ref (zad (wX D kc ad n) 215)), (1, .int v), (2, .int k), (3, .int i)] ⟨rfl, rfl, rfl, rfl, trivial⟩ ?_
  refine j_iload_n C dX9_flip_0 rfl rfl ?_
  refine j_callS1 C dX9_flip_1 (k_X9_isSlot l D kc ad n (by omega) (v) _ ) zy_X9_isSlot mw_14_17 rfl rfl (Nat.le_of_ble_eq_true rfl) ⟨rfl, rfl, Nat.le_of_ble_eq_true rfl, Nat.le_of_ble_eq_true rfl⟩ ?_
  refine j_if_neB (tgt := 10) C dX9_flip_4 (by decide) (fun q1 => ?_) (fun q1 => ?_)
  · have hA2 : fX9_flip v k i s0 = fX9_flip_a5 v k i s0 := by have q1z := q1; (try dsimp only at q1z); unfold fX9_flip; (try dsimp only); rw [q1z, cond_true]; (try rfl)
    have hc3 := sl_of (x := v) (by assumption)
    have hc3b := hc3.2
    refine j_at [(0, .ref (zad (wX D kc ad n) 215)), (1, .int (nI (v.toNatClampNeg))), (2, .int k), (3, .int i)] ⟨rfl, congrArg (fun q => some (Value.int q)) hc3.1, rfl, rfl, trivial⟩ ?_
    refine j_iload_n C dX9_flip_10 rfl rfl ?_
    refine j_bipush (v := nI 32) C dX9_flip_11 (by decide +kernel) ?_
    refine j_callS1 C dX9_flip_13 (k_X9_isWithin l D kc ad n (by omega) (k) (nI (32)) _ ) zy_X9_isWithin mw_14_20 rfl rfl (Nat.le_of_ble_eq_true rfl) ⟨rfl, rfl, Nat.le_of_ble_eq_true rfl, Nat.le_of_ble_eq_true rfl⟩ ?_
    refine j_if_eqB (tgt := 28) C dX9_flip_16 (by decide) (fun q4 => ?_) (fun q4 => ?_)
    · have hA5 : fX9_flip_a5 v k i s0 = fX9_flip_a1 s0 := by have q4z := q4; (try dsimp only at q4z); unfold fX9_flip_a5; (try dsimp only); rw [q4z, cond_false]; (try rfl)
      refine j_bipush (v := -102) C dX9_flip_28 (by decide +kernel) ?_
      exact j_iret (st := []) C R0 dX9_flip_30 ⟨(by rw [hA2, hA5]; unfold fX9_flip_a1; (try dsimp only); all_goals ((try simp only [zfst_mk, zsnd_mk]); all_goals rfl)), ((by rw [hA2, hA5]; unfold fX9_flip_a1; (try dsimp only); all_goals ((try simp only [zfst_mk, zsnd_mk]); all_goals rfl)))⟩
    · have hA6 : fX9_flip_a5 v k i s0 = fX9_flip_a4 v k i s0 := by have q4z := q4; (try dsimp only at q4z); unfold fX9_flip_a5; (try dsimp only); rw [q4z, cond_true]; (try rfl)
      refine j_iload_n C dX9_flip_19 rfl rfl ?_
      refine j_bipush (v := nI 8) C dX9_flip_20 (by decide +kernel) ?_
      refine j_callS1 C dX9_flip_22 (k_X9_isWithin l D kc ad n (by omega) (i) (nI (8)) _ ) zy_X9_isWithin mw_14_20 rfl rfl (Nat.le_of_ble_eq_true rfl) ⟨rfl, rfl, Nat.le_of_ble_eq_true rfl, Nat.le_of_ble_eq_true rfl⟩ ?_
      refine j_if_neB (tgt := 31) C dX9_flip_25 (by decide) (fun q7 => ?_) (fun q7 => ?_)
      · have hA8 : fX9_flip_a4 v k i s0 = fX9_flip_a2 v k i s0 := by have q7z := q7; (try dsimp only at q7z); unfold fX9_flip_a4; (try dsimp only); rw [q7z, cond_true]; (try rfl)
        have hc9 := wi_of (x := k) (b := 32) (by decide) (by assumption)
        have hc9b := hc9.2
        have hc10 := wi_of (x := i) (b := 8) (by decide) (by assumption)
        have hc10b := hc10.2
        refine j_at [(0, .ref (zad (wX D kc ad n) 215)), (1, .int (nI (v.toNatClampNeg))), (2, .int (nI (k.toNatClampNeg))), (3, .int (nI (i.toNatClampNeg)))] ⟨rfl, rfl, congrArg (fun q => some (Value.int q)) hc9.1, congrArg (fun q => some (Value.int q)) hc10.1, trivial⟩ ?_
        refine j_bipush (v := nI 8) C dX9_flip_31 (by decide +kernel) ?_
        refine j_iload_n C dX9_flip_33 rfl rfl ?_
        refine j_imulN C dX9_flip_34 ?_
        refine j_iload_n C dX9_flip_35 rfl rfl ?_
        refine j_iaddN C dX9_flip_36 ?_
        refine j_nmN (fun x11 ex11 => ?_)
        refine j_istore C dX9_flip_37 (by decide) ?_
        refine j_aload_n C dX9_flip_39 rfl rfl ?_
        refine j_getR C dX9_flip_40 (fx_RX9_13 D kc ad n) (show 11 ≤ 215 by decide) (show 215 < n by omega) ?_
        refine j_iload_n C dX9_flip_43 rfl rfl ?_
        refine x_aald35 C dX9_flip_44 (by omega) (by omega) ?_
        refine j_iload C dX9_flip_45 rfl ?_
        refine j_bipush (v := nI 6) C dX9_flip_47 (by decide +kernel) ?_
        refine j_ishrN C dX9_flip_49 (by omega) (by decide +kernel) ?_
        refine j_dup2 C dX9_flip_50 rfl rfl ?_
        refine x_lald C dX9_flip_51 (sl_wa (n := n) v.toNatClampNeg (by omega) (by omega)).1 (by omega) ?_
        refine j_lconst (v := 1) C dX9_flip_52 rfl ?_
        refine j_iload C dX9_flip_53 rfl ?_
        refine j_bipush (v := nI 63) C dX9_flip_55 (by decide +kernel) ?_
        refine j_iandN C 6 dX9_flip_57 (by omega) (by decide +kernel) ?_
        refine j_lshl C dX9_flip_58 (by omega) ?_
        refine j_lxor C dX9_flip_59 ?_
        refine x_last C dX9_flip_60 (sl_wa (n := n) v.toNatClampNeg (by omega) (by omega)) (by omega) ?_
        refine j_nmS (fun t12 et12 => ?_)
        refine j_aload_n C dX9_flip_61 rfl rfl ?_
        refine j_getR C dX9_flip_62 (fx_RX9_13 D kc ad n) (show 11 ≤ 215 by decide) (show 215 < n by omega) ?_
        refine j_iload_n C dX9_flip_65 rfl rfl ?_
        refine x_aald35 C dX9_flip_66 (by omega) (by omega) ?_
        refine j_iload C dX9_flip_67 rfl ?_
        refine j_callS1 C dX9_flip_69 (k_X8_bit l D kc ad n (by omega) (11 + v.toNatClampNeg) 4 (sl_wa (n := n) v.toNatClampNeg (by omega) (by omega)).1 x11 (by omega) _ (by omega)) zy_X8_bit mw_18_7 rfl rfl (Nat.le_of_ble_eq_true rfl) ⟨rfl, rfl, Nat.le_of_ble_eq_true rfl, Nat.le_of_ble_eq_true rfl⟩ ?_
        refine j_nmN (fun x13 ex13 => ?_)
        have hx13 : x13 < 2 := by rw [ex13]; exact lt_bit _ _ _ _
        exact j_iret (st := []) C R0 dX9_flip_72 ⟨(by rw [hA2, hA6, hA8]; (try rw [ex13]); (try rw [et12]); (try rw [ex11]); unfold fX9_flip_a2; (try dsimp only); all_goals ((try simp only [zfst_mk, zsnd_mk]); all_goals rfl)), ((by rw [hA2, hA6, hA8]; (try rw [ex13]); (try rw [et12]); (try rw [ex11]); unfold fX9_flip_a2; (try dsimp only); all_goals ((try simp only [zfst_mk, zsnd_mk]); all_goals rfl)))⟩
      · have hA14 : fX9_flip_a4 v k i s0 = fX9_flip_a3 s0 := by have q7z := q7; (try dsimp only at q7z); unfold fX9_flip_a4; (try dsimp only); rw [q7z, cond_false]; (try rfl)
        refine j_bipush (v := -102) C dX9_flip_28 (by decide +kernel) ?_
        exact j_iret (st := []) C R0 dX9_flip_30 ⟨(by rw [hA2, hA6, hA14]; unfold fX9_flip_a3; (try dsimp only); all_goals ((try simp only [zfst_mk, zsnd_mk]); all_goals rfl)), ((by rw [hA2, hA6, hA14]; unfold fX9_flip_a3; (try dsimp only); all_goals ((try simp only [zfst_mk, zsnd_mk]); all_goals rfl)))⟩
  · have hA15 : fX9_flip v k i s0 = fX9_flip_a6 s0 := by have q1z := q1; (try dsimp only at q1z); unfold fX9_flip; (try dsimp only); rw [q1z, cond_false]; (try rfl)
    refine j_bipush (v := -101) C dX9_flip_7 (by decide +kernel) ?_
    exact j_iret (st := []) C R0 dX9_flip_9 ⟨(by rw [hA15]; unfold fX9_flip_a6; (try dsimp only); all_goals ((try simp only [zfst_mk, zsnd_mk]); all_goals rfl)), ((by rw [hA15]; unfold fX9_flip_a6; (try dsimp only); all_goals ((try simp only [zfst_mk, zsnd_mk]); all_goals rfl)))⟩
theorem k2q_fX9_flip_a1 (s0 : zSt) : zk2s (fX9_flip_a1 s0) = zk2 s0 := by
  unfold fX9_flip_a1
  (try dsimp only)
  all_goals (simp only [zW_2, zL_2, zk2s_mk]; done)
theorem k2_fX9_flip_a1 (s0 : zSt) : zk2 (zsnd (fX9_flip_a1 s0)) = zk2 s0 := k2q_fX9_flip_a1 s0
theorem k2q_fX9_flip_a2 (v : Int32) (k : Int32) (i : Int32) (s0 : zSt) : zk2s (fX9_flip_a2 v k i s0) = zk2 s0 := by
  unfold fX9_flip_a2
  (try dsimp only)
  all_goals (simp only [zW_2, zL_2, zk2s_mk]; done)
theorem k2_fX9_flip_a2 (v : Int32) (k : Int32) (i : Int32) (s0 : zSt) : zk2 (zsnd (fX9_flip_a2 v k i s0)) = zk2 s0 := k2q_fX9_flip_a2 v k i s0
theorem k2q_fX9_flip_a3 (s0 : zSt) : zk2s (fX9_flip_a3 s0) = zk2 s0 := by
  unfold fX9_flip_a3
  (try dsimp only)
  all_goals (simp only [zW_2, zL_2, zk2s_mk]; done)
theorem k2_fX9_flip_a3 (s0 : zSt) : zk2 (zsnd (fX9_flip_a3 s0)) = zk2 s0 := k2q_fX9_flip_a3 s0
theorem k2q_fX9_flip_a4 (v : Int32) (k : Int32) (i : Int32) (s0 : zSt) : zk2s (fX9_flip_a4 v k i s0) = zk2 s0 := by
  unfold fX9_flip_a4
  (try dsimp only)
  all_goals (refine cond_keep (fun r : Int32 × zSt => zk2s r) _ ?_ ?_ <;> (simp only [zW_2, zL_2, k2_fX9_flip_a2, k2_fX9_flip_a3, k2q_fX9_flip_a2, k2q_fX9_flip_a3, zk2s_mk]; done))
theorem k2_fX9_flip_a4 (v : Int32) (k : Int32) (i : Int32) (s0 : zSt) : zk2 (zsnd (fX9_flip_a4 v k i s0)) = zk2 s0 := k2q_fX9_flip_a4 v k i s0
theorem k2q_fX9_flip_a5 (v : Int32) (k : Int32) (i : Int32) (s0 : zSt) : zk2s (fX9_flip_a5 v k i s0) = zk2 s0 := by
  unfold fX9_flip_a5
  (try dsimp only)
  all_goals (refine cond_keep (fun r : Int32 × zSt => zk2s r) _ ?_ ?_ <;> (simp only [zW_2, zL_2, k2_fX9_flip_a1, k2_fX9_flip_a4, k2q_fX9_flip_a1, k2q_fX9_flip_a4, zk2s_mk]; done))
theorem k2_fX9_flip_a5 (v : Int32) (k : Int32) (i : Int32) (s0 : zSt) : zk2 (zsnd (fX9_flip_a5 v k i s0)) = zk2 s0 := k2q_fX9_flip_a5 v k i s0
theorem k2q_fX9_flip_a6 (s0 : zSt) : zk2s (fX9_flip_a6 s0) = zk2 s0 := by
  unfold fX9_flip_a6
  (try dsimp only)
  all_goals (simp only [zW_2, zL_2, zk2s_mk]; done)
theorem k2_fX9_flip_a6 (s0 : zSt) : zk2 (zsnd (fX9_flip_a6 s0)) = zk2 s0 := k2q_fX9_flip_a6 s0
theorem k2q_fX9_flip (v : Int32) (k : Int32) (i : Int32) (s0 : zSt) : zk2s (fX9_flip v k i s0) = zk2 s0 := by
  unfold fX9_flip
  (try dsimp only)
  all_goals (refine cond_keep (fun r : Int32 × zSt => zk2s r) _ ?_ ?_ <;> (simp only [zW_2, zL_2, k2_fX9_flip_a5, k2_fX9_flip_a6, k2q_fX9_flip_a5, k2q_fX9_flip_a6, zk2s_mk]; done))
theorem k2_fX9_flip (v : Int32) (k : Int32) (i : Int32) (s0 : zSt) : zk2 (zsnd (fX9_flip v k i s0)) = zk2 s0 := k2q_fX9_flip v k i s0
theorem i2_fX9_flip (v : Int32) (k : Int32) (i : Int32) (s0 : zSt) (kk9 : Nat) : (zsnd (fX9_flip v k i s0)).2.2 kk9 = s0.2.2 kk9 := z2_I (k2_fX9_flip v k i s0) kk9
theorem i3_fX9_flip (v : Int32) (k : Int32) (i : Int32) (s0 : zSt) (kk9 : Nat) : zi (zsnd (fX9_flip v k i s0)) kk9 = zi s0 kk9 := zi_of (k2_fX9_flip v k i s0) kk9

def fX9_combine_a1 (s0 : zSt) : zSt :=
    let t3 := fX1_add 202 203 202 s0
    t3
def fX9_combine_a2 (s0 : zSt) : zSt :=
    let t7 := fX1_subtract 202 203 202 s0
    t7
def fX9_combine_a3 (s0 : zSt) : zSt :=
    let t11 := fX1_multiply 202 203 202 s0
    t11
def fX9_combine_a4 (s0 : zSt) : zSt :=
    let t13 := fX1_invert 203 203 s0
    let t14 := fX1_multiply 202 203 202 t13
    t14
def fX9_combine_a5 (way : Nat) (s0 : zSt) : zSt :=
    if nI (way) = nI 2 then
      fX9_combine_a3 s0
    else
      fX9_combine_a4 s0
def fX9_combine_a6 (way : Nat) (s0 : zSt) : zSt :=
    if nI (way) = nI 1 then
      fX9_combine_a2 s0
    else
      fX9_combine_a5 way s0
def fX9_combine (way : Nat) (s0 : zSt) : zSt :=
    if nI (way) = nI 0 then
      fX9_combine_a1 s0
    else
      fX9_combine_a6 way s0
set_option maxHeartbeats 4000000 in
set_option maxRecDepth 100000 in
theorem k_X9_combine (l : Launch) (D : va_G) (kc : Nat → ClassId) (ad : Nat → Nat) (n : Nat) (hn : 216 ≤ n) (way : Nat) (hway : way < 4) (s0 : zSt) : zM l yX9_combine cX9_combine 2 none rX9_combine (wX D kc ad n) [.ref (zad (wX D kc ad n) 215), .int (nI (way))] s0 (zV0 (fX9_combine way s0)) := by
  refine z_of (own := RX9) (by decide +kernel) rfl (Nat.le_of_ble_eq_true rfl) ?_
  intro κ C R0
  refine j_at [(0, .ref (zad (wX D kc ad n) 215)), (1, .int (nI (way)))] ⟨rfl, rfl, trivial⟩ ?_
  refine j_iload_n C dX9_combine_0 rfl rfl ?_
  by_cases q1 : nI (way) = nI 0
  · have hA2 : fX9_combine way s0 = fX9_combine_a1 s0 := by have q1z := q1; (try dsimp only at q1z); unfold fX9_combine; (try dsimp only); rw [if_pos q1z]; (try rfl)
    refine j_top (v := .int (nI 0)) (congrArg Value.int q1) ?_
    refine j_tabIn (c := 0) (off := 27) (tgt := 28) C dX9_combine_1 (by decide +kernel) (by decide) ?_
    refine j_aload_n C dX9_combine_28 rfl rfl ?_
    refine j_getR C dX9_combine_29 (fx_RX9_39 D kc ad n) (show 11 ≤ 215 by decide) (show 215 < n by omega) ?_
    refine j_aload_n C dX9_combine_32 rfl rfl ?_
    refine j_getR C dX9_combine_33 (fx_RX9_82 D kc ad n) (show 11 ≤ 215 by decide) (show 215 < n by omega) ?_
    refine j_aload_n C dX9_combine_36 rfl rfl ?_
    refine j_getR C dX9_combine_37 (fx_RX9_86 D kc ad n) (show 11 ≤ 215 by decide) (show 215 < n by omega) ?_
    refine j_aload_n C dX9_combine_40 rfl rfl ?_
    refine j_getR C dX9_combine_41 (fx_RX9_82 D kc ad n) (show 11 ≤ 215 by decide) (show 215 < n by omega) ?_
    refine j_callV0 (T := TX1) (N := 8) C dX9_combine_44 (k_X1_add l D kc ad n (by omega) 202 (⟨⟨rfl, rfl, by omega, by decide⟩, by decide⟩ : wa n 10 202).1 203 (⟨⟨rfl, rfl, by omega, by decide⟩, by decide⟩ : wa n 10 203).1 202 (⟨⟨rfl, rfl, by omega, by decide⟩, by decide⟩ : wa n 10 202) _ ) zy_X1_add mw_19_15 rfl rfl (show 11 ≤ 62 by decide) (show 62 < n by omega) rfl rfl (Nat.le_of_ble_eq_true rfl) ⟨rfl, rfl, Nat.le_of_ble_eq_true rfl, Nat.le_of_ble_eq_true rfl⟩ ?_
    refine j_nmS (fun t3 et3 => ?_)
    refine j_goto (tgt := 128) C dX9_combine_47 (by decide) ?_
    exact j_vret (st := []) C R0 dX9_combine_128 ⟨rfl, (by rw [hA2]; (try rw [et3]); unfold fX9_combine_a1; (try dsimp only); all_goals ((try simp only [zfst_mk, zsnd_mk]); all_goals rfl))⟩
  · have hA4 : fX9_combine way s0 = fX9_combine_a6 way s0 := by have q1z := q1; (try dsimp only at q1z); unfold fX9_combine; (try dsimp only); rw [if_neg q1z]; (try rfl)
    by_cases q5 : nI (way) = nI 1
    · have hA6 : fX9_combine_a6 way s0 = fX9_combine_a2 s0 := by have q5z := q5; (try dsimp only at q5z); unfold fX9_combine_a6; (try dsimp only); rw [if_pos q5z]; (try rfl)
      refine j_top (v := .int (nI 1)) (congrArg Value.int q5) ?_
      refine j_tabIn (c := 1) (off := 49) (tgt := 50) C dX9_combine_1 (by decide +kernel) (by decide) ?_
      refine j_aload_n C dX9_combine_50 rfl rfl ?_
      refine j_getR C dX9_combine_51 (fx_RX9_39 D kc ad n) (show 11 ≤ 215 by decide) (show 215 < n by omega) ?_
      refine j_aload_n C dX9_combine_54 rfl rfl ?_
      refine j_getR C dX9_combine_55 (fx_RX9_82 D kc ad n) (show 11 ≤ 215 by decide) (show 215 < n by omega) ?_
      refine j_aload_n C dX9_combine_58 rfl rfl ?_
      refine j_getR C dX9_combine_59 (fx_RX9_86 D kc ad n) (show 11 ≤ 215 by decide) (show 215 < n by omega) ?_
      refine j_aload_n C dX9_combine_62 rfl rfl ?_
      refine j_getR C dX9_combine_63 (fx_RX9_82 D kc ad n) (show 11 ≤ 215 by decide) (show 215 < n by omega) ?_
      refine j_callV0 (T := TX1) (N := 8) C dX9_combine_66 (k_X1_subtract l D kc ad n (by omega) 202 (⟨⟨rfl, rfl, by omega, by decide⟩, by decide⟩ : wa n 10 202).1 203 (⟨⟨rfl, rfl, by omega, by decide⟩, by decide⟩ : wa n 10 203).1 202 (⟨⟨rfl, rfl, by omega, by decide⟩, by decide⟩ : wa n 10 202) _ ) zy_X1_subtract mw_19_16 rfl rfl (show 11 ≤ 62 by decide) (show 62 < n by omega) rfl rfl (Nat.le_of_ble_eq_true rfl) ⟨rfl, rfl, Nat.le_of_ble_eq_true rfl, Nat.le_of_ble_eq_true rfl⟩ ?_
      refine j_nmS (fun t7 et7 => ?_)
      refine j_goto (tgt := 128) C dX9_combine_69 (by decide) ?_
      exact j_vret (st := []) C R0 dX9_combine_128 ⟨rfl, (by rw [hA4, hA6]; (try rw [et7]); unfold fX9_combine_a2; (try dsimp only); all_goals ((try simp only [zfst_mk, zsnd_mk]); all_goals rfl))⟩
    · have hA8 : fX9_combine_a6 way s0 = fX9_combine_a5 way s0 := by have q5z := q5; (try dsimp only at q5z); unfold fX9_combine_a6; (try dsimp only); rw [if_neg q5z]; (try rfl)
      by_cases q9 : nI (way) = nI 2
      · have hA10 : fX9_combine_a5 way s0 = fX9_combine_a3 s0 := by have q9z := q9; (try dsimp only at q9z); unfold fX9_combine_a5; (try dsimp only); rw [if_pos q9z]; (try rfl)
        refine j_top (v := .int (nI 2)) (congrArg Value.int q9) ?_
        refine j_tabIn (c := 2) (off := 71) (tgt := 72) C dX9_combine_1 (by decide +kernel) (by decide) ?_
        refine j_aload_n C dX9_combine_72 rfl rfl ?_
        refine j_getR C dX9_combine_73 (fx_RX9_39 D kc ad n) (show 11 ≤ 215 by decide) (show 215 < n by omega) ?_
        refine j_aload_n C dX9_combine_76 rfl rfl ?_
        refine j_getR C dX9_combine_77 (fx_RX9_82 D kc ad n) (show 11 ≤ 215 by decide) (show 215 < n by omega) ?_
        refine j_aload_n C dX9_combine_80 rfl rfl ?_
        refine j_getR C dX9_combine_81 (fx_RX9_86 D kc ad n) (show 11 ≤ 215 by decide) (show 215 < n by omega) ?_
        refine j_aload_n C dX9_combine_84 rfl rfl ?_
        refine j_getR C dX9_combine_85 (fx_RX9_82 D kc ad n) (show 11 ≤ 215 by decide) (show 215 < n by omega) ?_
        refine j_callV0 (T := TX1) (N := 8) C dX9_combine_88 (k_X1_multiply l D kc ad n (by omega) 202 (⟨⟨rfl, rfl, by omega, by decide⟩, by decide⟩ : wa n 10 202).1 203 (⟨⟨rfl, rfl, by omega, by decide⟩, by decide⟩ : wa n 10 203).1 202 (⟨⟨rfl, rfl, by omega, by decide⟩, by decide⟩ : wa n 10 202) _ ) zy_X1_multiply mw_19_20 rfl rfl (show 11 ≤ 62 by decide) (show 62 < n by omega) rfl rfl (Nat.le_of_ble_eq_true rfl) ⟨rfl, rfl, Nat.le_of_ble_eq_true rfl, Nat.le_of_ble_eq_true rfl⟩ ?_
        refine j_nmS (fun t11 et11 => ?_)
        refine j_goto (tgt := 128) C dX9_combine_91 (by decide) ?_
        exact j_vret (st := []) C R0 dX9_combine_128 ⟨rfl, (by rw [hA4, hA8, hA10]; (try rw [et11]); unfold fX9_combine_a3; (try dsimp only); all_goals ((try simp only [zfst_mk, zsnd_mk]); all_goals rfl))⟩
      · have hA12 : fX9_combine_a5 way s0 = fX9_combine_a4 s0 := by have q9z := q9; (try dsimp only at q9z); unfold fX9_combine_a5; (try dsimp only); rw [if_neg q9z]; (try rfl)
        refine j_tabOut (dflt := 93) (tgt := 94) C dX9_combine_1 (tab_out 3 (by decide) (fun c hc => by rcases (show c = 0 ∨ c = 1 ∨ c = 2 by omega) with rfl | rfl | rfl <;> assumption)) (by decide) ?_
        refine j_aload_n C dX9_combine_94 rfl rfl ?_
        refine j_getR C dX9_combine_95 (fx_RX9_39 D kc ad n) (show 11 ≤ 215 by decide) (show 215 < n by omega) ?_
        refine j_aload_n C dX9_combine_98 rfl rfl ?_
        refine j_getR C dX9_combine_99 (fx_RX9_86 D kc ad n) (show 11 ≤ 215 by decide) (show 215 < n by omega) ?_
        refine j_aload_n C dX9_combine_102 rfl rfl ?_
        refine j_getR C dX9_combine_103 (fx_RX9_86 D kc ad n) (show 11 ≤ 215 by decide) (show 215 < n by omega) ?_
        refine j_callV0 (T := TX1) (N := 8) C dX9_combine_106 (k_X1_invert l D kc ad n (by omega) 203 (⟨⟨rfl, rfl, by omega, by decide⟩, by decide⟩ : wa n 10 203).1 203 (⟨⟨rfl, rfl, by omega, by decide⟩, by decide⟩ : wa n 10 203) _ ) zy_X1_invert mw_19_21 rfl rfl (show 11 ≤ 62 by decide) (show 62 < n by omega) rfl rfl (Nat.le_of_ble_eq_true rfl) ⟨rfl, rfl, Nat.le_of_ble_eq_true rfl, Nat.le_of_ble_eq_true rfl⟩ ?_
        refine j_nmS (fun t13 et13 => ?_)
        refine j_aload_n C dX9_combine_109 rfl rfl ?_
        refine j_getR C dX9_combine_110 (fx_RX9_39 D kc ad n) (show 11 ≤ 215 by decide) (show 215 < n by omega) ?_
        refine j_aload_n C dX9_combine_113 rfl rfl ?_
        refine j_getR C dX9_combine_114 (fx_RX9_82 D kc ad n) (show 11 ≤ 215 by decide) (show 215 < n by omega) ?_
        refine j_aload_n C dX9_combine_117 rfl rfl ?_
        refine j_getR C dX9_combine_118 (fx_RX9_86 D kc ad n) (show 11 ≤ 215 by decide) (show 215 < n by omega) ?_
        refine j_aload_n C dX9_combine_121 rfl rfl ?_
        refine j_getR C dX9_combine_122 (fx_RX9_82 D kc ad n) (show 11 ≤ 215 by decide) (show 215 < n by omega) ?_
        refine j_callV0 (T := TX1) (N := 8) C dX9_combine_125 (k_X1_multiply l D kc ad n (by omega) 202 (⟨⟨rfl, rfl, by omega, by decide⟩, by decide⟩ : wa n 10 202).1 203 (⟨⟨rfl, rfl, by omega, by decide⟩, by decide⟩ : wa n 10 203).1 202 (⟨⟨rfl, rfl, by omega, by decide⟩, by decide⟩ : wa n 10 202) _ ) zy_X1_multiply mw_19_20 rfl rfl (show 11 ≤ 62 by decide) (show 62 < n by omega) rfl rfl (Nat.le_of_ble_eq_true rfl) ⟨rfl, rfl, Nat.le_of_ble_eq_true rfl, Nat.le_of_ble_eq_true rfl⟩ ?_
        refine j_nmS (fun t14 et14 => ?_)
        exact j_vret (st := []) C R0 dX9_combine_128 ⟨rfl, (by rw [hA4, hA8, hA12]; (try rw [et14]); (try rw [et13]); unfold fX9_combine_a4; (try dsimp only); all_goals ((try simp only [zfst_mk, zsnd_mk]); all_goals rfl))⟩
theorem k2_fX9_combine_a1 (s0 : zSt) : zk2 (fX9_combine_a1 s0) = zk2 s0 := by
  unfold fX9_combine_a1
  (try dsimp only)
  all_goals (simp only [zW_2, zL_2, k2_fX1_add]; done)
theorem k2_fX9_combine_a2 (s0 : zSt) : zk2 (fX9_combine_a2 s0) = zk2 s0 := by
  unfold fX9_combine_a2
  (try dsimp only)
  all_goals (simp only [zW_2, zL_2, k2_fX1_subtract]; done)
theorem k2_fX9_combine_a3 (s0 : zSt) : zk2 (fX9_combine_a3 s0) = zk2 s0 := by
  unfold fX9_combine_a3
  (try dsimp only)
  all_goals (simp only [zW_2, zL_2, k2_fX1_multiply]; done)
theorem k2_fX9_combine_a4 (s0 : zSt) : zk2 (fX9_combine_a4 s0) = zk2 s0 := by
  unfold fX9_combine_a4
  (try dsimp only)
  all_goals (simp only [zW_2, zL_2, k2_fX1_invert, k2_fX1_multiply]; done)
theorem k2_fX9_combine_a5 (way : Nat) (s0 : zSt) : zk2 (fX9_combine_a5 way s0) = zk2 s0 := by
  unfold fX9_combine_a5
  (try dsimp only)
  all_goals (refine ite_keep (fun r : zSt => zk2 r) _ _ ?_ ?_ <;> (simp only [zW_2, zL_2, k2_fX9_combine_a3, k2_fX9_combine_a4]; done))
theorem k2_fX9_combine_a6 (way : Nat) (s0 : zSt) : zk2 (fX9_combine_a6 way s0) = zk2 s0 := by
  unfold fX9_combine_a6
  (try dsimp only)
  all_goals (refine ite_keep (fun r : zSt => zk2 r) _ _ ?_ ?_ <;> (simp only [zW_2, zL_2, k2_fX9_combine_a2, k2_fX9_combine_a5]; done))
theorem k2_fX9_combine (way : Nat) (s0 : zSt) : zk2 (fX9_combine way s0) = zk2 s0 := by
  unfold fX9_combine
  (try dsimp only)
  all_goals (refine ite_keep (fun r : zSt => zk2 r) _ _ ?_ ?_ <;> (simp only [zW_2, zL_2, k2_fX9_combine_a1, k2_fX9_combine_a6]; done))
theorem i2_fX9_combine (way : Nat) (s0 : zSt) (kk9 : Nat) : (fX9_combine way s0).2.2 kk9 = s0.2.2 kk9 := z2_I (k2_fX9_combine way s0) kk9
theorem i3_fX9_combine (way : Nat) (s0 : zSt) (kk9 : Nat) : zi (fX9_combine way s0) kk9 = zi s0 kk9 := zi_of (k2_fX9_combine way s0) kk9

def fX9_field_a1 (s0 : zSt) : Int32 × zSt :=
    ((-101 : Int32), s0)
def fX9_field_a2 (s0 : zSt) : Int32 × zSt :=
    ((-101 : Int32), s0)
def fX9_field_a3 (way : Int32) (u : Int32) (t16 : zSt) : Int32 × zSt :=
    let t19 := fX9_combine way.toNatClampNeg t16
    let t20 := fX1_store 202 (11 + u.toNatClampNeg) t19
    (nI (1), t20)
def fX9_field_a4 (way : Int32) (u : Int32) (t22 : zSt) : Int32 × zSt :=
    let t25 := fX9_combine way.toNatClampNeg t22
    let t26 := fX1_store 202 (11 + u.toNatClampNeg) t25
    (nI (1), t26)
def fX9_field_a5 (t22 : zSt) : Int32 × zSt :=
    ((-103 : Int32), t22)
def fX9_field_a6 (way : Int32) (u : Int32) (t16 : zSt) : Int32 × zSt :=
    let t22 := zsnd (fX1_isZero 203 t16)
    bif (zfst (fX1_isZero 203 t16)) then
      fX9_field_a5 t22
    else
      fX9_field_a4 way u t22
def fX9_field_a7 (way : Int32) (a : Int32) (b : Int32) (u : Int32) (s0 : zSt) : Int32 × zSt :=
    let t15 := fX1_load (11 + a.toNatClampNeg) 202 s0
    let t16 := fX1_load (11 + b.toNatClampNeg) 203 t15
    if way.toNatClampNeg ≠ 3 then
      fX9_field_a3 way u t16
    else
      fX9_field_a6 way u t16
def fX9_field_a8 (s0 : zSt) : Int32 × zSt :=
    ((-102 : Int32), s0)
def fX9_field_a9 (way : Int32) (a : Int32) (b : Int32) (u : Int32) (s0 : zSt) : Int32 × zSt :=
    bif (vX9_isWithin way (nI (4)) s0) then
      fX9_field_a7 way a b u s0
    else
      fX9_field_a8 s0
def fX9_field_a10 (s0 : zSt) : Int32 × zSt :=
    ((-101 : Int32), s0)
def fX9_field_a11 (way : Int32) (a : Int32) (b : Int32) (u : Int32) (s0 : zSt) : Int32 × zSt :=
    bif (vX9_isSlot u s0) then
      fX9_field_a9 way a b u s0
    else
      fX9_field_a10 s0
def fX9_field_a12 (way : Int32) (a : Int32) (b : Int32) (u : Int32) (s0 : zSt) : Int32 × zSt :=
    bif (vX9_isSlot b s0) then
      fX9_field_a11 way a b u s0
    else
      fX9_field_a2 s0
def fX9_field (way : Int32) (a : Int32) (b : Int32) (u : Int32) (s0 : zSt) : Int32 × zSt :=
    bif (vX9_isSlot a s0) then
      fX9_field_a12 way a b u s0
    else
      fX9_field_a1 s0
set_option maxHeartbeats 4000000 in
set_option maxRecDepth 100000 in
theorem k_X9_field (l : Launch) (D : va_G) (kc : Nat → ClassId) (ad : Nat → Nat) (n : Nat) (hn : 216 ≤ n) (way : Int32) (a : Int32) (b : Int32) (u : Int32) (s0 : zSt) : zM l yX9_field cX9_field 5 (some .int) rX9_field (wX D kc ad n) [.ref (zad (wX D kc ad n) 215), .int way, .int a, .int b, .int u] s0 (zV1 (.int (zfst (fX9_field way a b u s0))) (zsnd (fX9_field way a b u s0))) := by
  refine z_of (own := RX9) (by decide +kernel) rfl (Nat.le_of_ble_eq_true rfl) ?_
  intro κ C R0
  refine j_at [(0, .ref (zad (wX D kc ad n) 215)), (1, .int way), (2, .int a), (3, .int b), (4, .int u)] ⟨rfl, rfl, rfl, rfl, rfl, trivial⟩ ?_
  refine j_iload_n C dX9_field_0 rfl rfl ?_
  refine j_callS1 C dX9_field_1 (k_X9_isSlot l D kc ad n (by omega) (a) _ ) zy_X9_isSlot mw_14_17 rfl rfl (Nat.le_of_ble_eq_true rfl) ⟨rfl, rfl, Nat.le_of_ble_eq_true rfl, Nat.le_of_ble_eq_true rfl⟩ ?_
  refine j_if_eqB (tgt := 22) C dX9_field_4 (by decide) (fun q1 => ?_) (fun q1 => ?_)
  · have hA2 : fX9_field way a b u s0 = fX9_field_a1 s0 := by have q1z := q1; (try dsimp only at q1z); unfold fX9_field; (try dsimp only); rw [q1z, cond_false]; (try rfl)
    refine j_bipush (v := -101) C dX9_field_22 (by decide +kernel) ?_
    exact j_iret (st := []) C R0 dX9_field_24 ⟨(by rw [hA2]; unfold fX9_field_a1; (try dsimp only); all_goals ((try simp only [zfst_mk, zsnd_mk]); all_goals rfl)), ((by rw [hA2]; unfold fX9_field_a1; (try dsimp only); all_goals ((try simp only [zfst_mk, zsnd_mk]); all_goals rfl)))⟩
  · have hA3 : fX9_field way a b u s0 = fX9_field_a12 way a b u s0 := by have q1z := q1; (try dsimp only at q1z); unfold fX9_field; (try dsimp only); rw [q1z, cond_true]; (try rfl)
    refine j_iload_n C dX9_field_7 rfl rfl ?_
    refine j_callS1 C dX9_field_8 (k_X9_isSlot l D kc ad n (by omega) (b) _ ) zy_X9_isSlot mw_14_17 rfl rfl (Nat.le_of_ble_eq_true rfl) ⟨rfl, rfl, Nat.le_of_ble_eq_true rfl, Nat.le_of_ble_eq_true rfl⟩ ?_
    refine j_if_eqB (tgt := 22) C dX9_field_11 (by decide) (fun q4 => ?_) (fun q4 => ?_)
    · have hA5 : fX9_field_a12 way a b u s0 = fX9_field_a2 s0 := by have q4z := q4; (try dsimp only at q4z); unfold fX9_field_a12; (try dsimp only); rw [q4z, cond_false]; (try rfl)
      refine j_bipush (v := -101) C dX9_field_22 (by decide +kernel) ?_
      exact j_iret (st := []) C R0 dX9_field_24 ⟨(by rw [hA3, hA5]; unfold fX9_field_a2; (try dsimp only); all_goals ((try simp only [zfst_mk, zsnd_mk]); all_goals rfl)), ((by rw [hA3, hA5]; unfold fX9_field_a2; (try dsimp only); all_goals ((try simp only [zfst_mk, zsnd_mk]); all_goals rfl)))⟩
    · have hA6 : fX9_field_a12 way a b u s0 = fX9_field_a11 way a b u s0 := by have q4z := q4; (try dsimp only at q4z); unfold fX9_field_a12; (try dsimp only); rw [q4z, cond_true]; (try rfl)
      refine j_iload C dX9_field_14 rfl ?_
      refine j_callS1 C dX9_field_16 (k_X9_isSlot l D kc ad n (by omega) (u) _ ) zy_X9_isSlot mw_14_17 rfl rfl (Nat.le_of_ble_eq_true rfl) ⟨rfl, rfl, Nat.le_of_ble_eq_true rfl, Nat.le_of_ble_eq_true rfl⟩ ?_
      refine j_if_neB (tgt := 25) C dX9_field_19 (by decide) (fun q7 => ?_) (fun q7 => ?_)
      · have hA8 : fX9_field_a11 way a b u s0 = fX9_field_a9 way a b u s0 := by have q7z := q7; (try dsimp only at q7z); unfold fX9_field_a11; (try dsimp only); rw [q7z, cond_true]; (try rfl)
        refine j_iload_n C dX9_field_25 rfl rfl ?_
        refine j_iconst (v := nI 4) C dX9_field_26 (by decide +kernel) ?_
        refine j_callS1 C dX9_field_27 (k_X9_isWithin l D kc ad n (by omega) (way) (nI (4)) _ ) zy_X9_isWithin mw_14_20 rfl rfl (Nat.le_of_ble_eq_true rfl) ⟨rfl, rfl, Nat.le_of_ble_eq_true rfl, Nat.le_of_ble_eq_true rfl⟩ ?_
        refine j_if_neB (tgt := 36) C dX9_field_30 (by decide) (fun q9 => ?_) (fun q9 => ?_)
        · have hA10 : fX9_field_a9 way a b u s0 = fX9_field_a7 way a b u s0 := by have q9z := q9; (try dsimp only at q9z); unfold fX9_field_a9; (try dsimp only); rw [q9z, cond_true]; (try rfl)
          have hc11 := wi_of (x := way) (b := 4) (by decide) (by assumption)
          have hc11b := hc11.2
          have hc12 := sl_of (x := a) (by assumption)
          have hc12b := hc12.2
          have hc13 := sl_of (x := b) (by assumption)
          have hc13b := hc13.2
          have hc14 := sl_of (x := u) (by assumption)
          have hc14b := hc14.2
          refine j_at [(0, .ref (zad (wX D kc ad n) 215)), (1, .int (nI (way.toNatClampNeg))), (2, .int (nI (a.toNatClampNeg))), (3, .int (nI (b.toNatClampNeg))), (4, .int (nI (u.toNatClampNeg)))] ⟨rfl, congrArg (fun q => some (Value.int q)) hc11.1, congrArg (fun q => some (Value.int q)) hc12.1, congrArg (fun q => some (Value.int q)) hc13.1, congrArg (fun q => some (Value.int q)) hc14.1, trivial⟩ ?_
          refine j_aload_n C dX9_field_36 rfl rfl ?_
          refine j_getR C dX9_field_37 (fx_RX9_39 D kc ad n) (show 11 ≤ 215 by decide) (show 215 < n by omega) ?_
          refine j_aload_n C dX9_field_40 rfl rfl ?_
          refine j_getR C dX9_field_41 (fx_RX9_13 D kc ad n) (show 11 ≤ 215 by decide) (show 215 < n by omega) ?_
          refine j_iload_n C dX9_field_44 rfl rfl ?_
          refine x_aald35 C dX9_field_45 (by omega) (by omega) ?_
          refine j_aload_n C dX9_field_46 rfl rfl ?_
          refine j_getR C dX9_field_47 (fx_RX9_82 D kc ad n) (show 11 ≤ 215 by decide) (show 215 < n by omega) ?_
          refine j_callV0 (T := TX1) (N := 8) C dX9_field_50 (k_X1_load l D kc ad n (by omega) (11 + a.toNatClampNeg) (sl_wa (n := n) a.toNatClampNeg (by omega) (by omega)).1 202 (⟨⟨rfl, rfl, by omega, by decide⟩, by decide⟩ : wa n 10 202) _ ) zy_X1_load mw_18_18 rfl rfl (show 11 ≤ 62 by decide) (show 62 < n by omega) rfl rfl (Nat.le_of_ble_eq_true rfl) ⟨rfl, rfl, Nat.le_of_ble_eq_true rfl, Nat.le_of_ble_eq_true rfl⟩ ?_
          refine j_nmS (fun t15 et15 => ?_)
          refine j_aload_n C dX9_field_53 rfl rfl ?_
          refine j_getR C dX9_field_54 (fx_RX9_39 D kc ad n) (show 11 ≤ 215 by decide) (show 215 < n by omega) ?_
          refine j_aload_n C dX9_field_57 rfl rfl ?_
          refine j_getR C dX9_field_58 (fx_RX9_13 D kc ad n) (show 11 ≤ 215 by decide) (show 215 < n by omega) ?_
          refine j_iload_n C dX9_field_61 rfl rfl ?_
          refine x_aald35 C dX9_field_62 (by omega) (by omega) ?_
          refine j_aload_n C dX9_field_63 rfl rfl ?_
          refine j_getR C dX9_field_64 (fx_RX9_86 D kc ad n) (show 11 ≤ 215 by decide) (show 215 < n by omega) ?_
          refine j_callV0 (T := TX1) (N := 8) C dX9_field_67 (k_X1_load l D kc ad n (by omega) (11 + b.toNatClampNeg) (sl_wa (n := n) b.toNatClampNeg (by omega) (by omega)).1 203 (⟨⟨rfl, rfl, by omega, by decide⟩, by decide⟩ : wa n 10 203) _ ) zy_X1_load mw_18_18 rfl rfl (show 11 ≤ 62 by decide) (show 62 < n by omega) rfl rfl (Nat.le_of_ble_eq_true rfl) ⟨rfl, rfl, Nat.le_of_ble_eq_true rfl, Nat.le_of_ble_eq_true rfl⟩ ?_
          refine j_nmS (fun t16 et16 => ?_)
          refine j_iload_n C dX9_field_70 rfl rfl ?_
          refine j_iconst (v := nI 3) C dX9_field_71 (by decide +kernel) ?_
          refine j_icmp_neN (tgt := 92) C dX9_field_72 (by decide) (by omega) (by omega) (fun q17 => ?_) (fun q17 => ?_)
          · have hA18 : fX9_field_a7 way a b u s0 = fX9_field_a3 way u t16 := by (try rw [et16]); (try rw [et15]); have q17z := q17; (try rw [et16] at q17z); (try rw [et15] at q17z); (try dsimp only at q17z); unfold fX9_field_a7; (try dsimp only); rw [if_pos q17z]; (try rfl)
            refine j_aload_n C dX9_field_92 rfl rfl ?_
            refine j_iload_n C dX9_field_93 rfl rfl ?_
            refine j_callV0 (T := TX9) (N := 17) C dX9_field_94 (k_X9_combine l D kc ad n (by omega) way.toNatClampNeg (by omega) _ ) zy_X9_combine mw_19_11 rfl rfl (show 11 ≤ 215 by decide) (show 215 < n by omega) rfl rfl (Nat.le_of_ble_eq_true rfl) ⟨rfl, rfl, Nat.le_of_ble_eq_true rfl, Nat.le_of_ble_eq_true rfl⟩ ?_
            refine j_nmS (fun t19 et19 => ?_)
            refine j_aload_n C dX9_field_97 rfl rfl ?_
            refine j_getR C dX9_field_98 (fx_RX9_39 D kc ad n) (show 11 ≤ 215 by decide) (show 215 < n by omega) ?_
            refine j_aload_n C dX9_field_101 rfl rfl ?_
            refine j_getR C dX9_field_102 (fx_RX9_82 D kc ad n) (show 11 ≤ 215 by decide) (show 215 < n by omega) ?_
            refine j_aload_n C dX9_field_105 rfl rfl ?_
            refine j_getR C dX9_field_106 (fx_RX9_13 D kc ad n) (show 11 ≤ 215 by decide) (show 215 < n by omega) ?_
            refine j_iload C dX9_field_109 rfl ?_
            refine x_aald35 C dX9_field_111 (by omega) (by omega) ?_
            refine j_callV0 (T := TX1) (N := 8) C dX9_field_112 (k_X1_store l D kc ad n (by omega) 202 (⟨⟨rfl, rfl, by omega, by decide⟩, by decide⟩ : wa n 10 202).1 (11 + u.toNatClampNeg) (sl_wa (n := n) u.toNatClampNeg (by omega) (by omega)) _ ) zy_X1_store mw_20_16 rfl rfl (show 11 ≤ 62 by decide) (show 62 < n by omega) rfl rfl (Nat.le_of_ble_eq_true rfl) ⟨rfl, rfl, Nat.le_of_ble_eq_true rfl, Nat.le_of_ble_eq_true rfl⟩ ?_
            refine j_nmS (fun t20 et20 => ?_)
            refine j_iconst (v := nI 1) C dX9_field_115 (by decide +kernel) ?_
            exact j_iret (st := []) C R0 dX9_field_116 ⟨(by rw [hA3, hA6, hA8, hA10, hA18]; (try rw [et20]); (try rw [et19]); unfold fX9_field_a3; (try dsimp only); all_goals ((try simp only [zfst_mk, zsnd_mk]); all_goals rfl)), ((by rw [hA3, hA6, hA8, hA10, hA18]; (try rw [et20]); (try rw [et19]); unfold fX9_field_a3; (try dsimp only); all_goals ((try simp only [zfst_mk, zsnd_mk]); all_goals rfl)))⟩
          · have hA21 : fX9_field_a7 way a b u s0 = fX9_field_a6 way u t16 := by (try rw [et16]); (try rw [et15]); have q17z : ¬ (way.toNatClampNeg ≠ 3) := (by omega); (try rw [et16] at q17z); (try rw [et15] at q17z); (try dsimp only at q17z); unfold fX9_field_a7; (try dsimp only); rw [if_neg q17z]; (try rfl)
            refine j_aload_n C dX9_field_75 rfl rfl ?_
            refine j_getR C dX9_field_76 (fx_RX9_39 D kc ad n) (show 11 ≤ 215 by decide) (show 215 < n by omega) ?_
            refine j_aload_n C dX9_field_79 rfl rfl ?_
            refine j_getR C dX9_field_80 (fx_RX9_86 D kc ad n) (show 11 ≤ 215 by decide) (show 215 < n by omega) ?_
            refine j_callV1 (T := TX1) (N := 8) C dX9_field_83 (k_X1_isZero l D kc ad n (by omega) 203 (⟨⟨rfl, rfl, by omega, by decide⟩, by decide⟩ : wa n 10 203).1 _ ) zy_X1_isZero mw_18_19 rfl rfl (show 11 ≤ 62 by decide) (show 62 < n by omega) rfl rfl (Nat.le_of_ble_eq_true rfl) ⟨rfl, rfl, Nat.le_of_ble_eq_true rfl, Nat.le_of_ble_eq_true rfl⟩ ?_
            refine j_nmS (fun t22 et22 => ?_)
            refine j_if_eqB (tgt := 92) C dX9_field_86 (by decide) (fun q23 => ?_) (fun q23 => ?_)
            · have hA24 : fX9_field_a6 way u t16 = fX9_field_a4 way u t22 := by (try rw [et22]); have q23z := q23; (try rw [et22] at q23z); (try dsimp only at q23z); unfold fX9_field_a6; (try dsimp only); rw [q23z, cond_false]; (try rfl)
              refine j_aload_n C dX9_field_92 rfl rfl ?_
              refine j_iload_n C dX9_field_93 rfl rfl ?_
              refine j_callV0 (T := TX9) (N := 17) C dX9_field_94 (k_X9_combine l D kc ad n (by omega) way.toNatClampNeg (by omega) _ ) zy_X9_combine mw_19_11 rfl rfl (show 11 ≤ 215 by decide) (show 215 < n by omega) rfl rfl (Nat.le_of_ble_eq_true rfl) ⟨rfl, rfl, Nat.le_of_ble_eq_true rfl, Nat.le_of_ble_eq_true rfl⟩ ?_
              refine j_nmS (fun t25 et25 => ?_)
              refine j_aload_n C dX9_field_97 rfl rfl ?_
              refine j_getR C dX9_field_98 (fx_RX9_39 D kc ad n) (show 11 ≤ 215 by decide) (show 215 < n by omega) ?_
              refine j_aload_n C dX9_field_101 rfl rfl ?_
              refine j_getR C dX9_field_102 (fx_RX9_82 D kc ad n) (show 11 ≤ 215 by decide) (show 215 < n by omega) ?_
              refine j_aload_n C dX9_field_105 rfl rfl ?_
              refine j_getR C dX9_field_106 (fx_RX9_13 D kc ad n) (show 11 ≤ 215 by decide) (show 215 < n by omega) ?_
              refine j_iload C dX9_field_109 rfl ?_
              refine x_aald35 C dX9_field_111 (by omega) (by omega) ?_
              refine j_callV0 (T := TX1) (N := 8) C dX9_field_112 (k_X1_store l D kc ad n (by omega) 202 (⟨⟨rfl, rfl, by omega, by decide⟩, by decide⟩ : wa n 10 202).1 (11 + u.toNatClampNeg) (sl_wa (n := n) u.toNatClampNeg (by omega) (by omega)) _ ) zy_X1_store mw_20_16 rfl rfl (show 11 ≤ 62 by decide) (show 62 < n by omega) rfl rfl (Nat.le_of_ble_eq_true rfl) ⟨rfl, rfl, Nat.le_of_ble_eq_true rfl, Nat.le_of_ble_eq_true rfl⟩ ?_
              refine j_nmS (fun t26 et26 => ?_)
              refine j_iconst (v := nI 1) C dX9_field_115 (by decide +kernel) ?_
              exact j_iret (st := []) C R0 dX9_field_116 ⟨(by rw [hA3, hA6, hA8, hA10, hA21, hA24]; (try rw [et26]); (try rw [et25]); unfold fX9_field_a4; (try dsimp only); all_goals ((try simp only [zfst_mk, zsnd_mk]); all_goals rfl)), ((by rw [hA3, hA6, hA8, hA10, hA21, hA24]; (try rw [et26]); (try rw [et25]); unfold fX9_field_a4; (try dsimp only); all_goals ((try simp only [zfst_mk, zsnd_mk]); all_goals rfl)))⟩
            · have hA27 : fX9_field_a6 way u t16 = fX9_field_a5 t22 := by (try rw [et22]); have q23z := q23; (try rw [et22] at q23z); (try dsimp only at q23z); unfold fX9_field_a6; (try dsimp only); rw [q23z, cond_true]; (try rfl)
              refine j_bipush (v := -103) C dX9_field_89 (by decide +kernel) ?_
              exact j_iret (st := []) C R0 dX9_field_91 ⟨(by rw [hA3, hA6, hA8, hA10, hA21, hA27]; unfold fX9_field_a5; (try dsimp only); all_goals ((try simp only [zfst_mk, zsnd_mk]); all_goals rfl)), ((by rw [hA3, hA6, hA8, hA10, hA21, hA27]; unfold fX9_field_a5; (try dsimp only); all_goals ((try simp only [zfst_mk, zsnd_mk]); all_goals rfl)))⟩
        · have hA28 : fX9_field_a9 way a b u s0 = fX9_field_a8 s0 := by have q9z := q9; (try dsimp only at q9z); unfold fX9_field_a9; (try dsimp only); rw [q9z, cond_false]; (try rfl)
          refine j_bipush (v := -102) C dX9_field_33 (by decide +kernel) ?_
          exact j_iret (st := []) C R0 dX9_field_35 ⟨(by rw [hA3, hA6, hA8, hA28]; unfold fX9_field_a8; (try dsimp only); all_goals ((try simp only [zfst_mk, zsnd_mk]); all_goals rfl)), ((by rw [hA3, hA6, hA8, hA28]; unfold fX9_field_a8; (try dsimp only); all_goals ((try simp only [zfst_mk, zsnd_mk]); all_goals rfl)))⟩
      · have hA29 : fX9_field_a11 way a b u s0 = fX9_field_a10 s0 := by have q7z := q7; (try dsimp only at q7z); unfold fX9_field_a11; (try dsimp only); rw [q7z, cond_false]; (try rfl)
        refine j_bipush (v := -101) C dX9_field_22 (by decide +kernel) ?_
        exact j_iret (st := []) C R0 dX9_field_24 ⟨(by rw [hA3, hA6, hA29]; unfold fX9_field_a10; (try dsimp only); all_goals ((try simp only [zfst_mk, zsnd_mk]); all_goals rfl)), ((by rw [hA3, hA6, hA29]; unfold fX9_field_a10; (try dsimp only); all_goals ((try simp only [zfst_mk, zsnd_mk]); all_goals rfl)))⟩
theorem k2q_fX9_field_a1 (s0 : zSt) : zk2s (fX9_field_a1 s0) = zk2 s0 := by
  unfold fX9_field_a1
  (try dsimp only)
  all_goals (simp only [zW_2, zL_2, zk2s_mk]; done)
theorem k2_fX9_field_a1 (s0 : zSt) : zk2 (zsnd (fX9_field_a1 s0)) = zk2 s0 := k2q_fX9_field_a1 s0
theorem k2q_fX9_field_a2 (s0 : zSt) : zk2s (fX9_field_a2 s0) = zk2 s0 := by
  unfold fX9_field_a2
  (try dsimp only)
  all_goals (simp only [zW_2, zL_2, zk2s_mk]; done)
theorem k2_fX9_field_a2 (s0 : zSt) : zk2 (zsnd (fX9_field_a2 s0)) = zk2 s0 := k2q_fX9_field_a2 s0
theorem k2q_fX9_field_a3 (way : Int32) (u : Int32) (t16 : zSt) : zk2s (fX9_field_a3 way u t16) = zk2 t16 := by
  unfold fX9_field_a3
  (try dsimp only)
  all_goals (simp only [zW_2, zL_2, k2_fX1_store, k2_fX9_combine, zk2s_mk]; done)
theorem k2_fX9_field_a3 (way : Int32) (u : Int32) (t16 : zSt) : zk2 (zsnd (fX9_field_a3 way u t16)) = zk2 t16 := k2q_fX9_field_a3 way u t16
theorem k2q_fX9_field_a4 (way : Int32) (u : Int32) (t22 : zSt) : zk2s (fX9_field_a4 way u t22) = zk2 t22 := by
  unfold fX9_field_a4
  (try dsimp only)
  all_goals (simp only [zW_2, zL_2, k2_fX1_store, k2_fX9_combine, zk2s_mk]; done)
theorem k2_fX9_field_a4 (way : Int32) (u : Int32) (t22 : zSt) : zk2 (zsnd (fX9_field_a4 way u t22)) = zk2 t22 := k2q_fX9_field_a4 way u t22
theorem k2q_fX9_field_a5 (t22 : zSt) : zk2s (fX9_field_a5 t22) = zk2 t22 := by
  unfold fX9_field_a5
  (try dsimp only)
  all_goals (simp only [zW_2, zL_2, zk2s_mk]; done)
theorem k2_fX9_field_a5 (t22 : zSt) : zk2 (zsnd (fX9_field_a5 t22)) = zk2 t22 := k2q_fX9_field_a5 t22
theorem k2q_fX9_field_a6 (way : Int32) (u : Int32) (t16 : zSt) : zk2s (fX9_field_a6 way u t16) = zk2 t16 := by
  unfold fX9_field_a6
  (try dsimp only)
  all_goals (refine cond_keep (fun r : Int32 × zSt => zk2s r) _ ?_ ?_ <;> (simp only [zW_2, zL_2, k2_fX1_isZero, k2_fX9_field_a4, k2_fX9_field_a5, k2q_fX1_isZero, k2q_fX9_field_a4, k2q_fX9_field_a5, zk2s_mk]; done))
theorem k2_fX9_field_a6 (way : Int32) (u : Int32) (t16 : zSt) : zk2 (zsnd (fX9_field_a6 way u t16)) = zk2 t16 := k2q_fX9_field_a6 way u t16
theorem k2q_fX9_field_a7 (way : Int32) (a : Int32) (b : Int32) (u : Int32) (s0 : zSt) : zk2s (fX9_field_a7 way a b u s0) = zk2 s0 := by
  unfold fX9_field_a7
  (try dsimp only)
  all_goals (refine ite_keep (fun r : Int32 × zSt => zk2s r) _ _ ?_ ?_ <;> (simp only [zW_2, zL_2, k2_fX1_load, k2_fX9_field_a3, k2_fX9_field_a6, k2q_fX9_field_a3, k2q_fX9_field_a6, zk2s_mk]; done))
theorem k2_fX9_field_a7 (way : Int32) (a : Int32) (b : Int32) (u : Int32) (s0 : zSt) : zk2 (zsnd (fX9_field_a7 way a b u s0)) = zk2 s0 := k2q_fX9_field_a7 way a b u s0
theorem k2q_fX9_field_a8 (s0 : zSt) : zk2s (fX9_field_a8 s0) = zk2 s0 := by
  unfold fX9_field_a8
  (try dsimp only)
  all_goals (simp only [zW_2, zL_2, zk2s_mk]; done)
theorem k2_fX9_field_a8 (s0 : zSt) : zk2 (zsnd (fX9_field_a8 s0)) = zk2 s0 := k2q_fX9_field_a8 s0
theorem k2q_fX9_field_a9 (way : Int32) (a : Int32) (b : Int32) (u : Int32) (s0 : zSt) : zk2s (fX9_field_a9 way a b u s0) = zk2 s0 := by
  unfold fX9_field_a9
  (try dsimp only)
  all_goals (refine cond_keep (fun r : Int32 × zSt => zk2s r) _ ?_ ?_ <;> (simp only [zW_2, zL_2, k2_fX9_field_a7, k2_fX9_field_a8, k2q_fX9_field_a7, k2q_fX9_field_a8, zk2s_mk]; done))
theorem k2_fX9_field_a9 (way : Int32) (a : Int32) (b : Int32) (u : Int32) (s0 : zSt) : zk2 (zsnd (fX9_field_a9 way a b u s0)) = zk2 s0 := k2q_fX9_field_a9 way a b u s0
theorem k2q_fX9_field_a10 (s0 : zSt) : zk2s (fX9_field_a10 s0) = zk2 s0 := by
  unfold fX9_field_a10
  (try dsimp only)
  all_goals (simp only [zW_2, zL_2, zk2s_mk]; done)
theorem k2_fX9_field_a10 (s0 : zSt) : zk2 (zsnd (fX9_field_a10 s0)) = zk2 s0 := k2q_fX9_field_a10 s0
theorem k2q_fX9_field_a11 (way : Int32) (a : Int32) (b : Int32) (u : Int32) (s0 : zSt) : zk2s (fX9_field_a11 way a b u s0) = zk2 s0 := by
  unfold fX9_field_a11
  (try dsimp only)
  all_goals (refine cond_keep (fun r : Int32 × zSt => zk2s r) _ ?_ ?_ <;> (simp only [zW_2, zL_2, k2_fX9_field_a10, k2_fX9_field_a9, k2q_fX9_field_a10, k2q_fX9_field_a9, zk2s_mk]; done))
theorem k2_fX9_field_a11 (way : Int32) (a : Int32) (b : Int32) (u : Int32) (s0 : zSt) : zk2 (zsnd (fX9_field_a11 way a b u s0)) = zk2 s0 := k2q_fX9_field_a11 way a b u s0
theorem k2q_fX9_field_a12 (way : Int32) (a : Int32) (b : Int32) (u : Int32) (s0 : zSt) : zk2s (fX9_field_a12 way a b u s0) = zk2 s0 := by
  unfold fX9_field_a12
  (try dsimp only)
  all_goals (refine cond_keep (fun r : Int32 × zSt => zk2s r) _ ?_ ?_ <;> (simp only [zW_2, zL_2, k2_fX9_field_a11, k2_fX9_field_a2, k2q_fX9_field_a11, k2q_fX9_field_a2, zk2s_mk]; done))
theorem k2_fX9_field_a12 (way : Int32) (a : Int32) (b : Int32) (u : Int32) (s0 : zSt) : zk2 (zsnd (fX9_field_a12 way a b u s0)) = zk2 s0 := k2q_fX9_field_a12 way a b u s0
theorem k2q_fX9_field (way : Int32) (a : Int32) (b : Int32) (u : Int32) (s0 : zSt) : zk2s (fX9_field way a b u s0) = zk2 s0 := by
  unfold fX9_field
  (try dsimp only)
  all_goals (refine cond_keep (fun r : Int32 × zSt => zk2s r) _ ?_ ?_ <;> (simp only [zW_2, zL_2, k2_fX9_field_a1, k2_fX9_field_a12, k2q_fX9_field_a1, k2q_fX9_field_a12, zk2s_mk]; done))
theorem k2_fX9_field (way : Int32) (a : Int32) (b : Int32) (u : Int32) (s0 : zSt) : zk2 (zsnd (fX9_field way a b u s0)) = zk2 s0 := k2q_fX9_field way a b u s0
theorem i2_fX9_field (way : Int32) (a : Int32) (b : Int32) (u : Int32) (s0 : zSt) (kk9 : Nat) : (zsnd (fX9_field way a b u s0)).2.2 kk9 = s0.2.2 kk9 := z2_I (k2_fX9_field way a b u s0) kk9
theorem i3_fX9_field (way : Int32) (a : Int32) (b : Int32) (u : Int32) (s0 : zSt) (kk9 : Nat) : zi (zsnd (fX9_field way a b u s0)) kk9 = zi s0 kk9 := zi_of (k2_fX9_field way a b u s0) kk9

def fX9_power_a1 (s0 : zSt) : Int32 × zSt :=
    ((-101 : Int32), s0)
def fX9_power_a2 (s0 : zSt) : Int32 × zSt :=
    ((-101 : Int32), s0)
def fX9_power_a3 (a : Int32) (b : Int32) (u : Int32) (s0 : zSt) : Int32 × zSt :=
    let t12 := fX1_load (11 + a.toNatClampNeg) 202 s0
    let t13 := fX1_raise 202 (11 + b.toNatClampNeg) 202 t12
    let t14 := fX1_store 202 (11 + u.toNatClampNeg) t13
    (nI (1), t14)
def fX9_power_a4 (s0 : zSt) : Int32 × zSt :=
    ((-101 : Int32), s0)
def fX9_power_a5 (a : Int32) (b : Int32) (u : Int32) (s0 : zSt) : Int32 × zSt :=
    bif (vX9_isSlot u s0) then
      fX9_power_a3 a b u s0
    else
      fX9_power_a4 s0
def fX9_power_a6 (a : Int32) (b : Int32) (u : Int32) (s0 : zSt) : Int32 × zSt :=
    bif (vX9_isSlot b s0) then
      fX9_power_a5 a b u s0
    else
      fX9_power_a2 s0
def fX9_power (a : Int32) (b : Int32) (u : Int32) (s0 : zSt) : Int32 × zSt :=
    bif (vX9_isSlot a s0) then
      fX9_power_a6 a b u s0
    else
      fX9_power_a1 s0
set_option maxHeartbeats 4000000 in
set_option maxRecDepth 100000 in
theorem k_X9_power (l : Launch) (D : va_G) (kc : Nat → ClassId) (ad : Nat → Nat) (n : Nat) (hn : 216 ≤ n) (a : Int32) (b : Int32) (u : Int32) (s0 : zSt) : zM l yX9_power cX9_power 4 (some .int) rX9_power (wX D kc ad n) [.ref (zad (wX D kc ad n) 215), .int a, .int b, .int u] s0 (zV1 (.int (zfst (fX9_power a b u s0))) (zsnd (fX9_power a b u s0))) := by
  refine z_of (own := RX9) (by decide +kernel) rfl (Nat.le_of_ble_eq_true rfl) ?_
  intro κ C R0
  refine j_at [(0, .ref (zad (wX D kc ad n) 215)), (1, .int a), (2, .int b), (3, .int u)] ⟨rfl, rfl, rfl, rfl, trivial⟩ ?_
  refine j_iload_n C dX9_power_0 rfl rfl ?_
  refine j_callS1 C dX9_power_1 (k_X9_isSlot l D kc ad n (by omega) (a) _ ) zy_X9_isSlot mw_14_17 rfl rfl (Nat.le_of_ble_eq_true rfl) ⟨rfl, rfl, Nat.le_of_ble_eq_true rfl, Nat.le_of_ble_eq_true rfl⟩ ?_
  refine j_if_eqB (tgt := 21) C dX9_power_4 (by decide) (fun q1 => ?_) (fun q1 => ?_)
  · have hA2 : fX9_power a b u s0 = fX9_power_a1 s0 := by have q1z := q1; (try dsimp only at q1z); unfold fX9_power; (try dsimp only); rw [q1z, cond_false]; (try rfl)
    refine j_bipush (v := -101) C dX9_power_21 (by decide +kernel) ?_
    exact j_iret (st := []) C R0 dX9_power_23 ⟨(by rw [hA2]; unfold fX9_power_a1; (try dsimp only); all_goals ((try simp only [zfst_mk, zsnd_mk]); all_goals rfl)), ((by rw [hA2]; unfold fX9_power_a1; (try dsimp only); all_goals ((try simp only [zfst_mk, zsnd_mk]); all_goals rfl)))⟩
  · have hA3 : fX9_power a b u s0 = fX9_power_a6 a b u s0 := by have q1z := q1; (try dsimp only at q1z); unfold fX9_power; (try dsimp only); rw [q1z, cond_true]; (try rfl)
    refine j_iload_n C dX9_power_7 rfl rfl ?_
    refine j_callS1 C dX9_power_8 (k_X9_isSlot l D kc ad n (by omega) (b) _ ) zy_X9_isSlot mw_14_17 rfl rfl (Nat.le_of_ble_eq_true rfl) ⟨rfl, rfl, Nat.le_of_ble_eq_true rfl, Nat.le_of_ble_eq_true rfl⟩ ?_
    refine j_if_eqB (tgt := 21) C dX9_power_11 (by decide) (fun q4 => ?_) (fun q4 => ?_)
    · have hA5 : fX9_power_a6 a b u s0 = fX9_power_a2 s0 := by have q4z := q4; (try dsimp only at q4z); unfold fX9_power_a6; (try dsimp only); rw [q4z, cond_false]; (try rfl)
      refine j_bipush (v := -101) C dX9_power_21 (by decide +kernel) ?_
      exact j_iret (st := []) C R0 dX9_power_23 ⟨(by rw [hA3, hA5]; unfold fX9_power_a2; (try dsimp only); all_goals ((try simp only [zfst_mk, zsnd_mk]); all_goals rfl)), ((by rw [hA3, hA5]; unfold fX9_power_a2; (try dsimp only); all_goals ((try simp only [zfst_mk, zsnd_mk]); all_goals rfl)))⟩
    · have hA6 : fX9_power_a6 a b u s0 = fX9_power_a5 a b u s0 := by have q4z := q4; (try dsimp only at q4z); unfold fX9_power_a6; (try dsimp only); rw [q4z, cond_true]; (try rfl)
      refine j_iload_n C dX9_power_14 rfl rfl ?_
      refine j_callS1 C dX9_power_15 (k_X9_isSlot l D kc ad n (by omega) (u) _ ) zy_X9_isSlot mw_14_17 rfl rfl (Nat.le_of_ble_eq_true rfl) ⟨rfl, rfl, Nat.le_of_ble_eq_true rfl, Nat.le_of_ble_eq_true rfl⟩ ?_
      refine j_if_neB (tgt := 24) C dX9_power_18 (by decide) (fun q7 => ?_) (fun q7 => ?_)
      · have hA8 : fX9_power_a5 a b u s0 = fX9_power_a3 a b u s0 := by have q7z := q7; (try dsimp only at q7z); unfold fX9_power_a5; (try dsimp only); rw [q7z, cond_true]; (try rfl)
        have hc9 := sl_of (x := a) (by assumption)
        have hc9b := hc9.2
        have hc10 := sl_of (x := b) (by assumption)
        have hc10b := hc10.2
        have hc11 := sl_of (x := u) (by assumption)
        have hc11b := hc11.2
        refine j_at [(0, .ref (zad (wX D kc ad n) 215)), (1, .int (nI (a.toNatClampNeg))), (2, .int (nI (b.toNatClampNeg))), (3, .int (nI (u.toNatClampNeg)))] ⟨rfl, congrArg (fun q => some (Value.int q)) hc9.1, congrArg (fun q => some (Value.int q)) hc10.1, congrArg (fun q => some (Value.int q)) hc11.1, trivial⟩ ?_
        refine j_aload_n C dX9_power_24 rfl rfl ?_
        refine j_getR C dX9_power_25 (fx_RX9_39 D kc ad n) (show 11 ≤ 215 by decide) (show 215 < n by omega) ?_
        refine j_aload_n C dX9_power_28 rfl rfl ?_
        refine j_getR C dX9_power_29 (fx_RX9_13 D kc ad n) (show 11 ≤ 215 by decide) (show 215 < n by omega) ?_
        refine j_iload_n C dX9_power_32 rfl rfl ?_
        refine x_aald35 C dX9_power_33 (by omega) (by omega) ?_
        refine j_aload_n C dX9_power_34 rfl rfl ?_
        refine j_getR C dX9_power_35 (fx_RX9_82 D kc ad n) (show 11 ≤ 215 by decide) (show 215 < n by omega) ?_
        refine j_callV0 (T := TX1) (N := 8) C dX9_power_38 (k_X1_load l D kc ad n (by omega) (11 + a.toNatClampNeg) (sl_wa (n := n) a.toNatClampNeg (by omega) (by omega)).1 202 (⟨⟨rfl, rfl, by omega, by decide⟩, by decide⟩ : wa n 10 202) _ ) zy_X1_load mw_18_18 rfl rfl (show 11 ≤ 62 by decide) (show 62 < n by omega) rfl rfl (Nat.le_of_ble_eq_true rfl) ⟨rfl, rfl, Nat.le_of_ble_eq_true rfl, Nat.le_of_ble_eq_true rfl⟩ ?_
        refine j_nmS (fun t12 et12 => ?_)
        refine j_aload_n C dX9_power_41 rfl rfl ?_
        refine j_getR C dX9_power_42 (fx_RX9_39 D kc ad n) (show 11 ≤ 215 by decide) (show 215 < n by omega) ?_
        refine j_aload_n C dX9_power_45 rfl rfl ?_
        refine j_getR C dX9_power_46 (fx_RX9_82 D kc ad n) (show 11 ≤ 215 by decide) (show 215 < n by omega) ?_
        refine j_aload_n C dX9_power_49 rfl rfl ?_
        refine j_getR C dX9_power_50 (fx_RX9_13 D kc ad n) (show 11 ≤ 215 by decide) (show 215 < n by omega) ?_
        refine j_iload_n C dX9_power_53 rfl rfl ?_
        refine x_aald35 C dX9_power_54 (by omega) (by omega) ?_
        refine j_aload_n C dX9_power_55 rfl rfl ?_
        refine j_getR C dX9_power_56 (fx_RX9_82 D kc ad n) (show 11 ≤ 215 by decide) (show 215 < n by omega) ?_
        refine j_callV0 (T := TX1) (N := 8) C dX9_power_59 (k_X1_raise l D kc ad n (by omega) 202 (⟨⟨rfl, rfl, by omega, by decide⟩, by decide⟩ : wa n 10 202).1 (11 + b.toNatClampNeg) (sl_wa (n := n) b.toNatClampNeg (by omega) (by omega)).1 202 (⟨⟨rfl, rfl, by omega, by decide⟩, by decide⟩ : wa n 10 202) _ ) zy_X1_raise mw_21_12 rfl rfl (show 11 ≤ 62 by decide) (show 62 < n by omega) rfl rfl (Nat.le_of_ble_eq_true rfl) ⟨rfl, rfl, Nat.le_of_ble_eq_true rfl, Nat.le_of_ble_eq_true rfl⟩ ?_
        refine j_nmS (fun t13 et13 => ?_)
        refine j_aload_n C dX9_power_62 rfl rfl ?_
        refine j_getR C dX9_power_63 (fx_RX9_39 D kc ad n) (show 11 ≤ 215 by decide) (show 215 < n by omega) ?_
        refine j_aload_n C dX9_power_66 rfl rfl ?_
        refine j_getR C dX9_power_67 (fx_RX9_82 D kc ad n) (show 11 ≤ 215 by decide) (show 215 < n by omega) ?_
        refine j_aload_n C dX9_power_70 rfl rfl ?_
        refine j_getR C dX9_power_71 (fx_RX9_13 D kc ad n) (show 11 ≤ 215 by decide) (show 215 < n by omega) ?_
        refine j_iload_n C dX9_power_74 rfl rfl ?_
        refine x_aald35 C dX9_power_75 (by omega) (by omega) ?_
        refine j_callV0 (T := TX1) (N := 8) C dX9_power_76 (k_X1_store l D kc ad n (by omega) 202 (⟨⟨rfl, rfl, by omega, by decide⟩, by decide⟩ : wa n 10 202).1 (11 + u.toNatClampNeg) (sl_wa (n := n) u.toNatClampNeg (by omega) (by omega)) _ ) zy_X1_store mw_20_16 rfl rfl (show 11 ≤ 62 by decide) (show 62 < n by omega) rfl rfl (Nat.le_of_ble_eq_true rfl) ⟨rfl, rfl, Nat.le_of_ble_eq_true rfl, Nat.le_of_ble_eq_true rfl⟩ ?_
        refine j_nmS (fun t14 et14 => ?_)
        refine j_iconst (v := nI 1) C dX9_power_79 (by decide +kernel) ?_
        exact j_iret (st := []) C R0 dX9_power_80 ⟨(by rw [hA3, hA6, hA8]; (try rw [et14]); (try rw [et13]); (try rw [et12]); unfold fX9_power_a3; (try dsimp only); all_goals ((try simp only [zfst_mk, zsnd_mk]); all_goals rfl)), ((by rw [hA3, hA6, hA8]; (try rw [et14]); (try rw [et13]); (try rw [et12]); unfold fX9_power_a3; (try dsimp only); all_goals ((try simp only [zfst_mk, zsnd_mk]); all_goals rfl)))⟩
      · have hA15 : fX9_power_a5 a b u s0 = fX9_power_a4 s0 := by have q7z := q7; (try dsimp only at q7z); unfold fX9_power_a5; (try dsimp only); rw [q7z, cond_false]; (try rfl)
        refine j_bipush (v := -101) C dX9_power_21 (by decide +kernel) ?_
        exact j_iret (st := []) C R0 dX9_power_23 ⟨(by rw [hA3, hA6, hA15]; unfold fX9_power_a4; (try dsimp only); all_goals ((try simp only [zfst_mk, zsnd_mk]); all_goals rfl)), ((by rw [hA3, hA6, hA15]; unfold fX9_power_a4; (try dsimp only); all_goals ((try simp only [zfst_mk, zsnd_mk]); all_goals rfl)))⟩
theorem k2q_fX9_power_a1 (s0 : zSt) : zk2s (fX9_power_a1 s0) = zk2 s0 := by
  unfold fX9_power_a1
  (try dsimp only)
  all_goals (simp only [zW_2, zL_2, zk2s_mk]; done)
theorem k2_fX9_power_a1 (s0 : zSt) : zk2 (zsnd (fX9_power_a1 s0)) = zk2 s0 := k2q_fX9_power_a1 s0
theorem k2q_fX9_power_a2 (s0 : zSt) : zk2s (fX9_power_a2 s0) = zk2 s0 := by
  unfold fX9_power_a2
  (try dsimp only)
  all_goals (simp only [zW_2, zL_2, zk2s_mk]; done)
theorem k2_fX9_power_a2 (s0 : zSt) : zk2 (zsnd (fX9_power_a2 s0)) = zk2 s0 := k2q_fX9_power_a2 s0
theorem k2q_fX9_power_a3 (a : Int32) (b : Int32) (u : Int32) (s0 : zSt) : zk2s (fX9_power_a3 a b u s0) = zk2 s0 := by
  unfold fX9_power_a3
  (try dsimp only)
  all_goals (simp only [zW_2, zL_2, k2_fX1_load, k2_fX1_raise, k2_fX1_store, zk2s_mk]; done)
theorem k2_fX9_power_a3 (a : Int32) (b : Int32) (u : Int32) (s0 : zSt) : zk2 (zsnd (fX9_power_a3 a b u s0)) = zk2 s0 := k2q_fX9_power_a3 a b u s0
theorem k2q_fX9_power_a4 (s0 : zSt) : zk2s (fX9_power_a4 s0) = zk2 s0 := by
  unfold fX9_power_a4
  (try dsimp only)
  all_goals (simp only [zW_2, zL_2, zk2s_mk]; done)
theorem k2_fX9_power_a4 (s0 : zSt) : zk2 (zsnd (fX9_power_a4 s0)) = zk2 s0 := k2q_fX9_power_a4 s0
theorem k2q_fX9_power_a5 (a : Int32) (b : Int32) (u : Int32) (s0 : zSt) : zk2s (fX9_power_a5 a b u s0) = zk2 s0 := by
  unfold fX9_power_a5
  (try dsimp only)
  all_goals (refine cond_keep (fun r : Int32 × zSt => zk2s r) _ ?_ ?_ <;> (simp only [zW_2, zL_2, k2_fX9_power_a3, k2_fX9_power_a4, k2q_fX9_power_a3, k2q_fX9_power_a4, zk2s_mk]; done))
theorem k2_fX9_power_a5 (a : Int32) (b : Int32) (u : Int32) (s0 : zSt) : zk2 (zsnd (fX9_power_a5 a b u s0)) = zk2 s0 := k2q_fX9_power_a5 a b u s0
theorem k2q_fX9_power_a6 (a : Int32) (b : Int32) (u : Int32) (s0 : zSt) : zk2s (fX9_power_a6 a b u s0) = zk2 s0 := by
  unfold fX9_power_a6
  (try dsimp only)
  all_goals (refine cond_keep (fun r : Int32 × zSt => zk2s r) _ ?_ ?_ <;> (simp only [zW_2, zL_2, k2_fX9_power_a2, k2_fX9_power_a5, k2q_fX9_power_a2, k2q_fX9_power_a5, zk2s_mk]; done))
theorem k2_fX9_power_a6 (a : Int32) (b : Int32) (u : Int32) (s0 : zSt) : zk2 (zsnd (fX9_power_a6 a b u s0)) = zk2 s0 := k2q_fX9_power_a6 a b u s0
theorem k2q_fX9_power (a : Int32) (b : Int32) (u : Int32) (s0 : zSt) : zk2s (fX9_power a b u s0) = zk2 s0 := by
  unfold fX9_power
  (try dsimp only)
  all_goals (refine cond_keep (fun r : Int32 × zSt => zk2s r) _ ?_ ?_ <;> (simp only [zW_2, zL_2, k2_fX9_power_a1, k2_fX9_power_a6, k2q_fX9_power_a1, k2q_fX9_power_a6, zk2s_mk]; done))
theorem k2_fX9_power (a : Int32) (b : Int32) (u : Int32) (s0 : zSt) : zk2 (zsnd (fX9_power a b u s0)) = zk2 s0 := k2q_fX9_power a b u s0
theorem i2_fX9_power (a : Int32) (b : Int32) (u : Int32) (s0 : zSt) (kk9 : Nat) : (zsnd (fX9_power a b u s0)).2.2 kk9 = s0.2.2 kk9 := z2_I (k2_fX9_power a b u s0) kk9
theorem i3_fX9_power (a : Int32) (b : Int32) (u : Int32) (s0 : zSt) (kk9 : Nat) : zi (zsnd (fX9_power a b u s0)) kk9 = zi s0 kk9 := zi_of (k2_fX9_power a b u s0) kk9

def fX9_root_a1 (s0 : zSt) : Int32 × zSt :=
    ((-101 : Int32), s0)
def fX9_root_a2 (u : Int32) (t9 : zSt) : Int32 × zSt :=
    let t12 := fX1_store 203 (11 + u.toNatClampNeg) t9
    (nI (1), t12)
def fX9_root_a3 (t9 : zSt) : Int32 × zSt :=
    (nI (0), t9)
def fX9_root_a4 (a : Int32) (u : Int32) (s0 : zSt) : Int32 × zSt :=
    let t8 := fX1_load (11 + a.toNatClampNeg) 202 s0
    let t9 := zsnd (fX1_findRoot 202 203 t8)
    bif (zfst (fX1_findRoot 202 203 t8)) then
      fX9_root_a2 u t9
    else
      fX9_root_a3 t9
def fX9_root_a5 (s0 : zSt) : Int32 × zSt :=
    ((-101 : Int32), s0)
def fX9_root_a6 (a : Int32) (u : Int32) (s0 : zSt) : Int32 × zSt :=
    bif (vX9_isSlot u s0) then
      fX9_root_a4 a u s0
    else
      fX9_root_a5 s0
def fX9_root (a : Int32) (u : Int32) (s0 : zSt) : Int32 × zSt :=
    bif (vX9_isSlot a s0) then
      fX9_root_a6 a u s0
    else
      fX9_root_a1 s0
set_option maxHeartbeats 4000000 in
set_option maxRecDepth 100000 in
theorem k_X9_root (l : Launch) (D : va_G) (kc : Nat → ClassId) (ad : Nat → Nat) (n : Nat) (hn : 216 ≤ n) (a : Int32) (u : Int32) (s0 : zSt) : zM l yX9_root cX9_root 3 (some .int) rX9_root (wX D kc ad n) [.ref (zad (wX D kc ad n) 215), .int a, .int u] s0 (zV1 (.int (zfst (fX9_root a u s0))) (zsnd (fX9_root a u s0))) := by
  refine z_of (own := RX9) (by decide +kernel) rfl (Nat.le_of_ble_eq_true rfl) ?_
  intro κ C R0
  refine j_at [(0, .ref (zad (wX D kc ad n) 215)), (1, .int a), (2, .int u)] ⟨rfl, rfl, rfl, trivial⟩ ?_
  refine j_iload_n C dX9_root_0 rfl rfl ?_
  refine j_callS1 C dX9_root_1 (k_X9_isSlot l D kc ad n (by omega) (a) _ ) zy_X9_isSlot mw_14_17 rfl rfl (Nat.le_of_ble_eq_true rfl) ⟨rfl, rfl, Nat.le_of_ble_eq_true rfl, Nat.le_of_ble_eq_true rfl⟩ ?_
  refine j_if_eqB (tgt := 14) C dX9_root_4 (by decide) (fun q1 => ?_) (fun q1 => ?_)
  · have hA2 : fX9_root a u s0 = fX9_root_a1 s0 := by have q1z := q1; (try dsimp only at q1z); unfold fX9_root; (try dsimp only); rw [q1z, cond_false]; (try rfl)
    refine j_bipush (v := -101) C dX9_root_14 (by decide +kernel) ?_
    exact j_iret (st := []) C R0 dX9_root_16 ⟨(by rw [hA2]; unfold fX9_root_a1; (try dsimp only); all_goals ((try simp only [zfst_mk, zsnd_mk]); all_goals rfl)), ((by rw [hA2]; unfold fX9_root_a1; (try dsimp only); all_goals ((try simp only [zfst_mk, zsnd_mk]); all_goals rfl)))⟩
  · have hA3 : fX9_root a u s0 = fX9_root_a6 a u s0 := by have q1z := q1; (try dsimp only at q1z); unfold fX9_root; (try dsimp only); rw [q1z, cond_true]; (try rfl)
    refine j_iload_n C dX9_root_7 rfl rfl ?_
    refine j_callS1 C dX9_root_8 (k_X9_isSlot l D kc ad n (by omega) (u) _ ) zy_X9_isSlot mw_14_17 rfl rfl (Nat.le_of_ble_eq_true rfl) ⟨rfl, rfl, Nat.le_of_ble_eq_true rfl, Nat.le_of_ble_eq_true rfl⟩ ?_
    refine j_if_neB (tgt := 17) C dX9_root_11 (by decide) (fun q4 => ?_) (fun q4 => ?_)
    · have hA5 : fX9_root_a6 a u s0 = fX9_root_a4 a u s0 := by have q4z := q4; (try dsimp only at q4z); unfold fX9_root_a6; (try dsimp only); rw [q4z, cond_true]; (try rfl)
      have hc6 := sl_of (x := a) (by assumption)
      have hc6b := hc6.2
      have hc7 := sl_of (x := u) (by assumption)
      have hc7b := hc7.2
      refine j_at [(0, .ref (zad (wX D kc ad n) 215)), (1, .int (nI (a.toNatClampNeg))), (2, .int (nI (u.toNatClampNeg)))] ⟨rfl, congrArg (fun q => some (Value.int q)) hc6.1, congrArg (fun q => some (Value.int q)) hc7.1, trivial⟩ ?_
      refine j_aload_n C dX9_root_17 rfl rfl ?_
      refine j_getR C dX9_root_18 (fx_RX9_39 D kc ad n) (show 11 ≤ 215 by decide) (show 215 < n by omega) ?_
      refine j_aload_n C dX9_root_21 rfl rfl ?_
      refine j_getR C dX9_root_22 (fx_RX9_13 D kc ad n) (show 11 ≤ 215 by decide) (show 215 < n by omega) ?_
      refine j_iload_n C dX9_root_25 rfl rfl ?_
      refine x_aald35 C dX9_root_26 (by omega) (by omega) ?_
      refine j_aload_n C dX9_root_27 rfl rfl ?_
      refine j_getR C dX9_root_28 (fx_RX9_82 D kc ad n) (show 11 ≤ 215 by decide) (show 215 < n by omega) ?_
      refine j_callV0 (T := TX1) (N := 8) C dX9_root_31 (k_X1_load l D kc ad n (by omega) (11 + a.toNatClampNeg) (sl_wa (n := n) a.toNatClampNeg (by omega) (by omega)).1 202 (⟨⟨rfl, rfl, by omega, by decide⟩, by decide⟩ : wa n 10 202) _ ) zy_X1_load mw_18_18 rfl rfl (show 11 ≤ 62 by decide) (show 62 < n by omega) rfl rfl (Nat.le_of_ble_eq_true rfl) ⟨rfl, rfl, Nat.le_of_ble_eq_true rfl, Nat.le_of_ble_eq_true rfl⟩ ?_
      refine j_nmS (fun t8 et8 => ?_)
      refine j_aload_n C dX9_root_34 rfl rfl ?_
      refine j_getR C dX9_root_35 (fx_RX9_39 D kc ad n) (show 11 ≤ 215 by decide) (show 215 < n by omega) ?_
      refine j_aload_n C dX9_root_38 rfl rfl ?_
      refine j_getR C dX9_root_39 (fx_RX9_82 D kc ad n) (show 11 ≤ 215 by decide) (show 215 < n by omega) ?_
      refine j_aload_n C dX9_root_42 rfl rfl ?_
      refine j_getR C dX9_root_43 (fx_RX9_86 D kc ad n) (show 11 ≤ 215 by decide) (show 215 < n by omega) ?_
      refine j_callV1 (T := TX1) (N := 8) C dX9_root_46 (k_X1_findRoot l D kc ad n (by omega) 202 (⟨⟨rfl, rfl, by omega, by decide⟩, by decide⟩ : wa n 10 202).1 203 (⟨⟨rfl, rfl, by omega, by decide⟩, by decide⟩ : wa n 10 203) _ ) zy_X1_findRoot mw_21_21 rfl rfl (show 11 ≤ 62 by decide) (show 62 < n by omega) rfl rfl (Nat.le_of_ble_eq_true rfl) ⟨rfl, rfl, Nat.le_of_ble_eq_true rfl, Nat.le_of_ble_eq_true rfl⟩ ?_
      refine j_nmS (fun t9 et9 => ?_)
      refine j_if_neB (tgt := 54) C dX9_root_49 (by decide) (fun q10 => ?_) (fun q10 => ?_)
      · have hA11 : fX9_root_a4 a u s0 = fX9_root_a2 u t9 := by (try rw [et9]); (try rw [et8]); have q10z := q10; (try rw [et9] at q10z); (try rw [et8] at q10z); (try dsimp only at q10z); unfold fX9_root_a4; (try dsimp only); rw [q10z, cond_true]; (try rfl)
        refine j_aload_n C dX9_root_54 rfl rfl ?_
        refine j_getR C dX9_root_55 (fx_RX9_39 D kc ad n) (show 11 ≤ 215 by decide) (show 215 < n by omega) ?_
        refine j_aload_n C dX9_root_58 rfl rfl ?_
        refine j_getR C dX9_root_59 (fx_RX9_86 D kc ad n) (show 11 ≤ 215 by decide) (show 215 < n by omega) ?_
        refine j_aload_n C dX9_root_62 rfl rfl ?_
        refine j_getR C dX9_root_63 (fx_RX9_13 D kc ad n) (show 11 ≤ 215 by decide) (show 215 < n by omega) ?_
        refine j_iload_n C dX9_root_66 rfl rfl ?_
        refine x_aald35 C dX9_root_67 (by omega) (by omega) ?_
        refine j_callV0 (T := TX1) (N := 8) C dX9_root_68 (k_X1_store l D kc ad n (by omega) 203 (⟨⟨rfl, rfl, by omega, by decide⟩, by decide⟩ : wa n 10 203).1 (11 + u.toNatClampNeg) (sl_wa (n := n) u.toNatClampNeg (by omega) (by omega)) _ ) zy_X1_store mw_20_16 rfl rfl (show 11 ≤ 62 by decide) (show 62 < n by omega) rfl rfl (Nat.le_of_ble_eq_true rfl) ⟨rfl, rfl, Nat.le_of_ble_eq_true rfl, Nat.le_of_ble_eq_true rfl⟩ ?_
        refine j_nmS (fun t12 et12 => ?_)
        refine j_iconst (v := nI 1) C dX9_root_71 (by decide +kernel) ?_
        exact j_iret (st := []) C R0 dX9_root_72 ⟨(by rw [hA3, hA5, hA11]; (try rw [et12]); unfold fX9_root_a2; (try dsimp only); all_goals ((try simp only [zfst_mk, zsnd_mk]); all_goals rfl)), ((by rw [hA3, hA5, hA11]; (try rw [et12]); unfold fX9_root_a2; (try dsimp only); all_goals ((try simp only [zfst_mk, zsnd_mk]); all_goals rfl)))⟩
      · have hA13 : fX9_root_a4 a u s0 = fX9_root_a3 t9 := by (try rw [et9]); (try rw [et8]); have q10z := q10; (try rw [et9] at q10z); (try rw [et8] at q10z); (try dsimp only at q10z); unfold fX9_root_a4; (try dsimp only); rw [q10z, cond_false]; (try rfl)
        refine j_iconst (v := nI 0) C dX9_root_52 (by decide +kernel) ?_
        exact j_iret (st := []) C R0 dX9_root_53 ⟨(by rw [hA3, hA5, hA13]; unfold fX9_root_a3; (try dsimp only); all_goals ((try simp only [zfst_mk, zsnd_mk]); all_goals rfl)), ((by rw [hA3, hA5, hA13]; unfold fX9_root_a3; (try dsimp only); all_goals ((try simp only [zfst_mk, zsnd_mk]); all_goals rfl)))⟩
    · have hA14 : fX9_root_a6 a u s0 = fX9_root_a5 s0 := by have q4z := q4; (try dsimp only at q4z); unfold fX9_root_a6; (try dsimp only); rw [q4z, cond_false]; (try rfl)
      refine j_bipush (v := -101) C dX9_root_14 (by decide +kernel) ?_
      exact j_iret (st := []) C R0 dX9_root_16 ⟨(by rw [hA3, hA14]; unfold fX9_root_a5; (try dsimp only); all_goals ((try simp only [zfst_mk, zsnd_mk]); all_goals rfl)), ((by rw [hA3, hA14]; unfold fX9_root_a5; (try dsimp only); all_goals ((try simp only [zfst_mk, zsnd_mk]); all_goals rfl)))⟩
theorem k2q_fX9_root_a1 (s0 : zSt) : zk2s (fX9_root_a1 s0) = zk2 s0 := by
  unfold fX9_root_a1
  (try dsimp only)
  all_goals (simp only [zW_2, zL_2, zk2s_mk]; done)
theorem k2_fX9_root_a1 (s0 : zSt) : zk2 (zsnd (fX9_root_a1 s0)) = zk2 s0 := k2q_fX9_root_a1 s0
theorem k2q_fX9_root_a2 (u : Int32) (t9 : zSt) : zk2s (fX9_root_a2 u t9) = zk2 t9 := by
  unfold fX9_root_a2
  (try dsimp only)
  all_goals (simp only [zW_2, zL_2, k2_fX1_store, zk2s_mk]; done)
theorem k2_fX9_root_a2 (u : Int32) (t9 : zSt) : zk2 (zsnd (fX9_root_a2 u t9)) = zk2 t9 := k2q_fX9_root_a2 u t9
theorem k2q_fX9_root_a3 (t9 : zSt) : zk2s (fX9_root_a3 t9) = zk2 t9 := by
  unfold fX9_root_a3
  (try dsimp only)
  all_goals (simp only [zW_2, zL_2, zk2s_mk]; done)
theorem k2_fX9_root_a3 (t9 : zSt) : zk2 (zsnd (fX9_root_a3 t9)) = zk2 t9 := k2q_fX9_root_a3 t9
theorem k2q_fX9_root_a4 (a : Int32) (u : Int32) (s0 : zSt) : zk2s (fX9_root_a4 a u s0) = zk2 s0 := by
  unfold fX9_root_a4
  (try dsimp only)
  all_goals (refine cond_keep (fun r : Int32 × zSt => zk2s r) _ ?_ ?_ <;> (simp only [zW_2, zL_2, k2_fX1_findRoot, k2_fX1_load, k2_fX9_root_a2, k2_fX9_root_a3, k2q_fX1_findRoot, k2q_fX9_root_a2, k2q_fX9_root_a3, zk2s_mk]; done))
theorem k2_fX9_root_a4 (a : Int32) (u : Int32) (s0 : zSt) : zk2 (zsnd (fX9_root_a4 a u s0)) = zk2 s0 := k2q_fX9_root_a4 a u s0
theorem k2q_fX9_root_a5 (s0 : zSt) : zk2s (fX9_root_a5 s0) = zk2 s0 := by
  unfold fX9_root_a5
  (try dsimp only)
  all_goals (simp only [zW_2, zL_2, zk2s_mk]; done)
theorem k2_fX9_root_a5 (s0 : zSt) : zk2 (zsnd (fX9_root_a5 s0)) = zk2 s0 := k2q_fX9_root_a5 s0
theorem k2q_fX9_root_a6 (a : Int32) (u : Int32) (s0 : zSt) : zk2s (fX9_root_a6 a u s0) = zk2 s0 := by
  unfold fX9_root_a6
  (try dsimp only)
  all_goals (refine cond_keep (fun r : Int32 × zSt => zk2s r) _ ?_ ?_ <;> (simp only [zW_2, zL_2, k2_fX9_root_a4, k2_fX9_root_a5, k2q_fX9_root_a4, k2q_fX9_root_a5, zk2s_mk]; done))
theorem k2_fX9_root_a6 (a : Int32) (u : Int32) (s0 : zSt) : zk2 (zsnd (fX9_root_a6 a u s0)) = zk2 s0 := k2q_fX9_root_a6 a u s0
theorem k2q_fX9_root (a : Int32) (u : Int32) (s0 : zSt) : zk2s (fX9_root a u s0) = zk2 s0 := by
  unfold fX9_root
  (try dsimp only)
  all_goals (refine cond_keep (fun r : Int32 × zSt => zk2s r) _ ?_ ?_ <;> (simp only [zW_2, zL_2, k2_fX9_root_a1, k2_fX9_root_a6, k2q_fX9_root_a1, k2q_fX9_root_a6, zk2s_mk]; done))
theorem k2_fX9_root (a : Int32) (u : Int32) (s0 : zSt) : zk2 (zsnd (fX9_root a u s0)) = zk2 s0 := k2q_fX9_root a u s0
theorem i2_fX9_root (a : Int32) (u : Int32) (s0 : zSt) (kk9 : Nat) : (zsnd (fX9_root a u s0)).2.2 kk9 = s0.2.2 kk9 := z2_I (k2_fX9_root a u s0) kk9
theorem i3_fX9_root (a : Int32) (u : Int32) (s0 : zSt) (kk9 : Nat) : zi (zsnd (fX9_root a u s0)) kk9 = zi s0 kk9 := zi_of (k2_fX9_root a u s0) kk9

def fX9_compare_a1 (s0 : zSt) : Int32 :=
    (-101 : Int32)
def fX9_compare_a2 (a : Int32) (b : Int32) (s0 : zSt) : Int32 :=
    vX8_order (11 + a.toNatClampNeg) (11 + b.toNatClampNeg) s0
def fX9_compare_a3 (s0 : zSt) : Int32 :=
    (-101 : Int32)
def fX9_compare_a4 (a : Int32) (b : Int32) (s0 : zSt) : Int32 :=
    bif (vX9_isSlot b s0) then
      fX9_compare_a2 a b s0
    else
      fX9_compare_a3 s0
def vX9_compare (a : Int32) (b : Int32) (s0 : zSt) : Int32 :=
    bif (vX9_isSlot a s0) then
      fX9_compare_a4 a b s0
    else
      fX9_compare_a1 s0
set_option maxHeartbeats 4000000 in
set_option maxRecDepth 100000 in
theorem k_X9_compare (l : Launch) (D : va_G) (kc : Nat → ClassId) (ad : Nat → Nat) (n : Nat) (hn : 216 ≤ n) (a : Int32) (b : Int32) (s0 : zSt) : zM l yX9_compare cX9_compare 3 (some .int) rX9_compare (wX D kc ad n) [.ref (zad (wX D kc ad n) 215), .int a, .int b] s0 (zV1 (.int (vX9_compare a b s0)) s0) := by
  refine z_of (own := RX9) (by decide +kernel) rfl (Nat.le_of_ble_eq_true rfl) ?_
  intro κ C R0
  refine j_at [(0, .ref (zad (wX D kc ad n) 215)), (1, .int a), (2, .int b)] ⟨rfl, rfl, rfl, trivial⟩ ?_
  refine j_iload_n C dX9_compare_0 rfl rfl ?_
  refine j_callS1 C dX9_compare_1 (k_X9_isSlot l D kc ad n (by omega) (a) _ ) zy_X9_isSlot mw_14_17 rfl rfl (Nat.le_of_ble_eq_true rfl) ⟨rfl, rfl, Nat.le_of_ble_eq_true rfl, Nat.le_of_ble_eq_true rfl⟩ ?_
  refine j_if_eqB (tgt := 14) C dX9_compare_4 (by decide) (fun q1 => ?_) (fun q1 => ?_)
  · have hA2 : vX9_compare a b s0 = fX9_compare_a1 s0 := by have q1z := q1; (try dsimp only at q1z); unfold vX9_compare; (try dsimp only); rw [q1z, cond_false]; (try rfl)
    refine j_bipush (v := -101) C dX9_compare_14 (by decide +kernel) ?_
    exact j_iret (st := []) C R0 dX9_compare_16 ⟨(by rw [hA2]; unfold fX9_compare_a1; (try dsimp only); all_goals ((try simp only [zfst_mk, zsnd_mk]); all_goals rfl)), ((by rfl))⟩
  · have hA3 : vX9_compare a b s0 = fX9_compare_a4 a b s0 := by have q1z := q1; (try dsimp only at q1z); unfold vX9_compare; (try dsimp only); rw [q1z, cond_true]; (try rfl)
    refine j_iload_n C dX9_compare_7 rfl rfl ?_
    refine j_callS1 C dX9_compare_8 (k_X9_isSlot l D kc ad n (by omega) (b) _ ) zy_X9_isSlot mw_14_17 rfl rfl (Nat.le_of_ble_eq_true rfl) ⟨rfl, rfl, Nat.le_of_ble_eq_true rfl, Nat.le_of_ble_eq_true rfl⟩ ?_
    refine j_if_neB (tgt := 17) C dX9_compare_11 (by decide) (fun q4 => ?_) (fun q4 => ?_)
    · have hA5 : fX9_compare_a4 a b s0 = fX9_compare_a2 a b s0 := by have q4z := q4; (try dsimp only at q4z); unfold fX9_compare_a4; (try dsimp only); rw [q4z, cond_true]; (try rfl)
      have hc6 := sl_of (x := a) (by assumption)
      have hc6b := hc6.2
      have hc7 := sl_of (x := b) (by assumption)
      have hc7b := hc7.2
      refine j_at [(0, .ref (zad (wX D kc ad n) 215)), (1, .int (nI (a.toNatClampNeg))), (2, .int (nI (b.toNatClampNeg)))] ⟨rfl, congrArg (fun q => some (Value.int q)) hc6.1, congrArg (fun q => some (Value.int q)) hc7.1, trivial⟩ ?_
      refine j_aload_n C dX9_compare_17 rfl rfl ?_
      refine j_getR C dX9_compare_18 (fx_RX9_13 D kc ad n) (show 11 ≤ 215 by decide) (show 215 < n by omega) ?_
      refine j_iload_n C dX9_compare_21 rfl rfl ?_
      refine x_aald35 C dX9_compare_22 (by omega) (by omega) ?_
      refine j_aload_n C dX9_compare_23 rfl rfl ?_
      refine j_getR C dX9_compare_24 (fx_RX9_13 D kc ad n) (show 11 ≤ 215 by decide) (show 215 < n by omega) ?_
      refine j_iload_n C dX9_compare_27 rfl rfl ?_
      refine x_aald35 C dX9_compare_28 (by omega) (by omega) ?_
      refine j_callS1 C dX9_compare_29 (k_X8_order l D kc ad n (by omega) (11 + a.toNatClampNeg) (sl_wa (n := n) a.toNatClampNeg (by omega) (by omega)).1 (11 + b.toNatClampNeg) (sl_wa (n := n) b.toNatClampNeg (by omega) (by omega)).1 _ ) zy_X8_order mw_23_0 rfl rfl (Nat.le_of_ble_eq_true rfl) ⟨rfl, rfl, Nat.le_of_ble_eq_true rfl, Nat.le_of_ble_eq_true rfl⟩ ?_
      exact j_iret (st := []) C R0 dX9_compare_32 ⟨(by rw [hA3, hA5]; unfold fX9_compare_a2; (try dsimp only); all_goals ((try simp only [zfst_mk, zsnd_mk]); all_goals rfl)), ((by rfl))⟩
    · have hA8 : fX9_compare_a4 a b s0 = fX9_compare_a3 s0 := by have q4z := q4; (try dsimp only at q4z); unfold fX9_compare_a4; (try dsimp only); rw [q4z, cond_false]; (try rfl)
      refine j_bipush (v := -101) C dX9_compare_14 (by decide +kernel) ?_
      exact j_iret (st := []) C R0 dX9_compare_16 ⟨(by rw [hA3, hA8]; unfold fX9_compare_a3; (try dsimp only); all_goals ((try simp only [zfst_mk, zsnd_mk]); all_goals rfl)), ((by rfl))⟩

def fX9_scalar_a1 (s0 : zSt) : Int32 × zSt :=
    ((-101 : Int32), s0)
def fX9_scalar_a2 (s0 : zSt) : Int32 × zSt :=
    ((-101 : Int32), s0)
def fX9_scalar_a3 (s0 : zSt) : Int32 × zSt :=
    ((-101 : Int32), s0)
def fX9_scalar_a4 (a : Int32) (b : Int32) (c0 : Int32) (u : Int32) (s0 : zSt) : Int32 × zSt :=
    let t16 := fX4_multiplyAndAdd (11 + a.toNatClampNeg) (11 + b.toNatClampNeg) (11 + c0.toNatClampNeg) (11 + u.toNatClampNeg) s0
    (nI (1), t16)
def fX9_scalar_a5 (s0 : zSt) : Int32 × zSt :=
    ((-101 : Int32), s0)
def fX9_scalar_a6 (a : Int32) (b : Int32) (c0 : Int32) (u : Int32) (s0 : zSt) : Int32 × zSt :=
    bif (vX9_isSlot u s0) then
      fX9_scalar_a4 a b c0 u s0
    else
      fX9_scalar_a5 s0
def fX9_scalar_a7 (a : Int32) (b : Int32) (c0 : Int32) (u : Int32) (s0 : zSt) : Int32 × zSt :=
    bif (vX9_isSlot c0 s0) then
      fX9_scalar_a6 a b c0 u s0
    else
      fX9_scalar_a3 s0
def fX9_scalar_a8 (a : Int32) (b : Int32) (c0 : Int32) (u : Int32) (s0 : zSt) : Int32 × zSt :=
    bif (vX9_isSlot b s0) then
      fX9_scalar_a7 a b c0 u s0
    else
      fX9_scalar_a2 s0
def fX9_scalar (a : Int32) (b : Int32) (c0 : Int32) (u : Int32) (s0 : zSt) : Int32 × zSt :=
    bif (vX9_isSlot a s0) then
      fX9_scalar_a8 a b c0 u s0
    else
      fX9_scalar_a1 s0
set_option maxHeartbeats 4000000 in
set_option maxRecDepth 100000 in
theorem k_X9_scalar (l : Launch) (D : va_G) (kc : Nat → ClassId) (ad : Nat → Nat) (n : Nat) (hn : 216 ≤ n) (a : Int32) (b : Int32) (c0 : Int32) (u : Int32) (s0 : zSt) : zM l yX9_scalar cX9_scalar 5 (some .int) rX9_scalar (wX D kc ad n) [.ref (zad (wX D kc ad n) 215), .int a, .int b, .int c0, .int u] s0 (zV1 (.int (zfst (fX9_scalar a b c0 u s0))) (zsnd (fX9_scalar a b c0 u s0))) := by
  refine z_of (own := RX9) (by decide +kernel) rfl (Nat.le_of_ble_eq_true rfl) ?_
  intro κ C R0
  refine j_at [(0, .ref (zad (wX D kc ad n) 215)), (1, .int a), (2, .int b), (3, .int c0), (4, .int u)] ⟨rfl, rfl, rfl, rfl, rfl, trivial⟩ ?_
  refine j_iload_n C dX9_scalar_0 rfl rfl ?_
  refine j_callS1 C dX9_scalar_1 (k_X9_isSlot l D kc ad n (by omega) (a) _ ) zy_X9_isSlot mw_14_17 rfl rfl (Nat.le_of_ble_eq_true rfl) ⟨rfl, rfl, Nat.le_of_ble_eq_true rfl, Nat.le_of_ble_eq_true rfl⟩ ?_
  refine j_if_eqB (tgt := 29) C dX9_scalar_4 (by decide) (fun q1 => ?_) (fun q1 => ?_)
  · have hA2 : fX9_scalar a b c0 u s0 = fX9_scalar_a1 s0 := by have q1z := q1; (try dsimp only at q1z); unfold fX9_scalar; (try dsimp only); rw [q1z, cond_false]; (try rfl)
    refine j_bipush (v := -101) C dX9_scalar_29 (by decide +kernel) ?_
    exact j_iret (st := []) C R0 dX9_scalar_31 ⟨(by rw [hA2]; unfold fX9_scalar_a1; (try dsimp only); all_goals ((try simp only [zfst_mk, zsnd_mk]); all_goals rfl)), ((by rw [hA2]; unfold fX9_scalar_a1; (try dsimp only); all_goals ((try simp only [zfst_mk, zsnd_mk]); all_goals rfl)))⟩
  · have hA3 : fX9_scalar a b c0 u s0 = fX9_scalar_a8 a b c0 u s0 := by have q1z := q1; (try dsimp only at q1z); unfold fX9_scalar; (try dsimp only); rw [q1z, cond_true]; (try rfl)
    refine j_iload_n C dX9_scalar_7 rfl rfl ?_
    refine j_callS1 C dX9_scalar_8 (k_X9_isSlot l D kc ad n (by omega) (b) _ ) zy_X9_isSlot mw_14_17 rfl rfl (Nat.le_of_ble_eq_true rfl) ⟨rfl, rfl, Nat.le_of_ble_eq_true rfl, Nat.le_of_ble_eq_true rfl⟩ ?_
    refine j_if_eqB (tgt := 29) C dX9_scalar_11 (by decide) (fun q4 => ?_) (fun q4 => ?_)
    · have hA5 : fX9_scalar_a8 a b c0 u s0 = fX9_scalar_a2 s0 := by have q4z := q4; (try dsimp only at q4z); unfold fX9_scalar_a8; (try dsimp only); rw [q4z, cond_false]; (try rfl)
      refine j_bipush (v := -101) C dX9_scalar_29 (by decide +kernel) ?_
      exact j_iret (st := []) C R0 dX9_scalar_31 ⟨(by rw [hA3, hA5]; unfold fX9_scalar_a2; (try dsimp only); all_goals ((try simp only [zfst_mk, zsnd_mk]); all_goals rfl)), ((by rw [hA3, hA5]; unfold fX9_scalar_a2; (try dsimp only); all_goals ((try simp only [zfst_mk, zsnd_mk]); all_goals rfl)))⟩
    · have hA6 : fX9_scalar_a8 a b c0 u s0 = fX9_scalar_a7 a b c0 u s0 := by have q4z := q4; (try dsimp only at q4z); unfold fX9_scalar_a8; (try dsimp only); rw [q4z, cond_true]; (try rfl)
      refine j_iload_n C dX9_scalar_14 rfl rfl ?_
      refine j_callS1 C dX9_scalar_15 (k_X9_isSlot l D kc ad n (by omega) (c0) _ ) zy_X9_isSlot mw_14_17 rfl rfl (Nat.le_of_ble_eq_true rfl) ⟨rfl, rfl, Nat.le_of_ble_eq_true rfl, Nat.le_of_ble_eq_true rfl⟩ ?_
      refine j_if_eqB (tgt := 29) C dX9_scalar_18 (by decide) (fun q7 => ?_) (fun q7 => ?_)
      · have hA8 : fX9_scalar_a7 a b c0 u s0 = fX9_scalar_a3 s0 := by have q7z := q7; (try dsimp only at q7z); unfold fX9_scalar_a7; (try dsimp only); rw [q7z, cond_false]; (try rfl)
        refine j_bipush (v := -101) C dX9_scalar_29 (by decide +kernel) ?_
        exact j_iret (st := []) C R0 dX9_scalar_31 ⟨(by rw [hA3, hA6, hA8]; unfold fX9_scalar_a3; (try dsimp only); all_goals ((try simp only [zfst_mk, zsnd_mk]); all_goals rfl)), ((by rw [hA3, hA6, hA8]; unfold fX9_scalar_a3; (try dsimp only); all_goals ((try simp only [zfst_mk, zsnd_mk]); all_goals rfl)))⟩
      · have hA9 : fX9_scalar_a7 a b c0 u s0 = fX9_scalar_a6 a b c0 u s0 := by have q7z := q7; (try dsimp only at q7z); unfold fX9_scalar_a7; (try dsimp only); rw [q7z, cond_true]; (try rfl)
        refine j_iload C dX9_scalar_21 rfl ?_
        refine j_callS1 C dX9_scalar_23 (k_X9_isSlot l D kc ad n (by omega) (u) _ ) zy_X9_isSlot mw_14_17 rfl rfl (Nat.le_of_ble_eq_true rfl) ⟨rfl, rfl, Nat.le_of_ble_eq_true rfl, Nat.le_of_ble_eq_true rfl⟩ ?_
        refine j_if_neB (tgt := 32) C dX9_scalar_26 (by decide) (fun q10 => ?_) (fun q10 => ?_)
        · have hA11 : fX9_scalar_a6 a b c0 u s0 = fX9_scalar_a4 a b c0 u s0 := by have q10z := q10; (try dsimp only at q10z); unfold fX9_scalar_a6; (try dsimp only); rw [q10z, cond_true]; (try rfl)
          have hc12 := sl_of (x := a) (by assumption)
          have hc12b := hc12.2
          have hc13 := sl_of (x := b) (by assumption)
          have hc13b := hc13.2
          have hc14 := sl_of (x := c0) (by assumption)
          have hc14b := hc14.2
          have hc15 := sl_of (x := u) (by assumption)
          have hc15b := hc15.2
          refine j_at [(0, .ref (zad (wX D kc ad n) 215)), (1, .int (nI (a.toNatClampNeg))), (2, .int (nI (b.toNatClampNeg))), (3, .int (nI (c0.toNatClampNeg))), (4, .int (nI (u.toNatClampNeg)))] ⟨rfl, congrArg (fun q => some (Value.int q)) hc12.1, congrArg (fun q => some (Value.int q)) hc13.1, congrArg (fun q => some (Value.int q)) hc14.1, congrArg (fun q => some (Value.int q)) hc15.1, trivial⟩ ?_
          refine j_aload_n C dX9_scalar_32 rfl rfl ?_
          refine j_getR C dX9_scalar_33 (fx_RX9_46 D kc ad n) (show 11 ≤ 215 by decide) (show 215 < n by omega) ?_
          refine j_aload_n C dX9_scalar_36 rfl rfl ?_
          refine j_getR C dX9_scalar_37 (fx_RX9_13 D kc ad n) (show 11 ≤ 215 by decide) (show 215 < n by omega) ?_
          refine j_iload_n C dX9_scalar_40 rfl rfl ?_
          refine x_aald35 C dX9_scalar_41 (by omega) (by omega) ?_
          refine j_aload_n C dX9_scalar_42 rfl rfl ?_
          refine j_getR C dX9_scalar_43 (fx_RX9_13 D kc ad n) (show 11 ≤ 215 by decide) (show 215 < n by omega) ?_
          refine j_iload_n C dX9_scalar_46 rfl rfl ?_
          refine x_aald35 C dX9_scalar_47 (by omega) (by omega) ?_
          refine j_aload_n C dX9_scalar_48 rfl rfl ?_
          refine j_getR C dX9_scalar_49 (fx_RX9_13 D kc ad n) (show 11 ≤ 215 by decide) (show 215 < n by omega) ?_
          refine j_iload_n C dX9_scalar_52 rfl rfl ?_
          refine x_aald35 C dX9_scalar_53 (by omega) (by omega) ?_
          refine j_aload_n C dX9_scalar_54 rfl rfl ?_
          refine j_getR C dX9_scalar_55 (fx_RX9_13 D kc ad n) (show 11 ≤ 215 by decide) (show 215 < n by omega) ?_
          refine j_iload C dX9_scalar_58 rfl ?_
          refine x_aald35 C dX9_scalar_60 (by omega) (by omega) ?_
          refine j_callV0 (T := TX4) (N := 3) C dX9_scalar_61 (k_X4_multiplyAndAdd l D kc ad n (by omega) (11 + a.toNatClampNeg) (sl_wa (n := n) a.toNatClampNeg (by omega) (by omega)).1 (11 + b.toNatClampNeg) (sl_wa (n := n) b.toNatClampNeg (by omega) (by omega)).1 (11 + c0.toNatClampNeg) (sl_wa (n := n) c0.toNatClampNeg (by omega) (by omega)).1 (11 + u.toNatClampNeg) (sl_wa (n := n) u.toNatClampNeg (by omega) (by omega)) _ ) zy_X4_multiplyAndAdd mw_24_9 rfl rfl (show 11 ≤ 66 by decide) (show 66 < n by omega) rfl rfl (Nat.le_of_ble_eq_true rfl) ⟨rfl, rfl, Nat.le_of_ble_eq_true rfl, Nat.le_of_ble_eq_true rfl⟩ ?_
          refine j_nmS (fun t16 et16 => ?_)
          refine j_iconst (v := nI 1) C dX9_scalar_64 (by decide +kernel) ?_
          exact j_iret (st := []) C R0 dX9_scalar_65 ⟨(by rw [hA3, hA6, hA9, hA11]; (try rw [et16]); unfold fX9_scalar_a4; (try dsimp only); all_goals ((try simp only [zfst_mk, zsnd_mk]); all_goals rfl)), ((by rw [hA3, hA6, hA9, hA11]; (try rw [et16]); unfold fX9_scalar_a4; (try dsimp only); all_goals ((try simp only [zfst_mk, zsnd_mk]); all_goals rfl)))⟩
        · have hA17 : fX9_scalar_a6 a b c0 u s0 = fX9_scalar_a5 s0 := by have q10z := q10; (try dsimp only at q10z); unfold fX9_scalar_a6; (try dsimp only); rw [q10z, cond_false]; (try rfl)
          refine j_bipush (v := -101) C dX9_scalar_29 (by decide +kernel) ?_
          exact j_iret (st := []) C R0 dX9_scalar_31 ⟨(by rw [hA3, hA6, hA9, hA17]; unfold fX9_scalar_a5; (try dsimp only); all_goals ((try simp only [zfst_mk, zsnd_mk]); all_goals rfl)), ((by rw [hA3, hA6, hA9, hA17]; unfold fX9_scalar_a5; (try dsimp only); all_goals ((try simp only [zfst_mk, zsnd_mk]); all_goals rfl)))⟩
theorem k2q_fX9_scalar_a1 (s0 : zSt) : zk2s (fX9_scalar_a1 s0) = zk2 s0 := by
  unfold fX9_scalar_a1
  (try dsimp only)
  all_goals (simp only [zW_2, zL_2, zk2s_mk]; done)
theorem k2_fX9_scalar_a1 (s0 : zSt) : zk2 (zsnd (fX9_scalar_a1 s0)) = zk2 s0 := k2q_fX9_scalar_a1 s0
theorem k2q_fX9_scalar_a2 (s0 : zSt) : zk2s (fX9_scalar_a2 s0) = zk2 s0 := by
  unfold fX9_scalar_a2
  (try dsimp only)
  all_goals (simp only [zW_2, zL_2, zk2s_mk]; done)
theorem k2_fX9_scalar_a2 (s0 : zSt) : zk2 (zsnd (fX9_scalar_a2 s0)) = zk2 s0 := k2q_fX9_scalar_a2 s0
theorem k2q_fX9_scalar_a3 (s0 : zSt) : zk2s (fX9_scalar_a3 s0) = zk2 s0 := by
  unfold fX9_scalar_a3
  (try dsimp only)
  all_goals (simp only [zW_2, zL_2, zk2s_mk]; done)
theorem k2_fX9_scalar_a3 (s0 : zSt) : zk2 (zsnd (fX9_scalar_a3 s0)) = zk2 s0 := k2q_fX9_scalar_a3 s0
theorem k2q_fX9_scalar_a4 (a : Int32) (b : Int32) (c0 : Int32) (u : Int32) (s0 : zSt) : zk2s (fX9_scalar_a4 a b c0 u s0) = zk2 s0 := by
  unfold fX9_scalar_a4
  (try dsimp only)
  all_goals (simp only [zW_2, zL_2, k2_fX4_multiplyAndAdd, zk2s_mk]; done)
theorem k2_fX9_scalar_a4 (a : Int32) (b : Int32) (c0 : Int32) (u : Int32) (s0 : zSt) : zk2 (zsnd (fX9_scalar_a4 a b c0 u s0)) = zk2 s0 := k2q_fX9_scalar_a4 a b c0 u s0
theorem k2q_fX9_scalar_a5 (s0 : zSt) : zk2s (fX9_scalar_a5 s0) = zk2 s0 := by
  unfold fX9_scalar_a5
  (try dsimp only)
  all_goals (simp only [zW_2, zL_2, zk2s_mk]; done)
theorem k2_fX9_scalar_a5 (s0 : zSt) : zk2 (zsnd (fX9_scalar_a5 s0)) = zk2 s0 := k2q_fX9_scalar_a5 s0
theorem k2q_fX9_scalar_a6 (a : Int32) (b : Int32) (c0 : Int32) (u : Int32) (s0 : zSt) : zk2s (fX9_scalar_a6 a b c0 u s0) = zk2 s0 := by
  unfold fX9_scalar_a6
  (try dsimp only)
  all_goals (refine cond_keep (fun r : Int32 × zSt => zk2s r) _ ?_ ?_ <;> (simp only [zW_2, zL_2, k2_fX9_scalar_a4, k2_fX9_scalar_a5, k2q_fX9_scalar_a4, k2q_fX9_scalar_a5, zk2s_mk]; done))
theorem k2_fX9_scalar_a6 (a : Int32) (b : Int32) (c0 : Int32) (u : Int32) (s0 : zSt) : zk2 (zsnd (fX9_scalar_a6 a b c0 u s0)) = zk2 s0 := k2q_fX9_scalar_a6 a b c0 u s0
theorem k2q_fX9_scalar_a7 (a : Int32) (b : Int32) (c0 : Int32) (u : Int32) (s0 : zSt) : zk2s (fX9_scalar_a7 a b c0 u s0) = zk2 s0 := by
  unfold fX9_scalar_a7
  (try dsimp only)
  all_goals (refine cond_keep (fun r : Int32 × zSt => zk2s r) _ ?_ ?_ <;> (simp only [zW_2, zL_2, k2_fX9_scalar_a3, k2_fX9_scalar_a6, k2q_fX9_scalar_a3, k2q_fX9_scalar_a6, zk2s_mk]; done))
theorem k2_fX9_scalar_a7 (a : Int32) (b : Int32) (c0 : Int32) (u : Int32) (s0 : zSt) : zk2 (zsnd (fX9_scalar_a7 a b c0 u s0)) = zk2 s0 := k2q_fX9_scalar_a7 a b c0 u s0
theorem k2q_fX9_scalar_a8 (a : Int32) (b : Int32) (c0 : Int32) (u : Int32) (s0 : zSt) : zk2s (fX9_scalar_a8 a b c0 u s0) = zk2 s0 := by
  unfold fX9_scalar_a8
  (try dsimp only)
  all_goals (refine cond_keep (fun r : Int32 × zSt => zk2s r) _ ?_ ?_ <;> (simp only [zW_2, zL_2, k2_fX9_scalar_a2, k2_fX9_scalar_a7, k2q_fX9_scalar_a2, k2q_fX9_scalar_a7, zk2s_mk]; done))
theorem k2_fX9_scalar_a8 (a : Int32) (b : Int32) (c0 : Int32) (u : Int32) (s0 : zSt) : zk2 (zsnd (fX9_scalar_a8 a b c0 u s0)) = zk2 s0 := k2q_fX9_scalar_a8 a b c0 u s0
theorem k2q_fX9_scalar (a : Int32) (b : Int32) (c0 : Int32) (u : Int32) (s0 : zSt) : zk2s (fX9_scalar a b c0 u s0) = zk2 s0 := by
  unfold fX9_scalar
  (try dsimp only)
  all_goals (refine cond_keep (fun r : Int32 × zSt => zk2s r) _ ?_ ?_ <;> (simp only [zW_2, zL_2, k2_fX9_scalar_a1, k2_fX9_scalar_a8, k2q_fX9_scalar_a1, k2q_fX9_scalar_a8, zk2s_mk]; done))
theorem k2_fX9_scalar (a : Int32) (b : Int32) (c0 : Int32) (u : Int32) (s0 : zSt) : zk2 (zsnd (fX9_scalar a b c0 u s0)) = zk2 s0 := k2q_fX9_scalar a b c0 u s0
theorem i2_fX9_scalar (a : Int32) (b : Int32) (c0 : Int32) (u : Int32) (s0 : zSt) (kk9 : Nat) : (zsnd (fX9_scalar a b c0 u s0)).2.2 kk9 = s0.2.2 kk9 := z2_I (k2_fX9_scalar a b c0 u s0) kk9
theorem i3_fX9_scalar (a : Int32) (b : Int32) (c0 : Int32) (u : Int32) (s0 : zSt) (kk9 : Nat) : zi (zsnd (fX9_scalar a b c0 u s0)) kk9 = zi s0 kk9 := zi_of (k2_fX9_scalar a b c0 u s0) kk9

def fX9_isPoint_a1 (v : Int32) (s0 : zSt) : Int32 × zSt :=
    let t4 := zsnd (fX0_read (11 + v.toNatClampNeg) 205 s0)
    (vX9_told (zfst (fX0_read (11 + v.toNatClampNeg) 205 s0)) t4, t4)
def fX9_isPoint_a2 (s0 : zSt) : Int32 × zSt :=
    ((-101 : Int32), s0)
def fX9_isPoint (v : Int32) (s0 : zSt) : Int32 × zSt :=
    bif (vX9_isSlot v s0) then
      fX9_isPoint_a1 v s0
    else
      fX9_isPoint_a2 s0
set_option maxHeartbeats 4000000 in
set_option maxRecDepth 100000 in
theorem k_X9_isPoint (l : Launch) (D : va_G) (kc : Nat → ClassId) (ad : Nat → Nat) (n : Nat) (hn : 216 ≤ n) (v : Int32) (s0 : zSt) : zM l yX9_isPoint cX9_isPoint 2 (some .int) rX9_isPoint (wX D kc ad n) [.ref (zad (wX D kc ad n) 215), .int v] s0 (zV1 (.int (zfst (fX9_isPoint v s0))) (zsnd (fX9_isPoint v s0))) := by
  refine z_of (own := RX9) (by decide +kernel) rfl (Nat.le_of_ble_eq_true rfl) ?_
  intro κ C R0
  refine j_at [(0, .ref (zad (wX D kc ad n) 215)), (1, .int v)] ⟨rfl, rfl, trivial⟩ ?_
  refine j_iload_n C dX9_isPoint_0 rfl rfl ?_
  refine j_callS1 C dX9_isPoint_1 (k_X9_isSlot l D kc ad n (by omega) (v) _ ) zy_X9_isSlot mw_14_17 rfl rfl (Nat.le_of_ble_eq_true rfl) ⟨rfl, rfl, Nat.le_of_ble_eq_true rfl, Nat.le_of_ble_eq_true rfl⟩ ?_
  refine j_if_neB (tgt := 10) C dX9_isPoint_4 (by decide) (fun q1 => ?_) (fun q1 => ?_)
  · have hA2 : fX9_isPoint v s0 = fX9_isPoint_a1 v s0 := by have q1z := q1; (try dsimp only at q1z); unfold fX9_isPoint; (try dsimp only); rw [q1z, cond_true]; (try rfl)
    have hc3 := sl_of (x := v) (by assumption)
    have hc3b := hc3.2
    refine j_at [(0, .ref (zad (wX D kc ad n) 215)), (1, .int (nI (v.toNatClampNeg)))] ⟨rfl, congrArg (fun q => some (Value.int q)) hc3.1, trivial⟩ ?_
    refine j_aload_n C dX9_isPoint_10 rfl rfl ?_
    refine j_getR C dX9_isPoint_11 (fx_RX9_55 D kc ad n) (show 11 ≤ 215 by decide) (show 215 < n by omega) ?_
    refine j_aload_n C dX9_isPoint_14 rfl rfl ?_
    refine j_getR C dX9_isPoint_15 (fx_RX9_13 D kc ad n) (show 11 ≤ 215 by decide) (show 215 < n by omega) ?_
    refine j_iload_n C dX9_isPoint_18 rfl rfl ?_
    refine x_aald35 C dX9_isPoint_19 (by omega) (by omega) ?_
    refine j_aload_n C dX9_isPoint_20 rfl rfl ?_
    refine j_getR C dX9_isPoint_21 (fx_RX9_95 D kc ad n) (show 11 ≤ 215 by decide) (show 215 < n by omega) ?_
    refine j_callV1 (T := TX0) (N := 14) C dX9_isPoint_24 (k_X0_read l D kc ad n (by omega) (11 + v.toNatClampNeg) (sl_wa (n := n) v.toNatClampNeg (by omega) (by omega)).1 205 (by decide) (by omega) _ ) zy_X0_read mw_26_5 rfl rfl (show 11 ≤ 83 by decide) (show 83 < n by omega) rfl rfl (Nat.le_of_ble_eq_true rfl) ⟨rfl, rfl, Nat.le_of_ble_eq_true rfl, Nat.le_of_ble_eq_true rfl⟩ ?_
    refine j_nmS (fun t4 et4 => ?_)
    refine j_callS1 C dX9_isPoint_27 (k_X9_told l D kc ad n (by omega) (zfst (fX0_read (11 + v.toNatClampNeg) 205 s0)) _ ) zy_X9_told mw_23_4 rfl rfl (Nat.le_of_ble_eq_true rfl) ⟨rfl, rfl, Nat.le_of_ble_eq_true rfl, Nat.le_of_ble_eq_true rfl⟩ ?_
    exact j_iret (st := []) C R0 dX9_isPoint_30 ⟨(by rw [hA2]; (try rw [et4]); unfold fX9_isPoint_a1; (try dsimp only); all_goals ((try simp only [zfst_mk, zsnd_mk]); all_goals rfl)), ((by rw [hA2]; (try rw [et4]); unfold fX9_isPoint_a1; (try dsimp only); all_goals ((try simp only [zfst_mk, zsnd_mk]); all_goals rfl)))⟩
  · have hA5 : fX9_isPoint v s0 = fX9_isPoint_a2 s0 := by have q1z := q1; (try dsimp only at q1z); unfold fX9_isPoint; (try dsimp only); rw [q1z, cond_false]; (try rfl)
    refine j_bipush (v := -101) C dX9_isPoint_7 (by decide +kernel) ?_
    exact j_iret (st := []) C R0 dX9_isPoint_9 ⟨(by rw [hA5]; unfold fX9_isPoint_a2; (try dsimp only); all_goals ((try simp only [zfst_mk, zsnd_mk]); all_goals rfl)), ((by rw [hA5]; unfold fX9_isPoint_a2; (try dsimp only); all_goals ((try simp only [zfst_mk, zsnd_mk]); all_goals rfl)))⟩
theorem k2q_fX9_isPoint_a1 (v : Int32) (s0 : zSt) : zk2s (fX9_isPoint_a1 v s0) = zk2 s0 := by
  unfold fX9_isPoint_a1
  (try dsimp only)
  all_goals (simp only [zW_2, zL_2, k2_fX0_read, k2q_fX0_read, zk2s_mk]; done)
theorem k2_fX9_isPoint_a1 (v : Int32) (s0 : zSt) : zk2 (zsnd (fX9_isPoint_a1 v s0)) = zk2 s0 := k2q_fX9_isPoint_a1 v s0
theorem k2q_fX9_isPoint_a2 (s0 : zSt) : zk2s (fX9_isPoint_a2 s0) = zk2 s0 := by
  unfold fX9_isPoint_a2
  (try dsimp only)
  all_goals (simp only [zW_2, zL_2, zk2s_mk]; done)
theorem k2_fX9_isPoint_a2 (s0 : zSt) : zk2 (zsnd (fX9_isPoint_a2 s0)) = zk2 s0 := k2q_fX9_isPoint_a2 s0
theorem k2q_fX9_isPoint (v : Int32) (s0 : zSt) : zk2s (fX9_isPoint v s0) = zk2 s0 := by
  unfold fX9_isPoint
  (try dsimp only)
  all_goals (refine cond_keep (fun r : Int32 × zSt => zk2s r) _ ?_ ?_ <;> (simp only [zW_2, zL_2, k2_fX9_isPoint_a1, k2_fX9_isPoint_a2, k2q_fX9_isPoint_a1, k2q_fX9_isPoint_a2, zk2s_mk]; done))
theorem k2_fX9_isPoint (v : Int32) (s0 : zSt) : zk2 (zsnd (fX9_isPoint v s0)) = zk2 s0 := k2q_fX9_isPoint v s0
theorem i2_fX9_isPoint (v : Int32) (s0 : zSt) (kk9 : Nat) : (zsnd (fX9_isPoint v s0)).2.2 kk9 = s0.2.2 kk9 := z2_I (k2_fX9_isPoint v s0) kk9
theorem i3_fX9_isPoint (v : Int32) (s0 : zSt) (kk9 : Nat) : zi (zsnd (fX9_isPoint v s0)) kk9 = zi s0 kk9 := zi_of (k2_fX9_isPoint v s0) kk9

def fX9_across_a1 (s0 : zSt) : Int32 × zSt :=
    ((-101 : Int32), s0)
def fX9_across_a2 (u : Int32) (t8 : zSt) : Int32 × zSt :=
    let t11 := fX1_store (205 + 0) (11 + u.toNatClampNeg) t8
    (nI (1), t11)
def fX9_across_a3 (t8 : zSt) : Int32 × zSt :=
    ((-1 : Int32), t8)
def fX9_across_a4 (v : Int32) (u : Int32) (s0 : zSt) : Int32 × zSt :=
    let t8 := zsnd (fX0_read (11 + v.toNatClampNeg) 205 s0)
    bif (zfst (fX0_read (11 + v.toNatClampNeg) 205 s0)) then
      fX9_across_a2 u t8
    else
      fX9_across_a3 t8
def fX9_across_a5 (s0 : zSt) : Int32 × zSt :=
    ((-101 : Int32), s0)
def fX9_across_a6 (v : Int32) (u : Int32) (s0 : zSt) : Int32 × zSt :=
    bif (vX9_isSlot u s0) then
      fX9_across_a4 v u s0
    else
      fX9_across_a5 s0
def fX9_across (v : Int32) (u : Int32) (s0 : zSt) : Int32 × zSt :=
    bif (vX9_isSlot v s0) then
      fX9_across_a6 v u s0
    else
      fX9_across_a1 s0
set_option maxHeartbeats 4000000 in
set_option maxRecDepth 100000 in
theorem k_X9_across (l : Launch) (D : va_G) (kc : Nat → ClassId) (ad : Nat → Nat) (n : Nat) (hn : 216 ≤ n) (v : Int32) (u : Int32) (s0 : zSt) : zM l yX9_across cX9_across 3 (some .int) rX9_across (wX D kc ad n) [.ref (zad (wX D kc ad n) 215), .int v, .int u] s0 (zV1 (.int (zfst (fX9_across v u s0))) (zsnd (fX9_across v u s0))) := by
  refine z_of (own := RX9) (by decide +kernel) rfl (Nat.le_of_ble_eq_true rfl) ?_
  intro κ C R0
  refine j_at [(0, .ref (zad (wX D kc ad n) 215)), (1, .int v), (2, .int u)] ⟨rfl, rfl, rfl, trivial⟩ ?_
  refine j_iload_n C dX9_across_0 rfl rfl ?_
  refine j_callS1 C dX9_across_1 (k_X9_isSlot l D kc ad n (by omega) (v) _ ) zy_X9_isSlot mw_14_17 rfl rfl (Nat.le_of_ble_eq_true rfl) ⟨rfl, rfl, Nat.le_of_ble_eq_true rfl, Nat.le_of_ble_eq_true rfl⟩ ?_
  refine j_if_eqB (tgt := 14) C dX9_across_4 (by decide) (fun q1 => ?_) (fun q1 => ?_)
  · have hA2 : fX9_across v u s0 = fX9_across_a1 s0 := by have q1z := q1; (try dsimp only at q1z); unfold fX9_across; (try dsimp only); rw [q1z, cond_false]; (try rfl)
    refine j_bipush (v := -101) C dX9_across_14 (by decide +kernel) ?_
    exact j_iret (st := []) C R0 dX9_across_16 ⟨(by rw [hA2]; unfold fX9_across_a1; (try dsimp only); all_goals ((try simp only [zfst_mk, zsnd_mk]); all_goals rfl)), ((by rw [hA2]; unfold fX9_across_a1; (try dsimp only); all_goals ((try simp only [zfst_mk, zsnd_mk]); all_goals rfl)))⟩
  · have hA3 : fX9_across v u s0 = fX9_across_a6 v u s0 := by have q1z := q1; (try dsimp only at q1z); unfold fX9_across; (try dsimp only); rw [q1z, cond_true]; (try rfl)
    refine j_iload_n C dX9_across_7 rfl rfl ?_
    refine j_callS1 C dX9_across_8 (k_X9_isSlot l D kc ad n (by omega) (u) _ ) zy_X9_isSlot mw_14_17 rfl rfl (Nat.le_of_ble_eq_true rfl) ⟨rfl, rfl, Nat.le_of_ble_eq_true rfl, Nat.le_of_ble_eq_true rfl⟩ ?_
    refine j_if_neB (tgt := 17) C dX9_across_11 (by decide) (fun q4 => ?_) (fun q4 => ?_)
    · have hA5 : fX9_across_a6 v u s0 = fX9_across_a4 v u s0 := by have q4z := q4; (try dsimp only at q4z); unfold fX9_across_a6; (try dsimp only); rw [q4z, cond_true]; (try rfl)
      have hc6 := sl_of (x := v) (by assumption)
      have hc6b := hc6.2
      have hc7 := sl_of (x := u) (by assumption)
      have hc7b := hc7.2
      refine j_at [(0, .ref (zad (wX D kc ad n) 215)), (1, .int (nI (v.toNatClampNeg))), (2, .int (nI (u.toNatClampNeg)))] ⟨rfl, congrArg (fun q => some (Value.int q)) hc6.1, congrArg (fun q => some (Value.int q)) hc7.1, trivial⟩ ?_
      refine j_aload_n C dX9_across_17 rfl rfl ?_
      refine j_getR C dX9_across_18 (fx_RX9_55 D kc ad n) (show 11 ≤ 215 by decide) (show 215 < n by omega) ?_
      refine j_aload_n C dX9_across_21 rfl rfl ?_
      refine j_getR C dX9_across_22 (fx_RX9_13 D kc ad n) (show 11 ≤ 215 by decide) (show 215 < n by omega) ?_
      refine j_iload_n C dX9_across_25 rfl rfl ?_
      refine x_aald35 C dX9_across_26 (by omega) (by omega) ?_
      refine j_aload_n C dX9_across_27 rfl rfl ?_
      refine j_getR C dX9_across_28 (fx_RX9_95 D kc ad n) (show 11 ≤ 215 by decide) (show 215 < n by omega) ?_
      refine j_callV1 (T := TX0) (N := 14) C dX9_across_31 (k_X0_read l D kc ad n (by omega) (11 + v.toNatClampNeg) (sl_wa (n := n) v.toNatClampNeg (by omega) (by omega)).1 205 (by decide) (by omega) _ ) zy_X0_read mw_26_5 rfl rfl (show 11 ≤ 83 by decide) (show 83 < n by omega) rfl rfl (Nat.le_of_ble_eq_true rfl) ⟨rfl, rfl, Nat.le_of_ble_eq_true rfl, Nat.le_of_ble_eq_true rfl⟩ ?_
      refine j_nmS (fun t8 et8 => ?_)
      refine j_if_neB (tgt := 39) C dX9_across_34 (by decide) (fun q9 => ?_) (fun q9 => ?_)
      · have hA10 : fX9_across_a4 v u s0 = fX9_across_a2 u t8 := by (try rw [et8]); have q9z := q9; (try rw [et8] at q9z); (try dsimp only at q9z); unfold fX9_across_a4; (try dsimp only); rw [q9z, cond_true]; (try rfl)
        refine j_aload_n C dX9_across_39 rfl rfl ?_
        refine j_getR C dX9_across_40 (fx_RX9_39 D kc ad n) (show 11 ≤ 215 by decide) (show 215 < n by omega) ?_
        refine j_aload_n C dX9_across_43 rfl rfl ?_
        refine j_getR C dX9_across_44 (fx_RX9_95 D kc ad n) (show 11 ≤ 215 by decide) (show 215 < n by omega) ?_
        refine j_getR C dX9_across_47 (fx_RX9_180 D kc ad n (P := 205) (by decide)) (pt_lo (P := 205) (by decide)) (show 205 + 4 < n by omega) ?_
        refine j_aload_n C dX9_across_50 rfl rfl ?_
        refine j_getR C dX9_across_51 (fx_RX9_13 D kc ad n) (show 11 ≤ 215 by decide) (show 215 < n by omega) ?_
        refine j_iload_n C dX9_across_54 rfl rfl ?_
        refine x_aald35 C dX9_across_55 (by omega) (by omega) ?_
        refine j_callV0 (T := TX1) (N := 8) C dX9_across_56 (k_X1_store l D kc ad n (by omega) (205 + 0) (pt_wa0 (P := 205) (by decide) (by omega) : wa n 10 (205 + 0)).1 (11 + u.toNatClampNeg) (sl_wa (n := n) u.toNatClampNeg (by omega) (by omega)) _ ) zy_X1_store mw_20_16 rfl rfl (show 11 ≤ 62 by decide) (show 62 < n by omega) rfl rfl (Nat.le_of_ble_eq_true rfl) ⟨rfl, rfl, Nat.le_of_ble_eq_true rfl, Nat.le_of_ble_eq_true rfl⟩ ?_
        refine j_nmS (fun t11 et11 => ?_)
        refine j_iconst (v := nI 1) C dX9_across_59 (by decide +kernel) ?_
        exact j_iret (st := []) C R0 dX9_across_60 ⟨(by rw [hA3, hA5, hA10]; (try rw [et11]); unfold fX9_across_a2; (try dsimp only); all_goals ((try simp only [zfst_mk, zsnd_mk]); all_goals rfl)), ((by rw [hA3, hA5, hA10]; (try rw [et11]); unfold fX9_across_a2; (try dsimp only); all_goals ((try simp only [zfst_mk, zsnd_mk]); all_goals rfl)))⟩
      · have hA12 : fX9_across_a4 v u s0 = fX9_across_a3 t8 := by (try rw [et8]); have q9z := q9; (try rw [et8] at q9z); (try dsimp only at q9z); unfold fX9_across_a4; (try dsimp only); rw [q9z, cond_false]; (try rfl)
        refine j_iconst (v := -1) C dX9_across_37 (by decide +kernel) ?_
        exact j_iret (st := []) C R0 dX9_across_38 ⟨(by rw [hA3, hA5, hA12]; unfold fX9_across_a3; (try dsimp only); all_goals ((try simp only [zfst_mk, zsnd_mk]); all_goals rfl)), ((by rw [hA3, hA5, hA12]; unfold fX9_across_a3; (try dsimp only); all_goals ((try simp only [zfst_mk, zsnd_mk]); all_goals rfl)))⟩
    · have hA13 : fX9_across_a6 v u s0 = fX9_across_a5 s0 := by have q4z := q4; (try dsimp only at q4z); unfold fX9_across_a6; (try dsimp only); rw [q4z, cond_false]; (try rfl)
      refine j_bipush (v := -101) C dX9_across_14 (by decide +kernel) ?_
      exact j_iret (st := []) C R0 dX9_across_16 ⟨(by rw [hA3, hA13]; unfold fX9_across_a5; (try dsimp only); all_goals ((try simp only [zfst_mk, zsnd_mk]); all_goals rfl)), ((by rw [hA3, hA13]; unfold fX9_across_a5; (try dsimp only); all_goals ((try simp only [zfst_mk, zsnd_mk]); all_goals rfl)))⟩
theorem k2q_fX9_across_a1 (s0 : zSt) : zk2s (fX9_across_a1 s0) = zk2 s0 := by
  unfold fX9_across_a1
  (try dsimp only)
  all_goals (simp only [zW_2, zL_2, zk2s_mk]; done)
theorem k2_fX9_across_a1 (s0 : zSt) : zk2 (zsnd (fX9_across_a1 s0)) = zk2 s0 := k2q_fX9_across_a1 s0
theorem k2q_fX9_across_a2 (u : Int32) (t8 : zSt) : zk2s (fX9_across_a2 u t8) = zk2 t8 := by
  unfold fX9_across_a2
  (try dsimp only)
  all_goals (simp only [zW_2, zL_2, k2_fX1_store, zk2s_mk]; done)
theorem k2_fX9_across_a2 (u : Int32) (t8 : zSt) : zk2 (zsnd (fX9_across_a2 u t8)) = zk2 t8 := k2q_fX9_across_a2 u t8
theorem k2q_fX9_across_a3 (t8 : zSt) : zk2s (fX9_across_a3 t8) = zk2 t8 := by
  unfold fX9_across_a3
  (try dsimp only)
  all_goals (simp only [zW_2, zL_2, zk2s_mk]; done)
theorem k2_fX9_across_a3 (t8 : zSt) : zk2 (zsnd (fX9_across_a3 t8)) = zk2 t8 := k2q_fX9_across_a3 t8
theorem k2q_fX9_across_a4 (v : Int32) (u : Int32) (s0 : zSt) : zk2s (fX9_across_a4 v u s0) = zk2 s0 := by
  unfold fX9_across_a4
  (try dsimp only)
  all_goals (refine cond_keep (fun r : Int32 × zSt => zk2s r) _ ?_ ?_ <;> (simp only [zW_2, zL_2, k2_fX0_read, k2_fX9_across_a2, k2_fX9_across_a3, k2q_fX0_read, k2q_fX9_across_a2, k2q_fX9_across_a3, zk2s_mk]; done))
theorem k2_fX9_across_a4 (v : Int32) (u : Int32) (s0 : zSt) : zk2 (zsnd (fX9_across_a4 v u s0)) = zk2 s0 := k2q_fX9_across_a4 v u s0
theorem k2q_fX9_across_a5 (s0 : zSt) : zk2s (fX9_across_a5 s0) = zk2 s0 := by
  unfold fX9_across_a5
  (try dsimp only)
  all_goals (simp only [zW_2, zL_2, zk2s_mk]; done)
theorem k2_fX9_across_a5 (s0 : zSt) : zk2 (zsnd (fX9_across_a5 s0)) = zk2 s0 := k2q_fX9_across_a5 s0
theorem k2q_fX9_across_a6 (v : Int32) (u : Int32) (s0 : zSt) : zk2s (fX9_across_a6 v u s0) = zk2 s0 := by
  unfold fX9_across_a6
  (try dsimp only)
  all_goals (refine cond_keep (fun r : Int32 × zSt => zk2s r) _ ?_ ?_ <;> (simp only [zW_2, zL_2, k2_fX9_across_a4, k2_fX9_across_a5, k2q_fX9_across_a4, k2q_fX9_across_a5, zk2s_mk]; done))
theorem k2_fX9_across_a6 (v : Int32) (u : Int32) (s0 : zSt) : zk2 (zsnd (fX9_across_a6 v u s0)) = zk2 s0 := k2q_fX9_across_a6 v u s0
theorem k2q_fX9_across (v : Int32) (u : Int32) (s0 : zSt) : zk2s (fX9_across v u s0) = zk2 s0 := by
  unfold fX9_across
  (try dsimp only)
  all_goals (refine cond_keep (fun r : Int32 × zSt => zk2s r) _ ?_ ?_ <;> (simp only [zW_2, zL_2, k2_fX9_across_a1, k2_fX9_across_a6, k2q_fX9_across_a1, k2q_fX9_across_a6, zk2s_mk]; done))
theorem k2_fX9_across (v : Int32) (u : Int32) (s0 : zSt) : zk2 (zsnd (fX9_across v u s0)) = zk2 s0 := k2q_fX9_across v u s0
theorem i2_fX9_across (v : Int32) (u : Int32) (s0 : zSt) (kk9 : Nat) : (zsnd (fX9_across v u s0)).2.2 kk9 = s0.2.2 kk9 := z2_I (k2_fX9_across v u s0) kk9
theorem i3_fX9_across (v : Int32) (u : Int32) (s0 : zSt) (kk9 : Nat) : zi (zsnd (fX9_across v u s0)) kk9 = zi s0 kk9 := zi_of (k2_fX9_across v u s0) kk9

def fX9_sum_a1 (s0 : zSt) : Int32 × zSt :=
    ((-101 : Int32), s0)
def fX9_sum_a2 (s0 : zSt) : Int32 × zSt :=
    ((-101 : Int32), s0)
def fX9_sum_a3 (t15 : zSt) : Int32 × zSt :=
    ((-1 : Int32), t15)
def fX9_sum_a4 (u : Int32) (t19 : zSt) : Int32 × zSt :=
    let t24 := fX0_add 205 210 205 t19
    let t25 := fX0_write 205 (11 + u.toNatClampNeg) t24
    (nI (1), t25)
def fX9_sum_a5 (u : Int32) (t19 : zSt) : Int32 × zSt :=
    let t27 := fX0_negate 210 t19
    let t28 := fX0_add 205 210 205 t27
    let t29 := fX0_write 205 (11 + u.toNatClampNeg) t28
    (nI (1), t29)
def fX9_sum_a6 (way : Int32) (u : Int32) (t19 : zSt) : Int32 × zSt :=
    if way.toNatClampNeg ≠ 1 then
      fX9_sum_a4 u t19
    else
      fX9_sum_a5 u t19
def fX9_sum_a7 (t19 : zSt) : Int32 × zSt :=
    ((-1 : Int32), t19)
def fX9_sum_a8 (way : Int32) (b : Int32) (u : Int32) (t15 : zSt) : Int32 × zSt :=
    let t19 := zsnd (fX0_read (11 + b.toNatClampNeg) 210 t15)
    bif (zfst (fX0_read (11 + b.toNatClampNeg) 210 t15)) then
      fX9_sum_a6 way u t19
    else
      fX9_sum_a7 t19
def fX9_sum_a9 (way : Int32) (a : Int32) (b : Int32) (u : Int32) (s0 : zSt) : Int32 × zSt :=
    let t15 := zsnd (fX0_read (11 + a.toNatClampNeg) 205 s0)
    bif (zfst (fX0_read (11 + a.toNatClampNeg) 205 s0)) then
      fX9_sum_a8 way b u t15
    else
      fX9_sum_a3 t15
def fX9_sum_a10 (s0 : zSt) : Int32 × zSt :=
    ((-102 : Int32), s0)
def fX9_sum_a11 (way : Int32) (a : Int32) (b : Int32) (u : Int32) (s0 : zSt) : Int32 × zSt :=
    bif (vX9_isWithin way (nI (2)) s0) then
      fX9_sum_a9 way a b u s0
    else
      fX9_sum_a10 s0
def fX9_sum_a12 (s0 : zSt) : Int32 × zSt :=
    ((-101 : Int32), s0)
def fX9_sum_a13 (way : Int32) (a : Int32) (b : Int32) (u : Int32) (s0 : zSt) : Int32 × zSt :=
    bif (vX9_isSlot u s0) then
      fX9_sum_a11 way a b u s0
    else
      fX9_sum_a12 s0
def fX9_sum_a14 (way : Int32) (a : Int32) (b : Int32) (u : Int32) (s0 : zSt) : Int32 × zSt :=
    bif (vX9_isSlot b s0) then
      fX9_sum_a13 way a b u s0
    else
      fX9_sum_a2 s0
def fX9_sum (way : Int32) (a : Int32) (b : Int32) (u : Int32) (s0 : zSt) : Int32 × zSt :=
    bif (vX9_isSlot a s0) then
      fX9_sum_a14 way a b u s0
    else
      fX9_sum_a1 s0
set_option maxHeartbeats 4000000 in
set_option maxRecDepth 100000 in
theorem k_X9_sum (l : Launch) (D : va_G) (kc : Nat → ClassId) (ad : Nat → Nat) (n : Nat) (hn : 216 ≤ n) (way : Int32) (a : Int32) (b : Int32) (u : Int32) (s0 : zSt) : zM l yX9_sum cX9_sum 5 (some .int) rX9_sum (wX D kc ad n) [.ref (zad (wX D kc ad n) 215), .int way, .int a, .int b, .int u] s0 (zV1 (.int (zfst (fX9_sum way a b u s0))) (zsnd (fX9_sum way a b u s0))) := by
  refine z_of (own := RX9) (by decide +kernel) rfl (Nat.le_of_ble_eq_true rfl) ?_
  intro κ C R0
  refine j_at [(0, .ref (zad (wX D kc ad n) 215)), (1, .int way), (2, .int a), (3, .int b), (4, .int u)] ⟨rfl, rfl, rfl, rfl, rfl, trivial⟩ ?_
  refine j_iload_n C dX9_sum_0 rfl rfl ?_
  refine j_callS1 C dX9_sum_1 (k_X9_isSlot l D kc ad n (by omega) (a) _ ) zy_X9_isSlot mw_14_17 rfl rfl (Nat.le_of_ble_eq_true rfl) ⟨rfl, rfl, Nat.le_of_ble_eq_true rfl, Nat.le_of_ble_eq_true rfl⟩ ?_
  refine j_if_eqB (tgt := 22) C dX9_sum_4 (by decide) (fun q1 => ?_) (fun q1 => ?_)
  · have hA2 : fX9_sum way a b u s0 = fX9_sum_a1 s0 := by have q1z := q1; (try dsimp only at q1z); unfold fX9_sum; (try dsimp only); rw [q1z, cond_false]; (try rfl)
    refine j_bipush (v := -101) C dX9_sum_22 (by decide +kernel) ?_
    exact j_iret (st := []) C R0 dX9_sum_24 ⟨(by rw [hA2]; unfold fX9_sum_a1; (try dsimp only); all_goals ((try simp only [zfst_mk, zsnd_mk]); all_goals rfl)), ((by rw [hA2]; unfold fX9_sum_a1; (try dsimp only); all_goals ((try simp only [zfst_mk, zsnd_mk]); all_goals rfl)))⟩
  · have hA3 : fX9_sum way a b u s0 = fX9_sum_a14 way a b u s0 := by have q1z := q1; (try dsimp only at q1z); unfold fX9_sum; (try dsimp only); rw [q1z, cond_true]; (try rfl)
    refine j_iload_n C dX9_sum_7 rfl rfl ?_
    refine j_callS1 C dX9_sum_8 (k_X9_isSlot l D kc ad n (by omega) (b) _ ) zy_X9_isSlot mw_14_17 rfl rfl (Nat.le_of_ble_eq_true rfl) ⟨rfl, rfl, Nat.le_of_ble_eq_true rfl, Nat.le_of_ble_eq_true rfl⟩ ?_
    refine j_if_eqB (tgt := 22) C dX9_sum_11 (by decide) (fun q4 => ?_) (fun q4 => ?_)
    · have hA5 : fX9_sum_a14 way a b u s0 = fX9_sum_a2 s0 := by have q4z := q4; (try dsimp only at q4z); unfold fX9_sum_a14; (try dsimp only); rw [q4z, cond_false]; (try rfl)
      refine j_bipush (v := -101) C dX9_sum_22 (by decide +kernel) ?_
      exact j_iret (st := []) C R0 dX9_sum_24 ⟨(by rw [hA3, hA5]; unfold fX9_sum_a2; (try dsimp only); all_goals ((try simp only [zfst_mk, zsnd_mk]); all_goals rfl)), ((by rw [hA3, hA5]; unfold fX9_sum_a2; (try dsimp only); all_goals ((try simp only [zfst_mk, zsnd_mk]); all_goals rfl)))⟩
    · have hA6 : fX9_sum_a14 way a b u s0 = fX9_sum_a13 way a b u s0 := by have q4z := q4; (try dsimp only at q4z); unfold fX9_sum_a14; (try dsimp only); rw [q4z, cond_true]; (try rfl)
      refine j_iload C dX9_sum_14 rfl ?_
      refine j_callS1 C dX9_sum_16 (k_X9_isSlot l D kc ad n (by omega) (u) _ ) zy_X9_isSlot mw_14_17 rfl rfl (Nat.le_of_ble_eq_true rfl) ⟨rfl, rfl, Nat.le_of_ble_eq_true rfl, Nat.le_of_ble_eq_true rfl⟩ ?_
      refine j_if_neB (tgt := 25) C dX9_sum_19 (by decide) (fun q7 => ?_) (fun q7 => ?_)
      · have hA8 : fX9_sum_a13 way a b u s0 = fX9_sum_a11 way a b u s0 := by have q7z := q7; (try dsimp only at q7z); unfold fX9_sum_a13; (try dsimp only); rw [q7z, cond_true]; (try rfl)
        refine j_iload_n C dX9_sum_25 rfl rfl ?_
        refine j_iconst (v := nI 2) C dX9_sum_26 (by decide +kernel) ?_
        refine j_callS1 C dX9_sum_27 (k_X9_isWithin l D kc ad n (by omega) (way) (nI (2)) _ ) zy_X9_isWithin mw_14_20 rfl rfl (Nat.le_of_ble_eq_true rfl) ⟨rfl, rfl, Nat.le_of_ble_eq_true rfl, Nat.le_of_ble_eq_true rfl⟩ ?_
        refine j_if_neB (tgt := 36) C dX9_sum_30 (by decide) (fun q9 => ?_) (fun q9 => ?_)
        · have hA10 : fX9_sum_a11 way a b u s0 = fX9_sum_a9 way a b u s0 := by have q9z := q9; (try dsimp only at q9z); unfold fX9_sum_a11; (try dsimp only); rw [q9z, cond_true]; (try rfl)
          have hc11 := wi_of (x := way) (b := 2) (by decide) (by assumption)
          have hc11b := hc11.2
          have hc12 := sl_of (x := a) (by assumption)
          have hc12b := hc12.2
          have hc13 := sl_of (x := b) (by assumption)
          have hc13b := hc13.2
          have hc14 := sl_of (x := u) (by assumption)
          have hc14b := hc14.2
          refine j_at [(0, .ref (zad (wX D kc ad n) 215)), (1, .int (nI (way.toNatClampNeg))), (2, .int (nI (a.toNatClampNeg))), (3, .int (nI (b.toNatClampNeg))), (4, .int (nI (u.toNatClampNeg)))] ⟨rfl, congrArg (fun q => some (Value.int q)) hc11.1, congrArg (fun q => some (Value.int q)) hc12.1, congrArg (fun q => some (Value.int q)) hc13.1, congrArg (fun q => some (Value.int q)) hc14.1, trivial⟩ ?_
          refine j_aload_n C dX9_sum_36 rfl rfl ?_
          refine j_getR C dX9_sum_37 (fx_RX9_55 D kc ad n) (show 11 ≤ 215 by decide) (show 215 < n by omega) ?_
          refine j_aload_n C dX9_sum_40 rfl rfl ?_
          refine j_getR C dX9_sum_41 (fx_RX9_13 D kc ad n) (show 11 ≤ 215 by decide) (show 215 < n by omega) ?_
          refine j_iload_n C dX9_sum_44 rfl rfl ?_
          refine x_aald35 C dX9_sum_45 (by omega) (by omega) ?_
          refine j_aload_n C dX9_sum_46 rfl rfl ?_
          refine j_getR C dX9_sum_47 (fx_RX9_95 D kc ad n) (show 11 ≤ 215 by decide) (show 215 < n by omega) ?_
          refine j_callV1 (T := TX0) (N := 14) C dX9_sum_50 (k_X0_read l D kc ad n (by omega) (11 + a.toNatClampNeg) (sl_wa (n := n) a.toNatClampNeg (by omega) (by omega)).1 205 (by decide) (by omega) _ ) zy_X0_read mw_26_5 rfl rfl (show 11 ≤ 83 by decide) (show 83 < n by omega) rfl rfl (Nat.le_of_ble_eq_true rfl) ⟨rfl, rfl, Nat.le_of_ble_eq_true rfl, Nat.le_of_ble_eq_true rfl⟩ ?_
          refine j_nmS (fun t15 et15 => ?_)
          refine j_if_eqB (tgt := 76) C dX9_sum_53 (by decide) (fun q16 => ?_) (fun q16 => ?_)
          · have hA17 : fX9_sum_a9 way a b u s0 = fX9_sum_a3 t15 := by (try rw [et15]); have q16z := q16; (try rw [et15] at q16z); (try dsimp only at q16z); unfold fX9_sum_a9; (try dsimp only); rw [q16z, cond_false]; (try rfl)
            refine j_iconst (v := -1) C dX9_sum_76 (by decide +kernel) ?_
            exact j_iret (st := []) C R0 dX9_sum_77 ⟨(by rw [hA3, hA6, hA8, hA10, hA17]; unfold fX9_sum_a3; (try dsimp only); all_goals ((try simp only [zfst_mk, zsnd_mk]); all_goals rfl)), ((by rw [hA3, hA6, hA8, hA10, hA17]; unfold fX9_sum_a3; (try dsimp only); all_goals ((try simp only [zfst_mk, zsnd_mk]); all_goals rfl)))⟩
          · have hA18 : fX9_sum_a9 way a b u s0 = fX9_sum_a8 way b u t15 := by (try rw [et15]); have q16z := q16; (try rw [et15] at q16z); (try dsimp only at q16z); unfold fX9_sum_a9; (try dsimp only); rw [q16z, cond_true]; (try rfl)
            refine j_aload_n C dX9_sum_56 rfl rfl ?_
            refine j_getR C dX9_sum_57 (fx_RX9_55 D kc ad n) (show 11 ≤ 215 by decide) (show 215 < n by omega) ?_
            refine j_aload_n C dX9_sum_60 rfl rfl ?_
            refine j_getR C dX9_sum_61 (fx_RX9_13 D kc ad n) (show 11 ≤ 215 by decide) (show 215 < n by omega) ?_
            refine j_iload_n C dX9_sum_64 rfl rfl ?_
            refine x_aald35 C dX9_sum_65 (by omega) (by omega) ?_
            refine j_aload_n C dX9_sum_66 rfl rfl ?_
            refine j_getR C dX9_sum_67 (fx_RX9_99 D kc ad n) (show 11 ≤ 215 by decide) (show 215 < n by omega) ?_
            refine j_callV1 (T := TX0) (N := 14) C dX9_sum_70 (k_X0_read l D kc ad n (by omega) (11 + b.toNatClampNeg) (sl_wa (n := n) b.toNatClampNeg (by omega) (by omega)).1 210 (by decide) (by omega) _ ) zy_X0_read mw_26_5 rfl rfl (show 11 ≤ 83 by decide) (show 83 < n by omega) rfl rfl (Nat.le_of_ble_eq_true rfl) ⟨rfl, rfl, Nat.le_of_ble_eq_true rfl, Nat.le_of_ble_eq_true rfl⟩ ?_
            refine j_nmS (fun t19 et19 => ?_)
            refine j_if_neB (tgt := 78) C dX9_sum_73 (by decide) (fun q20 => ?_) (fun q20 => ?_)
            · have hA21 : fX9_sum_a8 way b u t15 = fX9_sum_a6 way u t19 := by (try rw [et19]); have q20z := q20; (try rw [et19] at q20z); (try dsimp only at q20z); unfold fX9_sum_a8; (try dsimp only); rw [q20z, cond_true]; (try rfl)
              refine j_iload_n C dX9_sum_78 rfl rfl ?_
              refine j_iconst (v := nI 1) C dX9_sum_79 (by decide +kernel) ?_
              refine j_icmp_neN (tgt := 94) C dX9_sum_80 (by decide) (by omega) (by omega) (fun q22 => ?_) (fun q22 => ?_)
              · have hA23 : fX9_sum_a6 way u t19 = fX9_sum_a4 u t19 := by have q22z := q22; (try dsimp only at q22z); unfold fX9_sum_a6; (try dsimp only); rw [if_pos q22z]; (try rfl)
                refine j_aload_n C dX9_sum_94 rfl rfl ?_
                refine j_getR C dX9_sum_95 (fx_RX9_55 D kc ad n) (show 11 ≤ 215 by decide) (show 215 < n by omega) ?_
                refine j_aload_n C dX9_sum_98 rfl rfl ?_
                refine j_getR C dX9_sum_99 (fx_RX9_95 D kc ad n) (show 11 ≤ 215 by decide) (show 215 < n by omega) ?_
                refine j_aload_n C dX9_sum_102 rfl rfl ?_
                refine j_getR C dX9_sum_103 (fx_RX9_99 D kc ad n) (show 11 ≤ 215 by decide) (show 215 < n by omega) ?_
                refine j_aload_n C dX9_sum_106 rfl rfl ?_
                refine j_getR C dX9_sum_107 (fx_RX9_95 D kc ad n) (show 11 ≤ 215 by decide) (show 215 < n by omega) ?_
                refine j_callV0 (T := TX0) (N := 14) C dX9_sum_110 (k_X0_add l D kc ad n (by omega) 205 (by decide) (by omega) 210 (by decide) (by omega) 205 (by decide) (by omega) _ ) zy_X0_add mw_27_21 rfl rfl (show 11 ≤ 83 by decide) (show 83 < n by omega) rfl rfl (Nat.le_of_ble_eq_true rfl) ⟨rfl, rfl, Nat.le_of_ble_eq_true rfl, Nat.le_of_ble_eq_true rfl⟩ ?_
                refine j_nmS (fun t24 et24 => ?_)
                refine j_aload_n C dX9_sum_113 rfl rfl ?_
                refine j_getR C dX9_sum_114 (fx_RX9_55 D kc ad n) (show 11 ≤ 215 by decide) (show 215 < n by omega) ?_
                refine j_aload_n C dX9_sum_117 rfl rfl ?_
                refine j_getR C dX9_sum_118 (fx_RX9_95 D kc ad n) (show 11 ≤ 215 by decide) (show 215 < n by omega) ?_
                refine j_aload_n C dX9_sum_121 rfl rfl ?_
                refine j_getR C dX9_sum_122 (fx_RX9_13 D kc ad n) (show 11 ≤ 215 by decide) (show 215 < n by omega) ?_
                refine j_iload C dX9_sum_125 rfl ?_
                refine x_aald35 C dX9_sum_127 (by omega) (by omega) ?_
                refine j_callV0 (T := TX0) (N := 14) C dX9_sum_128 (k_X0_write l D kc ad n (by omega) 205 (by decide) (by omega) (11 + u.toNatClampNeg) (sl_wa (n := n) u.toNatClampNeg (by omega) (by omega)) _ ) zy_X0_write mw_28_1 rfl rfl (show 11 ≤ 83 by decide) (show 83 < n by omega) rfl rfl (Nat.le_of_ble_eq_true rfl) ⟨rfl, rfl, Nat.le_of_ble_eq_true rfl, Nat.le_of_ble_eq_true rfl⟩ ?_
                refine j_nmS (fun t25 et25 => ?_)
                refine j_iconst (v := nI 1) C dX9_sum_131 (by decide +kernel) ?_
                exact j_iret (st := []) C R0 dX9_sum_132 ⟨(by rw [hA3, hA6, hA8, hA10, hA18, hA21, hA23]; (try rw [et25]); (try rw [et24]); unfold fX9_sum_a4; (try dsimp only); all_goals ((try simp only [zfst_mk, zsnd_mk]); all_goals rfl)), ((by rw [hA3, hA6, hA8, hA10, hA18, hA21, hA23]; (try rw [et25]); (try rw [et24]); unfold fX9_sum_a4; (try dsimp only); all_goals ((try simp only [zfst_mk, zsnd_mk]); all_goals rfl)))⟩
              · have hA26 : fX9_sum_a6 way u t19 = fX9_sum_a5 u t19 := by have q22z : ¬ (way.toNatClampNeg ≠ 1) := (by omega); (try dsimp only at q22z); unfold fX9_sum_a6; (try dsimp only); rw [if_neg q22z]; (try rfl)
                refine j_aload_n C dX9_sum_83 rfl rfl ?_
                refine j_getR C dX9_sum_84 (fx_RX9_55 D kc ad n) (show 11 ≤ 215 by decide) (show 215 < n by omega) ?_
                refine j_aload_n C dX9_sum_87 rfl rfl ?_
                refine j_getR C dX9_sum_88 (fx_RX9_99 D kc ad n) (show 11 ≤ 215 by decide) (show 215 < n by omega) ?_
                refine j_callV0 (T := TX0) (N := 14) C dX9_sum_91 (k_X0_negate l D kc ad n (by omega) 210 (by decide) (by omega) _ ) zy_X0_negate mw_27_17 rfl rfl (show 11 ≤ 83 by decide) (show 83 < n by omega) rfl rfl (Nat.le_of_ble_eq_true rfl) ⟨rfl, rfl, Nat.le_of_ble_eq_true rfl, Nat.le_of_ble_eq_true rfl⟩ ?_
                refine j_nmS (fun t27 et27 => ?_)
                refine j_aload_n C dX9_sum_94 rfl rfl ?_
                refine j_getR C dX9_sum_95 (fx_RX9_55 D kc ad n) (show 11 ≤ 215 by decide) (show 215 < n by omega) ?_
                refine j_aload_n C dX9_sum_98 rfl rfl ?_
                refine j_getR C dX9_sum_99 (fx_RX9_95 D kc ad n) (show 11 ≤ 215 by decide) (show 215 < n by omega) ?_
                refine j_aload_n C dX9_sum_102 rfl rfl ?_
                refine j_getR C dX9_sum_103 (fx_RX9_99 D kc ad n) (show 11 ≤ 215 by decide) (show 215 < n by omega) ?_
                refine j_aload_n C dX9_sum_106 rfl rfl ?_
                refine j_getR C dX9_sum_107 (fx_RX9_95 D kc ad n) (show 11 ≤ 215 by decide) (show 215 < n by omega) ?_
                refine j_callV0 (T := TX0) (N := 14) C dX9_sum_110 (k_X0_add l D kc ad n (by omega) 205 (by decide) (by omega) 210 (by decide) (by omega) 205 (by decide) (by omega) _ ) zy_X0_add mw_27_21 rfl rfl (show 11 ≤ 83 by decide) (show 83 < n by omega) rfl rfl (Nat.le_of_ble_eq_true rfl) ⟨rfl, rfl, Nat.le_of_ble_eq_true rfl, Nat.le_of_ble_eq_true rfl⟩ ?_
                refine j_nmS (fun t28 et28 => ?_)
                refine j_aload_n C dX9_sum_113 rfl rfl ?_
                refine j_getR C dX9_sum_114 (fx_RX9_55 D kc ad n) (show 11 ≤ 215 by decide) (show 215 < n by omega) ?_
                refine j_aload_n C dX9_sum_117 rfl rfl ?_
                refine j_getR C dX9_sum_118 (fx_RX9_95 D kc ad n) (show 11 ≤ 215 by decide) (show 215 < n by omega) ?_
                refine j_aload_n C dX9_sum_121 rfl rfl ?_
                refine j_getR C dX9_sum_122 (fx_RX9_13 D kc ad n) (show 11 ≤ 215 by decide) (show 215 < n by omega) ?_
                refine j_iload C dX9_sum_125 rfl ?_
                refine x_aald35 C dX9_sum_127 (by omega) (by omega) ?_
                refine j_callV0 (T := TX0) (N := 14) C dX9_sum_128 (k_X0_write l D kc ad n (by omega) 205 (by decide) (by omega) (11 + u.toNatClampNeg) (sl_wa (n := n) u.toNatClampNeg (by omega) (by omega)) _ ) zy_X0_write mw_28_1 rfl rfl (show 11 ≤ 83 by decide) (show 83 < n by omega) rfl rfl (Nat.le_of_ble_eq_true rfl) ⟨rfl, rfl, Nat.le_of_ble_eq_true rfl, Nat.le_of_ble_eq_true rfl⟩ ?_
                refine j_nmS (fun t29 et29 => ?_)
                refine j_iconst (v := nI 1) C dX9_sum_131 (by decide +kernel) ?_
                exact j_iret (st := []) C R0 dX9_sum_132 ⟨(by rw [hA3, hA6, hA8, hA10, hA18, hA21, hA26]; (try rw [et29]); (try rw [et28]); (try rw [et27]); unfold fX9_sum_a5; (try dsimp only); all_goals ((try simp only [zfst_mk, zsnd_mk]); all_goals rfl)), ((by rw [hA3, hA6, hA8, hA10, hA18, hA21, hA26]; (try rw [et29]); (try rw [et28]); (try rw [et27]); unfold fX9_sum_a5; (try dsimp only); all_goals ((try simp only [zfst_mk, zsnd_mk]); all_goals rfl)))⟩
            · have hA30 : fX9_sum_a8 way b u t15 = fX9_sum_a7 t19 := by (try rw [et19]); have q20z := q20; (try rw [et19] at q20z); (try dsimp only at q20z); unfold fX9_sum_a8; (try dsimp only); rw [q20z, cond_false]; (try rfl)
              refine j_iconst (v := -1) C dX9_sum_76 (by decide +kernel) ?_
              exact j_iret (st := []) C R0 dX9_sum_77 ⟨(by rw [hA3, hA6, hA8, hA10, hA18, hA30]; unfold fX9_sum_a7; (try dsimp only); all_goals ((try simp only [zfst_mk, zsnd_mk]); all_goals rfl)), ((by rw [hA3, hA6, hA8, hA10, hA18, hA30]; unfold fX9_sum_a7; (try dsimp only); all_goals ((try simp only [zfst_mk, zsnd_mk]); all_goals rfl)))⟩
        · have hA31 : fX9_sum_a11 way a b u s0 = fX9_sum_a10 s0 := by have q9z := q9; (try dsimp only at q9z); unfold fX9_sum_a11; (try dsimp only); rw [q9z, cond_false]; (try rfl)
          refine j_bipush (v := -102) C dX9_sum_33 (by decide +kernel) ?_
          exact j_iret (st := []) C R0 dX9_sum_35 ⟨(by rw [hA3, hA6, hA8, hA31]; unfold fX9_sum_a10; (try dsimp only); all_goals ((try simp only [zfst_mk, zsnd_mk]); all_goals rfl)), ((by rw [hA3, hA6, hA8, hA31]; unfold fX9_sum_a10; (try dsimp only); all_goals ((try simp only [zfst_mk, zsnd_mk]); all_goals rfl)))⟩
      · have hA32 : fX9_sum_a13 way a b u s0 = fX9_sum_a12 s0 := by have q7z := q7; (try dsimp only at q7z); unfold fX9_sum_a13; (try dsimp only); rw [q7z, cond_false]; (try rfl)
        refine j_bipush (v := -101) C dX9_sum_22 (by decide +kernel) ?_
        exact j_iret (st := []) C R0 dX9_sum_24 ⟨(by rw [hA3, hA6, hA32]; unfold fX9_sum_a12; (try dsimp only); all_goals ((try simp only [zfst_mk, zsnd_mk]); all_goals rfl)), ((by rw [hA3, hA6, hA32]; unfold fX9_sum_a12; (try dsimp only); all_goals ((try simp only [zfst_mk, zsnd_mk]); all_goals rfl)))⟩
theorem k2q_fX9_sum_a1 (s0 : zSt) : zk2s (fX9_sum_a1 s0) = zk2 s0 := by
  unfold fX9_sum_a1
  (try dsimp only)
  all_goals (simp only [zW_2, zL_2, zk2s_mk]; done)
theorem k2_fX9_sum_a1 (s0 : zSt) : zk2 (zsnd (fX9_sum_a1 s0)) = zk2 s0 := k2q_fX9_sum_a1 s0
theorem k2q_fX9_sum_a2 (s0 : zSt) : zk2s (fX9_sum_a2 s0) = zk2 s0 := by
  unfold fX9_sum_a2
  (try dsimp only)
  all_goals (simp only [zW_2, zL_2, zk2s_mk]; done)
theorem k2_fX9_sum_a2 (s0 : zSt) : zk2 (zsnd (fX9_sum_a2 s0)) = zk2 s0 := k2q_fX9_sum_a2 s0
theorem k2q_fX9_sum_a3 (t15 : zSt) : zk2s (fX9_sum_a3 t15) = zk2 t15 := by
  unfold fX9_sum_a3
  (try dsimp only)
  all_goals (simp only [zW_2, zL_2, zk2s_mk]; done)
theorem k2_fX9_sum_a3 (t15 : zSt) : zk2 (zsnd (fX9_sum_a3 t15)) = zk2 t15 := k2q_fX9_sum_a3 t15
theorem k2q_fX9_sum_a4 (u : Int32) (t19 : zSt) : zk2s (fX9_sum_a4 u t19) = zk2 t19 := by
  unfold fX9_sum_a4
  (try dsimp only)
  all_goals (simp only [zW_2, zL_2, k2_fX0_add, k2_fX0_write, zk2s_mk]; done)
theorem k2_fX9_sum_a4 (u : Int32) (t19 : zSt) : zk2 (zsnd (fX9_sum_a4 u t19)) = zk2 t19 := k2q_fX9_sum_a4 u t19
theorem k2q_fX9_sum_a5 (u : Int32) (t19 : zSt) : zk2s (fX9_sum_a5 u t19) = zk2 t19 := by
  unfold fX9_sum_a5
  (try dsimp only)
  all_goals (simp only [zW_2, zL_2, k2_fX0_add, k2_fX0_negate, k2_fX0_write, zk2s_mk]; done)
theorem k2_fX9_sum_a5 (u : Int32) (t19 : zSt) : zk2 (zsnd (fX9_sum_a5 u t19)) = zk2 t19 := k2q_fX9_sum_a5 u t19
theorem k2q_fX9_sum_a6 (way : Int32) (u : Int32) (t19 : zSt) : zk2s (fX9_sum_a6 way u t19) = zk2 t19 := by
  unfold fX9_sum_a6
  (try dsimp only)
  all_goals (refine ite_keep (fun r : Int32 × zSt => zk2s r) _ _ ?_ ?_ <;> (simp only [zW_2, zL_2, k2_fX9_sum_a4, k2_fX9_sum_a5, k2q_fX9_sum_a4, k2q_fX9_sum_a5, zk2s_mk]; done))
theorem k2_fX9_sum_a6 (way : Int32) (u : Int32) (t19 : zSt) : zk2 (zsnd (fX9_sum_a6 way u t19)) = zk2 t19 := k2q_fX9_sum_a6 way u t19
theorem k2q_fX9_sum_a7 (t19 : zSt) : zk2s (fX9_sum_a7 t19) = zk2 t19 := by
  unfold fX9_sum_a7
  (try dsimp only)
  all_goals (simp only [zW_2, zL_2, zk2s_mk]; done)
theorem k2_fX9_sum_a7 (t19 : zSt) : zk2 (zsnd (fX9_sum_a7 t19)) = zk2 t19 := k2q_fX9_sum_a7 t19
theorem k2q_fX9_sum_a8 (way : Int32) (b : Int32) (u : Int32) (t15 : zSt) : zk2s (fX9_sum_a8 way b u t15) = zk2 t15 := by
  unfold fX9_sum_a8
  (try dsimp only)
  all_goals (refine cond_keep (fun r : Int32 × zSt => zk2s r) _ ?_ ?_ <;> (simp only [zW_2, zL_2, k2_fX0_read, k2_fX9_sum_a6, k2_fX9_sum_a7, k2q_fX0_read, k2q_fX9_sum_a6, k2q_fX9_sum_a7, zk2s_mk]; done))
theorem k2_fX9_sum_a8 (way : Int32) (b : Int32) (u : Int32) (t15 : zSt) : zk2 (zsnd (fX9_sum_a8 way b u t15)) = zk2 t15 := k2q_fX9_sum_a8 way b u t15
theorem k2q_fX9_sum_a9 (way : Int32) (a : Int32) (b : Int32) (u : Int32) (s0 : zSt) : zk2s (fX9_sum_a9 way a b u s0) = zk2 s0 := by
  unfold fX9_sum_a9
  (try dsimp only)
  all_goals (refine cond_keep (fun r : Int32 × zSt => zk2s r) _ ?_ ?_ <;> (simp only [zW_2, zL_2, k2_fX0_read, k2_fX9_sum_a3, k2_fX9_sum_a8, k2q_fX0_read, k2q_fX9_sum_a3, k2q_fX9_sum_a8, zk2s_mk]; done))
theorem k2_fX9_sum_a9 (way : Int32) (a : Int32) (b : Int32) (u : Int32) (s0 : zSt) : zk2 (zsnd (fX9_sum_a9 way a b u s0)) = zk2 s0 := k2q_fX9_sum_a9 way a b u s0
theorem k2q_fX9_sum_a10 (s0 : zSt) : zk2s (fX9_sum_a10 s0) = zk2 s0 := by
  unfold fX9_sum_a10
  (try dsimp only)
  all_goals (simp only [zW_2, zL_2, zk2s_mk]; done)
theorem k2_fX9_sum_a10 (s0 : zSt) : zk2 (zsnd (fX9_sum_a10 s0)) = zk2 s0 := k2q_fX9_sum_a10 s0
theorem k2q_fX9_sum_a11 (way : Int32) (a : Int32) (b : Int32) (u : Int32) (s0 : zSt) : zk2s (fX9_sum_a11 way a b u s0) = zk2 s0 := by
  unfold fX9_sum_a11
  (try dsimp only)
  all_goals (refine cond_keep (fun r : Int32 × zSt => zk2s r) _ ?_ ?_ <;> (simp only [zW_2, zL_2, k2_fX9_sum_a10, k2_fX9_sum_a9, k2q_fX9_sum_a10, k2q_fX9_sum_a9, zk2s_mk]; done))
theorem k2_fX9_sum_a11 (way : Int32) (a : Int32) (b : Int32) (u : Int32) (s0 : zSt) : zk2 (zsnd (fX9_sum_a11 way a b u s0)) = zk2 s0 := k2q_fX9_sum_a11 way a b u s0
theorem k2q_fX9_sum_a12 (s0 : zSt) : zk2s (fX9_sum_a12 s0) = zk2 s0 := by
  unfold fX9_sum_a12
  (try dsimp only)
  all_goals (simp only [zW_2, zL_2, zk2s_mk]; done)
theorem k2_fX9_sum_a12 (s0 : zSt) : zk2 (zsnd (fX9_sum_a12 s0)) = zk2 s0 := k2q_fX9_sum_a12 s0
theorem k2q_fX9_sum_a13 (way : Int32) (a : Int32) (b : Int32) (u : Int32) (s0 : zSt) : zk2s (fX9_sum_a13 way a b u s0) = zk2 s0 := by
  unfold fX9_sum_a13
  (try dsimp only)
  all_goals (refine cond_keep (fun r : Int32 × zSt => zk2s r) _ ?_ ?_ <;> (simp only [zW_2, zL_2, k2_fX9_sum_a11, k2_fX9_sum_a12, k2q_fX9_sum_a11, k2q_fX9_sum_a12, zk2s_mk]; done))
theorem k2_fX9_sum_a13 (way : Int32) (a : Int32) (b : Int32) (u : Int32) (s0 : zSt) : zk2 (zsnd (fX9_sum_a13 way a b u s0)) = zk2 s0 := k2q_fX9_sum_a13 way a b u s0
theorem k2q_fX9_sum_a14 (way : Int32) (a : Int32) (b : Int32) (u : Int32) (s0 : zSt) : zk2s (fX9_sum_a14 way a b u s0) = zk2 s0 := by
  unfold fX9_sum_a14
  (try dsimp only)
  all_goals (refine cond_keep (fun r : Int32 × zSt => zk2s r) _ ?_ ?_ <;> (simp only [zW_2, zL_2, k2_fX9_sum_a13, k2_fX9_sum_a2, k2q_fX9_sum_a13, k2q_fX9_sum_a2, zk2s_mk]; done))
theorem k2_fX9_sum_a14 (way : Int32) (a : Int32) (b : Int32) (u : Int32) (s0 : zSt) : zk2 (zsnd (fX9_sum_a14 way a b u s0)) = zk2 s0 := k2q_fX9_sum_a14 way a b u s0
theorem k2q_fX9_sum (way : Int32) (a : Int32) (b : Int32) (u : Int32) (s0 : zSt) : zk2s (fX9_sum way a b u s0) = zk2 s0 := by
  unfold fX9_sum
  (try dsimp only)
  all_goals (refine cond_keep (fun r : Int32 × zSt => zk2s r) _ ?_ ?_ <;> (simp only [zW_2, zL_2, k2_fX9_sum_a1, k2_fX9_sum_a14, k2q_fX9_sum_a1, k2q_fX9_sum_a14, zk2s_mk]; done))
theorem k2_fX9_sum (way : Int32) (a : Int32) (b : Int32) (u : Int32) (s0 : zSt) : zk2 (zsnd (fX9_sum way a b u s0)) = zk2 s0 := k2q_fX9_sum way a b u s0
theorem i2_fX9_sum (way : Int32) (a : Int32) (b : Int32) (u : Int32) (s0 : zSt) (kk9 : Nat) : (zsnd (fX9_sum way a b u s0)).2.2 kk9 = s0.2.2 kk9 := z2_I (k2_fX9_sum way a b u s0) kk9
theorem i3_fX9_sum (way : Int32) (a : Int32) (b : Int32) (u : Int32) (s0 : zSt) (kk9 : Nat) : zi (zsnd (fX9_sum way a b u s0)) kk9 = zi s0 kk9 := zi_of (k2_fX9_sum way a b u s0) kk9

def fX9_times_a1 (s0 : zSt) : Int32 × zSt :=
    ((-101 : Int32), s0)
def fX9_times_a2 (s0 : zSt) : Int32 × zSt :=
    ((-101 : Int32), s0)
def fX9_times_a3 (k : Int32) (u : Int32) (t14 : zSt) : Int32 × zSt :=
    let t17 := zI t14 0 ((t14.2.2 0) - (nI (1)))
    let t18 := fX0_multiply (11 + k.toNatClampNeg) 205 210 t17
    let t19 := fX0_write 210 (11 + u.toNatClampNeg) t18
    (nI (1), t19)
def fX9_times_a4 (t14 : zSt) : Int32 × zSt :=
    ((-1 : Int32), t14)
def fX9_times_a5 (k : Int32) (a : Int32) (u : Int32) (s0 : zSt) : Int32 × zSt :=
    let t14 := zsnd (fX0_read (11 + a.toNatClampNeg) 205 s0)
    bif (zfst (fX0_read (11 + a.toNatClampNeg) 205 s0)) then
      fX9_times_a3 k u t14
    else
      fX9_times_a4 t14
def fX9_times_a6 (s0 : zSt) : Int32 × zSt :=
    ((-103 : Int32), s0)
def fX9_times_a7 (k : Int32) (a : Int32) (u : Int32) (s0 : zSt) : Int32 × zSt :=
    if nI (1) ≤ s0.2.2 0 then
      fX9_times_a5 k a u s0
    else
      fX9_times_a6 s0
def fX9_times_a8 (s0 : zSt) : Int32 × zSt :=
    ((-101 : Int32), s0)
def fX9_times_a9 (k : Int32) (a : Int32) (u : Int32) (s0 : zSt) : Int32 × zSt :=
    bif (vX9_isSlot u s0) then
      fX9_times_a7 k a u s0
    else
      fX9_times_a8 s0
def fX9_times_a10 (k : Int32) (a : Int32) (u : Int32) (s0 : zSt) : Int32 × zSt :=
    bif (vX9_isSlot a s0) then
      fX9_times_a9 k a u s0
    else
      fX9_times_a2 s0
def fX9_times (k : Int32) (a : Int32) (u : Int32) (s0 : zSt) : Int32 × zSt :=
    bif (vX9_isSlot k s0) then
      fX9_times_a10 k a u s0
    else
      fX9_times_a1 s0
set_option maxHeartbeats 4000000 in
set_option maxRecDepth 100000 in
theorem k_X9_times (l : Launch) (D : va_G) (kc : Nat → ClassId) (ad : Nat → Nat) (n : Nat) (hn : 216 ≤ n) (k : Int32) (a : Int32) (u : Int32) (s0 : zSt) : zM l yX9_times cX9_times 4 (some .int) rX9_times (wX D kc ad n) [.ref (zad (wX D kc ad n) 215), .int k, .int a, .int u] s0 (zV1 (.int (zfst (fX9_times k a u s0))) (zsnd (fX9_times k a u s0))) := by
  refine z_of (own := RX9) (by decide +kernel) rfl (Nat.le_of_ble_eq_true rfl) ?_
  intro κ C R0
  refine j_at [(0, .ref (zad (wX D kc ad n) 215)), (1, .int k), (2, .int a), (3, .int u)] ⟨rfl, rfl, rfl, rfl, trivial⟩ ?_
  refine j_iload_n C dX9_times_0 rfl rfl ?_
  refine j_callS1 C dX9_times_1 (k_X9_isSlot l D kc ad n (by omega) (k) _ ) zy_X9_isSlot mw_14_17 rfl rfl (Nat.le_of_ble_eq_true rfl) ⟨rfl, rfl, Nat.le_of_ble_eq_true rfl, Nat.le_of_ble_eq_true rfl⟩ ?_
  refine j_if_eqB (tgt := 21) C dX9_times_4 (by decide) (fun q1 => ?_) (fun q1 => ?_)
  · have hA2 : fX9_times k a u s0 = fX9_times_a1 s0 := by have q1z := q1; (try dsimp only at q1z); unfold fX9_times; (try dsimp only); rw [q1z, cond_false]; (try rfl)
    refine j_bipush (v := -101) C dX9_times_21 (by decide +kernel) ?_
    exact j_iret (st := []) C R0 dX9_times_23 ⟨(by rw [hA2]; unfold fX9_times_a1; (try dsimp only); all_goals ((try simp only [zfst_mk, zsnd_mk]); all_goals rfl)), ((by rw [hA2]; unfold fX9_times_a1; (try dsimp only); all_goals ((try simp only [zfst_mk, zsnd_mk]); all_goals rfl)))⟩
  · have hA3 : fX9_times k a u s0 = fX9_times_a10 k a u s0 := by have q1z := q1; (try dsimp only at q1z); unfold fX9_times; (try dsimp only); rw [q1z, cond_true]; (try rfl)
    refine j_iload_n C dX9_times_7 rfl rfl ?_
    refine j_callS1 C dX9_times_8 (k_X9_isSlot l D kc ad n (by omega) (a) _ ) zy_X9_isSlot mw_14_17 rfl rfl (Nat.le_of_ble_eq_true rfl) ⟨rfl, rfl, Nat.le_of_ble_eq_true rfl, Nat.le_of_ble_eq_true rfl⟩ ?_
    refine j_if_eqB (tgt := 21) C dX9_times_11 (by decide) (fun q4 => ?_) (fun q4 => ?_)
    · have hA5 : fX9_times_a10 k a u s0 = fX9_times_a2 s0 := by have q4z := q4; (try dsimp only at q4z); unfold fX9_times_a10; (try dsimp only); rw [q4z, cond_false]; (try rfl)
      refine j_bipush (v := -101) C dX9_times_21 (by decide +kernel) ?_
      exact j_iret (st := []) C R0 dX9_times_23 ⟨(by rw [hA3, hA5]; unfold fX9_times_a2; (try dsimp only); all_goals ((try simp only [zfst_mk, zsnd_mk]); all_goals rfl)), ((by rw [hA3, hA5]; unfold fX9_times_a2; (try dsimp only); all_goals ((try simp only [zfst_mk, zsnd_mk]); all_goals rfl)))⟩
    · have hA6 : fX9_times_a10 k a u s0 = fX9_times_a9 k a u s0 := by have q4z := q4; (try dsimp only at q4z); unfold fX9_times_a10; (try dsimp only); rw [q4z, cond_true]; (try rfl)
      refine j_iload_n C dX9_times_14 rfl rfl ?_
      refine j_callS1 C dX9_times_15 (k_X9_isSlot l D kc ad n (by omega) (u) _ ) zy_X9_isSlot mw_14_17 rfl rfl (Nat.le_of_ble_eq_true rfl) ⟨rfl, rfl, Nat.le_of_ble_eq_true rfl, Nat.le_of_ble_eq_true rfl⟩ ?_
      refine j_if_neB (tgt := 24) C dX9_times_18 (by decide) (fun q7 => ?_) (fun q7 => ?_)
      · have hA8 : fX9_times_a9 k a u s0 = fX9_times_a7 k a u s0 := by have q7z := q7; (try dsimp only at q7z); unfold fX9_times_a9; (try dsimp only); rw [q7z, cond_true]; (try rfl)
        have hc9 := sl_of (x := k) (by assumption)
        have hc9b := hc9.2
        have hc10 := sl_of (x := a) (by assumption)
        have hc10b := hc10.2
        have hc11 := sl_of (x := u) (by assumption)
        have hc11b := hc11.2
        refine j_at [(0, .ref (zad (wX D kc ad n) 215)), (1, .int (nI (k.toNatClampNeg))), (2, .int (nI (a.toNatClampNeg))), (3, .int (nI (u.toNatClampNeg)))] ⟨rfl, congrArg (fun q => some (Value.int q)) hc9.1, congrArg (fun q => some (Value.int q)) hc10.1, congrArg (fun q => some (Value.int q)) hc11.1, trivial⟩ ?_
        refine j_aload_n C dX9_times_24 rfl rfl ?_
        refine j_getI C dX9_times_25 (fx_RX9_23 D kc ad n) (show 11 ≤ 215 by decide) (show 215 < n by omega) ?_
        refine j_iconst (v := nI 1) C dX9_times_28 (by decide +kernel) ?_
        refine j_icmp_ge (tgt := 35) C dX9_times_29 (by decide) (fun q12 => ?_) (fun q12 => ?_)
        · have hA13 : fX9_times_a7 k a u s0 = fX9_times_a5 k a u s0 := by have q12z := q12; (try dsimp only at q12z); unfold fX9_times_a7; (try dsimp only); rw [if_pos q12z]; (try rfl)
          refine j_aload_n C dX9_times_35 rfl rfl ?_
          refine j_getR C dX9_times_36 (fx_RX9_55 D kc ad n) (show 11 ≤ 215 by decide) (show 215 < n by omega) ?_
          refine j_aload_n C dX9_times_39 rfl rfl ?_
          refine j_getR C dX9_times_40 (fx_RX9_13 D kc ad n) (show 11 ≤ 215 by decide) (show 215 < n by omega) ?_
          refine j_iload_n C dX9_times_43 rfl rfl ?_
          refine x_aald35 C dX9_times_44 (by omega) (by omega) ?_
          refine j_aload_n C dX9_times_45 rfl rfl ?_
          refine j_getR C dX9_times_46 (fx_RX9_95 D kc ad n) (show 11 ≤ 215 by decide) (show 215 < n by omega) ?_
          refine j_callV1 (T := TX0) (N := 14) C dX9_times_49 (k_X0_read l D kc ad n (by omega) (11 + a.toNatClampNeg) (sl_wa (n := n) a.toNatClampNeg (by omega) (by omega)).1 205 (by decide) (by omega) _ ) zy_X0_read mw_26_5 rfl rfl (show 11 ≤ 83 by decide) (show 83 < n by omega) rfl rfl (Nat.le_of_ble_eq_true rfl) ⟨rfl, rfl, Nat.le_of_ble_eq_true rfl, Nat.le_of_ble_eq_true rfl⟩ ?_
          refine j_nmS (fun t14 et14 => ?_)
          refine j_if_neB (tgt := 57) C dX9_times_52 (by decide) (fun q15 => ?_) (fun q15 => ?_)
          · have hA16 : fX9_times_a5 k a u s0 = fX9_times_a3 k u t14 := by (try rw [et14]); have q15z := q15; (try rw [et14] at q15z); (try dsimp only at q15z); unfold fX9_times_a5; (try dsimp only); rw [q15z, cond_true]; (try rfl)
            refine j_aload_n C dX9_times_57 rfl rfl ?_
            refine j_dup C dX9_times_58 rfl ?_
            refine j_getI C dX9_times_59 (fx_RX9_23 D kc ad n) (show 11 ≤ 215 by decide) (show 215 < n by omega) ?_
            refine j_iconst (v := nI 1) C dX9_times_62 (by decide +kernel) ?_
            refine j_isub C dX9_times_63 ?_
            refine j_putI C dX9_times_64 (pfx_RX9_23 D kc ad n) (ox_0 D kc ad n) (show 11 ≤ 215 by decide) (show 215 < n by omega) ?_
            refine j_nmS (fun t17 et17 => ?_)
            refine j_aload_n C dX9_times_67 rfl rfl ?_
            refine j_getR C dX9_times_68 (fx_RX9_55 D kc ad n) (show 11 ≤ 215 by decide) (show 215 < n by omega) ?_
            refine j_aload_n C dX9_times_71 rfl rfl ?_
            refine j_getR C dX9_times_72 (fx_RX9_13 D kc ad n) (show 11 ≤ 215 by decide) (show 215 < n by omega) ?_
            refine j_iload_n C dX9_times_75 rfl rfl ?_
            refine x_aald35 C dX9_times_76 (by omega) (by omega) ?_
            refine j_aload_n C dX9_times_77 rfl rfl ?_
            refine j_getR C dX9_times_78 (fx_RX9_95 D kc ad n) (show 11 ≤ 215 by decide) (show 215 < n by omega) ?_
            refine j_aload_n C dX9_times_81 rfl rfl ?_
            refine j_getR C dX9_times_82 (fx_RX9_99 D kc ad n) (show 11 ≤ 215 by decide) (show 215 < n by omega) ?_
            refine j_callV0 (T := TX0) (N := 14) C dX9_times_85 (k_X0_multiply l D kc ad n (by omega) (11 + k.toNatClampNeg) (sl_wa (n := n) k.toNatClampNeg (by omega) (by omega)).1 205 (by decide) (by omega) 210 (by decide) (by omega) _ ) zy_X0_multiply mw_29_8 rfl rfl (show 11 ≤ 83 by decide) (show 83 < n by omega) rfl rfl (Nat.le_of_ble_eq_true rfl) ⟨rfl, rfl, Nat.le_of_ble_eq_true rfl, Nat.le_of_ble_eq_true rfl⟩ ?_
            refine j_nmS (fun t18 et18 => ?_)
            refine j_aload_n C dX9_times_88 rfl rfl ?_
            refine j_getR C dX9_times_89 (fx_RX9_55 D kc ad n) (show 11 ≤ 215 by decide) (show 215 < n by omega) ?_
            refine j_aload_n C dX9_times_92 rfl rfl ?_
            refine j_getR C dX9_times_93 (fx_RX9_99 D kc ad n) (show 11 ≤ 215 by decide) (show 215 < n by omega) ?_
            refine j_aload_n C dX9_times_96 rfl rfl ?_
            refine j_getR C dX9_times_97 (fx_RX9_13 D kc ad n) (show 11 ≤ 215 by decide) (show 215 < n by omega) ?_
            refine j_iload_n C dX9_times_100 rfl rfl ?_
            refine x_aald35 C dX9_times_101 (by omega) (by omega) ?_
            refine j_callV0 (T := TX0) (N := 14) C dX9_times_102 (k_X0_write l D kc ad n (by omega) 210 (by decide) (by omega) (11 + u.toNatClampNeg) (sl_wa (n := n) u.toNatClampNeg (by omega) (by omega)) _ ) zy_X0_write mw_28_1 rfl rfl (show 11 ≤ 83 by decide) (show 83 < n by omega) rfl rfl (Nat.le_of_ble_eq_true rfl) ⟨rfl, rfl, Nat.le_of_ble_eq_true rfl, Nat.le_of_ble_eq_true rfl⟩ ?_
            refine j_nmS (fun t19 et19 => ?_)
            refine j_iconst (v := nI 1) C dX9_times_105 (by decide +kernel) ?_
            exact j_iret (st := []) C R0 dX9_times_106 ⟨(by rw [hA3, hA6, hA8, hA13, hA16]; (try rw [et19]); (try rw [et18]); (try rw [et17]); unfold fX9_times_a3; (try dsimp only); all_goals ((try simp only [zfst_mk, zsnd_mk]); all_goals rfl)), ((by rw [hA3, hA6, hA8, hA13, hA16]; (try rw [et19]); (try rw [et18]); (try rw [et17]); unfold fX9_times_a3; (try dsimp only); all_goals ((try simp only [zfst_mk, zsnd_mk]); all_goals rfl)))⟩
          · have hA20 : fX9_times_a5 k a u s0 = fX9_times_a4 t14 := by (try rw [et14]); have q15z := q15; (try rw [et14] at q15z); (try dsimp only at q15z); unfold fX9_times_a5; (try dsimp only); rw [q15z, cond_false]; (try rfl)
            refine j_iconst (v := -1) C dX9_times_55 (by decide +kernel) ?_
            exact j_iret (st := []) C R0 dX9_times_56 ⟨(by rw [hA3, hA6, hA8, hA13, hA20]; unfold fX9_times_a4; (try dsimp only); all_goals ((try simp only [zfst_mk, zsnd_mk]); all_goals rfl)), ((by rw [hA3, hA6, hA8, hA13, hA20]; unfold fX9_times_a4; (try dsimp only); all_goals ((try simp only [zfst_mk, zsnd_mk]); all_goals rfl)))⟩
        · have hA21 : fX9_times_a7 k a u s0 = fX9_times_a6 s0 := by have q12z := q12; (try dsimp only at q12z); unfold fX9_times_a7; (try dsimp only); rw [if_neg q12z]; (try rfl)
          refine j_bipush (v := -103) C dX9_times_32 (by decide +kernel) ?_
          exact j_iret (st := []) C R0 dX9_times_34 ⟨(by rw [hA3, hA6, hA8, hA21]; unfold fX9_times_a6; (try dsimp only); all_goals ((try simp only [zfst_mk, zsnd_mk]); all_goals rfl)), ((by rw [hA3, hA6, hA8, hA21]; unfold fX9_times_a6; (try dsimp only); all_goals ((try simp only [zfst_mk, zsnd_mk]); all_goals rfl)))⟩
      · have hA22 : fX9_times_a9 k a u s0 = fX9_times_a8 s0 := by have q7z := q7; (try dsimp only at q7z); unfold fX9_times_a9; (try dsimp only); rw [q7z, cond_false]; (try rfl)
        refine j_bipush (v := -101) C dX9_times_21 (by decide +kernel) ?_
        exact j_iret (st := []) C R0 dX9_times_23 ⟨(by rw [hA3, hA6, hA22]; unfold fX9_times_a8; (try dsimp only); all_goals ((try simp only [zfst_mk, zsnd_mk]); all_goals rfl)), ((by rw [hA3, hA6, hA22]; unfold fX9_times_a8; (try dsimp only); all_goals ((try simp only [zfst_mk, zsnd_mk]); all_goals rfl)))⟩

def fX9_base_a1 (s0 : zSt) : Int32 × zSt :=
    ((-101 : Int32), s0)
def fX9_base_a2 (k : Int32) (u : Int32) (s0 : zSt) : Int32 × zSt :=
    let t10 := zI s0 0 ((s0.2.2 0) - (nI (1)))
    let t11 := fX0_multiply (11 + k.toNatClampNeg) 67 210 t10
    let t12 := fX0_write 210 (11 + u.toNatClampNeg) t11
    (nI (1), t12)
def fX9_base_a3 (s0 : zSt) : Int32 × zSt :=
    ((-103 : Int32), s0)
def fX9_base_a4 (k : Int32) (u : Int32) (s0 : zSt) : Int32 × zSt :=
    if nI (1) ≤ s0.2.2 0 then
      fX9_base_a2 k u s0
    else
      fX9_base_a3 s0
def fX9_base_a5 (s0 : zSt) : Int32 × zSt :=
    ((-101 : Int32), s0)
def fX9_base_a6 (k : Int32) (u : Int32) (s0 : zSt) : Int32 × zSt :=
    bif (vX9_isSlot u s0) then
      fX9_base_a4 k u s0
    else
      fX9_base_a5 s0
def fX9_base (k : Int32) (u : Int32) (s0 : zSt) : Int32 × zSt :=
    bif (vX9_isSlot k s0) then
      fX9_base_a6 k u s0
    else
      fX9_base_a1 s0
set_option maxHeartbeats 4000000 in
set_option maxRecDepth 100000 in
theorem k_X9_base (l : Launch) (D : va_G) (kc : Nat → ClassId) (ad : Nat → Nat) (n : Nat) (hn : 216 ≤ n) (k : Int32) (u : Int32) (s0 : zSt) : zM l yX9_base cX9_base 3 (some .int) rX9_base (wX D kc ad n) [.ref (zad (wX D kc ad n) 215), .int k, .int u] s0 (zV1 (.int (zfst (fX9_base k u s0))) (zsnd (fX9_base k u s0))) := by
  refine z_of (own := RX9) (by decide +kernel) rfl (Nat.le_of_ble_eq_true rfl) ?_
  intro κ C R0
  refine j_at [(0, .ref (zad (wX D kc ad n) 215)), (1, .int k), (2, .int u)] ⟨rfl, rfl, rfl, trivial⟩ ?_
  refine j_iload_n C dX9_base_0 rfl rfl ?_
  refine j_callS1 C dX9_base_1 (k_X9_isSlot l D kc ad n (by omega) (k) _ ) zy_X9_isSlot mw_14_17 rfl rfl (Nat.le_of_ble_eq_true rfl) ⟨rfl, rfl, Nat.le_of_ble_eq_true rfl, Nat.le_of_ble_eq_true rfl⟩ ?_
  refine j_if_eqB (tgt := 14) C dX9_base_4 (by decide) (fun q1 => ?_) (fun q1 => ?_)
  · have hA2 : fX9_base k u s0 = fX9_base_a1 s0 := by have q1z := q1; (try dsimp only at q1z); unfold fX9_base; (try dsimp only); rw [q1z, cond_false]; (try rfl)
    refine j_bipush (v := -101) C dX9_base_14 (by decide +kernel) ?_
    exact j_iret (st := []) C R0 dX9_base_16 ⟨(by rw [hA2]; unfold fX9_base_a1; (try dsimp only); all_goals ((try simp only [zfst_mk, zsnd_mk]); all_goals rfl)), ((by rw [hA2]; unfold fX9_base_a1; (try dsimp only); all_goals ((try simp only [zfst_mk, zsnd_mk]); all_goals rfl)))⟩
  · have hA3 : fX9_base k u s0 = fX9_base_a6 k u s0 := by have q1z := q1; (try dsimp only at q1z); unfold fX9_base; (try dsimp only); rw [q1z, cond_true]; (try rfl)
    refine j_iload_n C dX9_base_7 rfl rfl ?_
    refine j_callS1 C dX9_base_8 (k_X9_isSlot l D kc ad n (by omega) (u) _ ) zy_X9_isSlot mw_14_17 rfl rfl (Nat.le_of_ble_eq_true rfl) ⟨rfl, rfl, Nat.le_of_ble_eq_true rfl, Nat.le_of_ble_eq_true rfl⟩ ?_
    refine j_if_neB (tgt := 17) C dX9_base_11 (by decide) (fun q4 => ?_) (fun q4 => ?_)
    · have hA5 : fX9_base_a6 k u s0 = fX9_base_a4 k u s0 := by have q4z := q4; (try dsimp only at q4z); unfold fX9_base_a6; (try dsimp only); rw [q4z, cond_true]; (try rfl)
      have hc6 := sl_of (x := k) (by assumption)
      have hc6b := hc6.2
      have hc7 := sl_of (x := u) (by assumption)
      have hc7b := hc7.2
      refine j_at [(0, .ref (zad (wX D kc ad n) 215)), (1, .int (nI (k.toNatClampNeg))), (2, .int (nI (u.toNatClampNeg)))] ⟨rfl, congrArg (fun q => some (Value.int q)) hc6.1, congrArg (fun q => some (Value.int q)) hc7.1, trivial⟩ ?_
      refine j_aload_n C dX9_base_17 rfl rfl ?_
      refine j_getI C dX9_base_18 (fx_RX9_23 D kc ad n) (show 11 ≤ 215 by decide) (show 215 < n by omega) ?_
      refine j_iconst (v := nI 1) C dX9_base_21 (by decide +kernel) ?_
      refine j_icmp_ge (tgt := 28) C dX9_base_22 (by decide) (fun q8 => ?_) (fun q8 => ?_)
      · have hA9 : fX9_base_a4 k u s0 = fX9_base_a2 k u s0 := by have q8z := q8; (try dsimp only at q8z); unfold fX9_base_a4; (try dsimp only); rw [if_pos q8z]; (try rfl)
        refine j_aload_n C dX9_base_28 rfl rfl ?_
        refine j_dup C dX9_base_29 rfl ?_
        refine j_getI C dX9_base_30 (fx_RX9_23 D kc ad n) (show 11 ≤ 215 by decide) (show 215 < n by omega) ?_
        refine j_iconst (v := nI 1) C dX9_base_33 (by decide +kernel) ?_
        refine j_isub C dX9_base_34 ?_
        refine j_putI C dX9_base_35 (pfx_RX9_23 D kc ad n) (ox_0 D kc ad n) (show 11 ≤ 215 by decide) (show 215 < n by omega) ?_
        refine j_nmS (fun t10 et10 => ?_)
        refine j_aload_n C dX9_base_38 rfl rfl ?_
        refine j_getR C dX9_base_39 (fx_RX9_55 D kc ad n) (show 11 ≤ 215 by decide) (show 215 < n by omega) ?_
        refine j_aload_n C dX9_base_42 rfl rfl ?_
        refine j_getR C dX9_base_43 (fx_RX9_13 D kc ad n) (show 11 ≤ 215 by decide) (show 215 < n by omega) ?_
        refine j_iload_n C dX9_base_46 rfl rfl ?_
        refine x_aald35 C dX9_base_47 (by omega) (by omega) ?_
        refine j_aload_n C dX9_base_48 rfl rfl ?_
        refine j_getR C dX9_base_49 (fx_RX9_55 D kc ad n) (show 11 ≤ 215 by decide) (show 215 < n by omega) ?_
        refine j_getR C dX9_base_52 (fx_RX9_199 D kc ad n) (show 11 ≤ 83 by decide) (show 83 < n by omega) ?_
        refine j_aload_n C dX9_base_55 rfl rfl ?_
        refine j_getR C dX9_base_56 (fx_RX9_99 D kc ad n) (show 11 ≤ 215 by decide) (show 215 < n by omega) ?_
        refine j_callV0 (T := TX0) (N := 14) C dX9_base_59 (k_X0_multiply l D kc ad n (by omega) (11 + k.toNatClampNeg) (sl_wa (n := n) k.toNatClampNeg (by omega) (by omega)).1 67 (by decide) (by omega) 210 (by decide) (by omega) _ ) zy_X0_multiply mw_29_8 rfl rfl (show 11 ≤ 83 by decide) (show 83 < n by omega) rfl rfl (Nat.le_of_ble_eq_true rfl) ⟨rfl, rfl, Nat.le_of_ble_eq_true rfl, Nat.le_of_ble_eq_true rfl⟩ ?_
        refine j_nmS (fun t11 et11 => ?_)
        refine j_aload_n C dX9_base_62 rfl rfl ?_
        refine j_getR C dX9_base_63 (fx_RX9_55 D kc ad n) (show 11 ≤ 215 by decide) (show 215 < n by omega) ?_
        refine j_aload_n C dX9_base_66 rfl rfl ?_
        refine j_getR C dX9_base_67 (fx_RX9_99 D kc ad n) (show 11 ≤ 215 by decide) (show 215 < n by omega) ?_
        refine j_aload_n C dX9_base_70 rfl rfl ?_
        refine j_getR C dX9_base_71 (fx_RX9_13 D kc ad n) (show 11 ≤ 215 by decide) (show 215 < n by omega) ?_
        refine j_iload_n C dX9_base_74 rfl rfl ?_
        refine x_aald35 C dX9_base_75 (by omega) (by omega) ?_
        refine j_callV0 (T := TX0) (N := 14) C dX9_base_76 (k_X0_write l D kc ad n (by omega) 210 (by decide) (by omega) (11 + u.toNatClampNeg) (sl_wa (n := n) u.toNatClampNeg (by omega) (by omega)) _ ) zy_X0_write mw_28_1 rfl rfl (show 11 ≤ 83 by decide) (show 83 < n by omega) rfl rfl (Nat.le_of_ble_eq_true rfl) ⟨rfl, rfl, Nat.le_of_ble_eq_true rfl, Nat.le_of_ble_eq_true rfl⟩ ?_
        refine j_nmS (fun t12 et12 => ?_)
        refine j_iconst (v := nI 1) C dX9_base_79 (by decide +kernel) ?_
        exact j_iret (st := []) C R0 dX9_base_80 ⟨(by rw [hA3, hA5, hA9]; (try rw [et12]); (try rw [et11]); (try rw [et10]); unfold fX9_base_a2; (try dsimp only); all_goals ((try simp only [zfst_mk, zsnd_mk]); all_goals rfl)), ((by rw [hA3, hA5, hA9]; (try rw [et12]); (try rw [et11]); (try rw [et10]); unfold fX9_base_a2; (try dsimp only); all_goals ((try simp only [zfst_mk, zsnd_mk]); all_goals rfl)))⟩
      · have hA13 : fX9_base_a4 k u s0 = fX9_base_a3 s0 := by have q8z := q8; (try dsimp only at q8z); unfold fX9_base_a4; (try dsimp only); rw [if_neg q8z]; (try rfl)
        refine j_bipush (v := -103) C dX9_base_25 (by decide +kernel) ?_
        exact j_iret (st := []) C R0 dX9_base_27 ⟨(by rw [hA3, hA5, hA13]; unfold fX9_base_a3; (try dsimp only); all_goals ((try simp only [zfst_mk, zsnd_mk]); all_goals rfl)), ((by rw [hA3, hA5, hA13]; unfold fX9_base_a3; (try dsimp only); all_goals ((try simp only [zfst_mk, zsnd_mk]); all_goals rfl)))⟩
    · have hA14 : fX9_base_a6 k u s0 = fX9_base_a5 s0 := by have q4z := q4; (try dsimp only at q4z); unfold fX9_base_a6; (try dsimp only); rw [q4z, cond_false]; (try rfl)
      refine j_bipush (v := -101) C dX9_base_14 (by decide +kernel) ?_
      exact j_iret (st := []) C R0 dX9_base_16 ⟨(by rw [hA3, hA14]; unfold fX9_base_a5; (try dsimp only); all_goals ((try simp only [zfst_mk, zsnd_mk]); all_goals rfl)), ((by rw [hA3, hA14]; unfold fX9_base_a5; (try dsimp only); all_goals ((try simp only [zfst_mk, zsnd_mk]); all_goals rfl)))⟩

def fX9_small_a1 (t23 : zSt) : Int32 × zSt :=
    let t26 := fX0_twice 205 205 t23
    (nI (4), t26)
def fX9_small_a2 (t23 : zSt) : Int32 × zSt :=
    (nI (3), t23)
def fX9_small_a3 (t18 : zSt) : Int32 × zSt :=
    let t21 := fX0_twice 205 205 t18
    let t23 := zsnd (fX0_isNeutral 205 t21)
    bif (zfst (fX0_isNeutral 205 t21)) then
      fX9_small_a2 t23
    else
      fX9_small_a1 t23
def fX9_small_a4 (t18 : zSt) : Int32 × zSt :=
    (nI (2), t18)
def fX9_small_a5 (t13 : zSt) : Int32 × zSt :=
    let t16 := fX0_twice 205 205 t13
    let t18 := zsnd (fX0_isNeutral 205 t16)
    bif (zfst (fX0_isNeutral 205 t16)) then
      fX9_small_a4 t18
    else
      fX9_small_a3 t18
def fX9_small_a6 (t13 : zSt) : Int32 × zSt :=
    (nI (1), t13)
def fX9_small_a7 (t8 : zSt) : Int32 × zSt :=
    let t11 := fX0_twice 205 205 t8
    let t13 := zsnd (fX0_isNeutral 205 t11)
    bif (zfst (fX0_isNeutral 205 t11)) then
      fX9_small_a6 t13
    else
      fX9_small_a5 t13
def fX9_small_a8 (t8 : zSt) : Int32 × zSt :=
    (nI (0), t8)
def fX9_small_a9 (t4 : zSt) : Int32 × zSt :=
    let t8 := zsnd (fX0_isNeutral 205 t4)
    bif (zfst (fX0_isNeutral 205 t4)) then
      fX9_small_a8 t8
    else
      fX9_small_a7 t8
def fX9_small_a10 (t4 : zSt) : Int32 × zSt :=
    ((-1 : Int32), t4)
def fX9_small_a11 (a : Int32) (s0 : zSt) : Int32 × zSt :=
    let t4 := zsnd (fX0_read (11 + a.toNatClampNeg) 205 s0)
    bif (zfst (fX0_read (11 + a.toNatClampNeg) 205 s0)) then
      fX9_small_a9 t4
    else
      fX9_small_a10 t4
def fX9_small_a12 (s0 : zSt) : Int32 × zSt :=
    ((-101 : Int32), s0)
def fX9_small (a : Int32) (s0 : zSt) : Int32 × zSt :=
    bif (vX9_isSlot a s0) then
      fX9_small_a11 a s0
    else
      fX9_small_a12 s0
set_option maxHeartbeats 4000000 in
set_option maxRecDepth 100000 in
theorem k_X9_small (l : Launch) (D : va_G) (kc : Nat → ClassId) (ad : Nat → Nat) (n : Nat) (hn : 216 ≤ n) (a : Int32) (s0 : zSt) : zM l yX9_small cX9_small 3 (some .int) rX9_small (wX D kc ad n) [.ref (zad (wX D kc ad n) 215), .int a] s0 (zV1 (.int (zfst (fX9_small a s0))) (zsnd (fX9_small a s0))) := by
  refine z_of (own := RX9) (by decide +kernel) rfl (Nat.le_of_ble_eq_true rfl) ?_
  intro κ C R0
  refine j_at [(0, .ref (zad (wX D kc ad n) 215)), (1, .int a)] ⟨rfl, rfl, trivial⟩ ?_
  refine j_iload_n C dX9_small_0 rfl rfl ?_
  refine j_callS1 C dX9_small_1 (k_X9_isSlot l D kc ad n (by omega) (a) _ ) zy_X9_isSlot mw_14_17 rfl rfl (Nat.le_of_ble_eq_true rfl) ⟨rfl, rfl, Nat.le_of_ble_eq_true rfl, Nat.le_of_ble_eq_true rfl⟩ ?_
  refine j_if_neB (tgt := 10) C dX9_small_4 (by decide) (fun q1 => ?_) (fun q1 => ?_)
  · have hA2 : fX9_small a s0 = fX9_small_a11 a s0 := by have q1z := q1; (try dsimp only at q1z); unfold fX9_small; (try dsimp only); rw [q1z, cond_true]; (try rfl)
    have hc3 := sl_of (x := a) (by assumption)
    have hc3b := hc3.2
    refine j_at [(0, .ref (zad (wX D kc ad n) 215)), (1, .int (nI (a.toNatClampNeg)))] ⟨rfl, congrArg (fun q => some (Value.int q)) hc3.1, trivial⟩ ?_
    refine j_aload_n C dX9_small_10 rfl rfl ?_
    refine j_getR C dX9_small_11 (fx_RX9_55 D kc ad n) (show 11 ≤ 215 by decide) (show 215 < n by omega) ?_
    refine j_aload_n C dX9_small_14 rfl rfl ?_
    refine j_getR C dX9_small_15 (fx_RX9_13 D kc ad n) (show 11 ≤ 215 by decide) (show 215 < n by omega) ?_
    refine j_iload_n C dX9_small_18 rfl rfl ?_
    refine x_aald35 C dX9_small_19 (by omega) (by omega) ?_
    refine j_aload_n C dX9_small_20 rfl rfl ?_
    refine j_getR C dX9_small_21 (fx_RX9_95 D kc ad n) (show 11 ≤ 215 by decide) (show 215 < n by omega) ?_
    refine j_callV1 (T := TX0) (N := 14) C dX9_small_24 (k_X0_read l D kc ad n (by omega) (11 + a.toNatClampNeg) (sl_wa (n := n) a.toNatClampNeg (by omega) (by omega)).1 205 (by decide) (by omega) _ ) zy_X0_read mw_26_5 rfl rfl (show 11 ≤ 83 by decide) (show 83 < n by omega) rfl rfl (Nat.le_of_ble_eq_true rfl) ⟨rfl, rfl, Nat.le_of_ble_eq_true rfl, Nat.le_of_ble_eq_true rfl⟩ ?_
    refine j_nmS (fun t4 et4 => ?_)
    refine j_if_neB (tgt := 32) C dX9_small_27 (by decide) (fun q5 => ?_) (fun q5 => ?_)
    · have hA6 : fX9_small_a11 a s0 = fX9_small_a9 t4 := by (try rw [et4]); have q5z := q5; (try rw [et4] at q5z); (try dsimp only at q5z); unfold fX9_small_a11; (try dsimp only); rw [q5z, cond_true]; (try rfl)
      refine j_iconst (v := nI 0) C dX9_small_32 (by decide +kernel) ?_
      refine j_istore_n C dX9_small_33 rfl (by decide) ?_
      refine j_iload_n C dX9_small_34 rfl rfl ?_
      refine j_iconst (v := nI 4) C dX9_small_35 (by decide +kernel) ?_
      refine j_icmp_geN (tgt := 76) C dX9_small_36 (by decide) (by omega) (by omega) (fun q7 => False.elim (by omega)) (fun q7 => ?_)
      refine j_aload_n C dX9_small_39 rfl rfl ?_
      refine j_getR C dX9_small_40 (fx_RX9_55 D kc ad n) (show 11 ≤ 215 by decide) (show 215 < n by omega) ?_
      refine j_aload_n C dX9_small_43 rfl rfl ?_
      refine j_getR C dX9_small_44 (fx_RX9_95 D kc ad n) (show 11 ≤ 215 by decide) (show 215 < n by omega) ?_
      refine j_callV1 (T := TX0) (N := 14) C dX9_small_47 (k_X0_isNeutral l D kc ad n (by omega) 205 (by decide) (by omega) _ ) zy_X0_isNeutral mw_30_23 rfl rfl (show 11 ≤ 83 by decide) (show 83 < n by omega) rfl rfl (Nat.le_of_ble_eq_true rfl) ⟨rfl, rfl, Nat.le_of_ble_eq_true rfl, Nat.le_of_ble_eq_true rfl⟩ ?_
      refine j_nmS (fun t8 et8 => ?_)
      refine j_if_eqB (tgt := 55) C dX9_small_50 (by decide) (fun q9 => ?_) (fun q9 => ?_)
      · have hA10 : fX9_small_a9 t4 = fX9_small_a7 t8 := by (try rw [et8]); have q9z := q9; (try rw [et8] at q9z); (try dsimp only at q9z); unfold fX9_small_a9; (try dsimp only); rw [q9z, cond_false]; (try rfl)
        refine j_aload_n C dX9_small_55 rfl rfl ?_
        refine j_getR C dX9_small_56 (fx_RX9_55 D kc ad n) (show 11 ≤ 215 by decide) (show 215 < n by omega) ?_
        refine j_aload_n C dX9_small_59 rfl rfl ?_
        refine j_getR C dX9_small_60 (fx_RX9_95 D kc ad n) (show 11 ≤ 215 by decide) (show 215 < n by omega) ?_
        refine j_aload_n C dX9_small_63 rfl rfl ?_
        refine j_getR C dX9_small_64 (fx_RX9_95 D kc ad n) (show 11 ≤ 215 by decide) (show 215 < n by omega) ?_
        refine j_callV0 (T := TX0) (N := 14) C dX9_small_67 (k_X0_twice l D kc ad n (by omega) 205 (by decide) (by omega) 205 (by decide) (by omega) _ ) zy_X0_twice mw_31_4 rfl rfl (show 11 ≤ 83 by decide) (show 83 < n by omega) rfl rfl (Nat.le_of_ble_eq_true rfl) ⟨rfl, rfl, Nat.le_of_ble_eq_true rfl, Nat.le_of_ble_eq_true rfl⟩ ?_
        refine j_nmS (fun t11 et11 => ?_)
        refine j_iincN (b := 1) C dX9_small_70 rfl (by decide +kernel) (by decide) ?_
        refine j_goto (tgt := 34) C dX9_small_73 (by decide) ?_
        refine j_iload_n C dX9_small_34 rfl rfl ?_
        refine j_iconst (v := nI 4) C dX9_small_35 (by decide +kernel) ?_
        refine j_icmp_geN (tgt := 76) C dX9_small_36 (by decide) (by omega) (by omega) (fun q12 => False.elim (by omega)) (fun q12 => ?_)
        refine j_aload_n C dX9_small_39 rfl rfl ?_
        refine j_getR C dX9_small_40 (fx_RX9_55 D kc ad n) (show 11 ≤ 215 by decide) (show 215 < n by omega) ?_
        refine j_aload_n C dX9_small_43 rfl rfl ?_
        refine j_getR C dX9_small_44 (fx_RX9_95 D kc ad n) (show 11 ≤ 215 by decide) (show 215 < n by omega) ?_
        refine j_callV1 (T := TX0) (N := 14) C dX9_small_47 (k_X0_isNeutral l D kc ad n (by omega) 205 (by decide) (by omega) _ ) zy_X0_isNeutral mw_30_23 rfl rfl (show 11 ≤ 83 by decide) (show 83 < n by omega) rfl rfl (Nat.le_of_ble_eq_true rfl) ⟨rfl, rfl, Nat.le_of_ble_eq_true rfl, Nat.le_of_ble_eq_true rfl⟩ ?_
        refine j_nmS (fun t13 et13 => ?_)
        refine j_if_eqB (tgt := 55) C dX9_small_50 (by decide) (fun q14 => ?_) (fun q14 => ?_)
        · have hA15 : fX9_small_a7 t8 = fX9_small_a5 t13 := by (try rw [et13]); (try rw [et11]); have q14z := q14; (try rw [et13] at q14z); (try rw [et11] at q14z); (try dsimp only at q14z); unfold fX9_small_a7; (try dsimp only); rw [q14z, cond_false]; (try rfl)
          refine j_aload_n C dX9_small_55 rfl rfl ?_
          refine j_getR C dX9_small_56 (fx_RX9_55 D kc ad n) (show 11 ≤ 215 by decide) (show 215 < n by omega) ?_
          refine j_aload_n C dX9_small_59 rfl rfl ?_
          refine j_getR C dX9_small_60 (fx_RX9_95 D kc ad n) (show 11 ≤ 215 by decide) (show 215 < n by omega) ?_
          refine j_aload_n C dX9_small_63 rfl rfl ?_
          refine j_getR C dX9_small_64 (fx_RX9_95 D kc ad n) (show 11 ≤ 215 by decide) (show 215 < n by omega) ?_
          refine j_callV0 (T := TX0) (N := 14) C dX9_small_67 (k_X0_twice l D kc ad n (by omega) 205 (by decide) (by omega) 205 (by decide) (by omega) _ ) zy_X0_twice mw_31_4 rfl rfl (show 11 ≤ 83 by decide) (show 83 < n by omega) rfl rfl (Nat.le_of_ble_eq_true rfl) ⟨rfl, rfl, Nat.le_of_ble_eq_true rfl, Nat.le_of_ble_eq_true rfl⟩ ?_
          refine j_nmS (fun t16 et16 => ?_)
          refine j_iincN (b := 1) C dX9_small_70 rfl (by decide +kernel) (by decide) ?_
          refine j_goto (tgt := 34) C dX9_small_73 (by decide) ?_
          refine j_iload_n C dX9_small_34 rfl rfl ?_
          refine j_iconst (v := nI 4) C dX9_small_35 (by decide +kernel) ?_
          refine j_icmp_geN (tgt := 76) C dX9_small_36 (by decide) (by omega) (by omega) (fun q17 => False.elim (by omega)) (fun q17 => ?_)
          refine j_aload_n C dX9_small_39 rfl rfl ?_
          refine j_getR C dX9_small_40 (fx_RX9_55 D kc ad n) (show 11 ≤ 215 by decide) (show 215 < n by omega) ?_
          refine j_aload_n C dX9_small_43 rfl rfl ?_
          refine j_getR C dX9_small_44 (fx_RX9_95 D kc ad n) (show 11 ≤ 215 by decide) (show 215 < n by omega) ?_
          refine j_callV1 (T := TX0) (N := 14) C dX9_small_47 (k_X0_isNeutral l D kc ad n (by omega) 205 (by decide) (by omega) _ ) zy_X0_isNeutral mw_30_23 rfl rfl (show 11 ≤ 83 by decide) (show 83 < n by omega) rfl rfl (Nat.le_of_ble_eq_true rfl) ⟨rfl, rfl, Nat.le_of_ble_eq_true rfl, Nat.le_of_ble_eq_true rfl⟩ ?_
          refine j_nmS (fun t18 et18 => ?_)
          refine j_if_eqB (tgt := 55) C dX9_small_50 (by decide) (fun q19 => ?_) (fun q19 => ?_)
          · have hA20 : fX9_small_a5 t13 = fX9_small_a3 t18 := by (try rw [et18]); (try rw [et16]); have q19z := q19; (try rw [et18] at q19z); (try rw [et16] at q19z); (try dsimp only at q19z); unfold fX9_small_a5; (try dsimp only); rw [q19z, cond_false]; (try rfl)
            refine j_aload_n C dX9_small_55 rfl rfl ?_
            refine j_getR C dX9_small_56 (fx_RX9_55 D kc ad n) (show 11 ≤ 215 by decide) (show 215 < n by omega) ?_
            refine j_aload_n C dX9_small_59 rfl rfl ?_
            refine j_getR C dX9_small_60 (fx_RX9_95 D kc ad n) (show 11 ≤ 215 by decide) (show 215 < n by omega) ?_
            refine j_aload_n C dX9_small_63 rfl rfl ?_
            refine j_getR C dX9_small_64 (fx_RX9_95 D kc ad n) (show 11 ≤ 215 by decide) (show 215 < n by omega) ?_
            refine j_callV0 (T := TX0) (N := 14) C dX9_small_67 (k_X0_twice l D kc ad n (by omega) 205 (by decide) (by omega) 205 (by decide) (by omega) _ ) zy_X0_twice mw_31_4 rfl rfl (show 11 ≤ 83 by decide) (show 83 < n by omega) rfl rfl (Nat.le_of_ble_eq_true rfl) ⟨rfl, rfl, Nat.le_of_ble_eq_true rfl, Nat.le_of_ble_eq_true rfl⟩ ?_
            refine j_nmS (fun t21 et21 => ?_)
            refine j_iincN (b := 1) C dX9_small_70 rfl (by decide +kernel) (by decide) ?_
            refine j_goto (tgt := 34) C dX9_small_73 (by decide) ?_
            refine j_iload_n C dX9_small_34 rfl rfl ?_
            refine j_iconst (v := nI 4) C dX9_small_35 (by decide +kernel) ?_
            refine j_icmp_geN (tgt := 76) C dX9_small_36 (by decide) (by omega) (by omega) (fun q22 => False.elim (by omega)) (fun q22 => ?_)
            refine j_aload_n C dX9_small_39 rfl rfl ?_
            refine j_getR C dX9_small_40 (fx_RX9_55 D kc ad n) (show 11 ≤ 215 by decide) (show 215 < n by omega) ?_
            refine j_aload_n C dX9_small_43 rfl rfl ?_
            refine j_getR C dX9_small_44 (fx_RX9_95 D kc ad n) (show 11 ≤ 215 by decide) (show 215 < n by omega) ?_
            refine j_callV1 (T := TX0) (N := 14) C dX9_small_47 (k_X0_isNeutral l D kc ad n (by omega) 205 (by decide) (by omega) _ ) zy_X0_isNeutral mw_30_23 rfl rfl (show 11 ≤ 83 by decide) (show 83 < n by omega) rfl rfl (Nat.le_of_ble_eq_true rfl) ⟨rfl, rfl, Nat.le_of_ble_eq_true rfl, Nat.le_of_ble_eq_true rfl⟩ ?_
            refine j_nmS (fun t23 et23 => ?_)
            refine j_if_eqB (tgt := 55) C dX9_small_50 (by decide) (fun q24 => ?_) (fun q24 => ?_)
            · have hA25 : fX9_small_a3 t18 = fX9_small_a1 t23 := by (try rw [et23]); (try rw [et21]); have q24z := q24; (try rw [et23] at q24z); (try rw [et21] at q24z); (try dsimp only at q24z); unfold fX9_small_a3; (try dsimp only); rw [q24z, cond_false]; (try rfl)
              refine j_aload_n C dX9_small_55 rfl rfl ?_
              refine j_getR C dX9_small_56 (fx_RX9_55 D kc ad n) (show 11 ≤ 215 by decide) (show 215 < n by omega) ?_
              refine j_aload_n C dX9_small_59 rfl rfl ?_
              refine j_getR C dX9_small_60 (fx_RX9_95 D kc ad n) (show 11 ≤ 215 by decide) (show 215 < n by omega) ?_
              refine j_aload_n C dX9_small_63 rfl rfl ?_
              refine j_getR C dX9_small_64 (fx_RX9_95 D kc ad n) (show 11 ≤ 215 by decide) (show 215 < n by omega) ?_
              refine j_callV0 (T := TX0) (N := 14) C dX9_small_67 (k_X0_twice l D kc ad n (by omega) 205 (by decide) (by omega) 205 (by decide) (by omega) _ ) zy_X0_twice mw_31_4 rfl rfl (show 11 ≤ 83 by decide) (show 83 < n by omega) rfl rfl (Nat.le_of_ble_eq_true rfl) ⟨rfl, rfl, Nat.le_of_ble_eq_true rfl, Nat.le_of_ble_eq_true rfl⟩ ?_
              refine j_nmS (fun t26 et26 => ?_)
              refine j_iincN (b := 1) C dX9_small_70 rfl (by decide +kernel) (by decide) ?_
              refine j_goto (tgt := 34) C dX9_small_73 (by decide) ?_
              refine j_iload_n C dX9_small_34 rfl rfl ?_
              refine j_iconst (v := nI 4) C dX9_small_35 (by decide +kernel) ?_
              refine j_icmp_geN (tgt := 76) C dX9_small_36 (by decide) (by omega) (by omega) (fun q27 => ?_) (fun q27 => False.elim (by omega))
              refine j_iconst (v := nI 4) C dX9_small_76 (by decide +kernel) ?_
              exact j_iret (st := []) C R0 dX9_small_77 ⟨(by rw [hA2, hA6, hA10, hA15, hA20, hA25]; (try rw [et26]); unfold fX9_small_a1; (try dsimp only); all_goals ((try simp only [zfst_mk, zsnd_mk]); all_goals rfl)), ((by rw [hA2, hA6, hA10, hA15, hA20, hA25]; (try rw [et26]); unfold fX9_small_a1; (try dsimp only); all_goals ((try simp only [zfst_mk, zsnd_mk]); all_goals rfl)))⟩
            · have hA28 : fX9_small_a3 t18 = fX9_small_a2 t23 := by (try rw [et23]); (try rw [et21]); have q24z := q24; (try rw [et23] at q24z); (try rw [et21] at q24z); (try dsimp only at q24z); unfold fX9_small_a3; (try dsimp only); rw [q24z, cond_true]; (try rfl)
              refine j_iload_n C dX9_small_53 rfl rfl ?_
              exact j_iret (st := []) C R0 dX9_small_54 ⟨(by rw [hA2, hA6, hA10, hA15, hA20, hA28]; unfold fX9_small_a2; (try dsimp only); all_goals ((try simp only [zfst_mk, zsnd_mk]); all_goals rfl)), ((by rw [hA2, hA6, hA10, hA15, hA20, hA28]; unfold fX9_small_a2; (try dsimp only); all_goals ((try simp only [zfst_mk, zsnd_mk]); all_goals rfl)))⟩
          · have hA29 : fX9_small_a5 t13 = fX9_small_a4 t18 := by (try rw [et18]); (try rw [et16]); have q19z := q19; (try rw [et18] at q19z); (try rw [et16] at q19z); (try dsimp only at q19z); unfold fX9_small_a5; (try dsimp only); rw [q19z, cond_true]; (try rfl)
            refine j_iload_n C dX9_small_53 rfl rfl ?_
            exact j_iret (st := []) C R0 dX9_small_54 ⟨(by rw [hA2, hA6, hA10, hA15, hA29]; unfold fX9_small_a4; (try dsimp only); all_goals ((try simp only [zfst_mk, zsnd_mk]); all_goals rfl)), ((by rw [hA2, hA6, hA10, hA15, hA29]; unfold fX9_small_a4; (try dsimp only); all_goals ((try simp only [zfst_mk, zsnd_mk]); all_goals rfl)))⟩
        · have hA30 : fX9_small_a7 t8 = fX9_small_a6 t13 := by (try rw [et13]); (try rw [et11]); have q14z := q14; (try rw [et13] at q14z); (try rw [et11] at q14z); (try dsimp only at q14z); unfold fX9_small_a7; (try dsimp only); rw [q14z, cond_true]; (try rfl)
          refine j_iload_n C dX9_small_53 rfl rfl ?_
          exact j_iret (st := []) C R0 dX9_small_54 ⟨(by rw [hA2, hA6, hA10, hA30]; unfold fX9_small_a6; (try dsimp only); all_goals ((try simp only [zfst_mk, zsnd_mk]); all_goals rfl)), ((by rw [hA2, hA6, hA10, hA30]; unfold fX9_small_a6; (try dsimp only); all_goals ((try simp only [zfst_mk, zsnd_mk]); all_goals rfl)))⟩
      · have hA31 : fX9_small_a9 t4 = fX9_small_a8 t8 := by (try rw [et8]); have q9z := q9; (try rw [et8] at q9z); (try dsimp only at q9z); unfold fX9_small_a9; (try dsimp only); rw [q9z, cond_true]; (try rfl)
        refine j_iload_n C dX9_small_53 rfl rfl ?_
        exact j_iret (st := []) C R0 dX9_small_54 ⟨(by rw [hA2, hA6, hA31]; unfold fX9_small_a8; (try dsimp only); all_goals ((try simp only [zfst_mk, zsnd_mk]); all_goals rfl)), ((by rw [hA2, hA6, hA31]; unfold fX9_small_a8; (try dsimp only); all_goals ((try simp only [zfst_mk, zsnd_mk]); all_goals rfl)))⟩
    · have hA32 : fX9_small_a11 a s0 = fX9_small_a10 t4 := by (try rw [et4]); have q5z := q5; (try rw [et4] at q5z); (try dsimp only at q5z); unfold fX9_small_a11; (try dsimp only); rw [q5z, cond_false]; (try rfl)
      refine j_iconst (v := -1) C dX9_small_30 (by decide +kernel) ?_
      exact j_iret (st := []) C R0 dX9_small_31 ⟨(by rw [hA2, hA32]; unfold fX9_small_a10; (try dsimp only); all_goals ((try simp only [zfst_mk, zsnd_mk]); all_goals rfl)), ((by rw [hA2, hA32]; unfold fX9_small_a10; (try dsimp only); all_goals ((try simp only [zfst_mk, zsnd_mk]); all_goals rfl)))⟩
  · have hA33 : fX9_small a s0 = fX9_small_a12 s0 := by have q1z := q1; (try dsimp only at q1z); unfold fX9_small; (try dsimp only); rw [q1z, cond_false]; (try rfl)
    refine j_bipush (v := -101) C dX9_small_7 (by decide +kernel) ?_
    exact j_iret (st := []) C R0 dX9_small_9 ⟨(by rw [hA33]; unfold fX9_small_a12; (try dsimp only); all_goals ((try simp only [zfst_mk, zsnd_mk]); all_goals rfl)), ((by rw [hA33]; unfold fX9_small_a12; (try dsimp only); all_goals ((try simp only [zfst_mk, zsnd_mk]); all_goals rfl)))⟩
theorem k2q_fX9_small_a1 (t23 : zSt) : zk2s (fX9_small_a1 t23) = zk2 t23 := by
  unfold fX9_small_a1
  (try dsimp only)
  all_goals (simp only [zW_2, zL_2, k2_fX0_twice, zk2s_mk]; done)
theorem k2_fX9_small_a1 (t23 : zSt) : zk2 (zsnd (fX9_small_a1 t23)) = zk2 t23 := k2q_fX9_small_a1 t23
theorem k2q_fX9_small_a2 (t23 : zSt) : zk2s (fX9_small_a2 t23) = zk2 t23 := by
  unfold fX9_small_a2
  (try dsimp only)
  all_goals (simp only [zW_2, zL_2, zk2s_mk]; done)
theorem k2_fX9_small_a2 (t23 : zSt) : zk2 (zsnd (fX9_small_a2 t23)) = zk2 t23 := k2q_fX9_small_a2 t23
theorem k2q_fX9_small_a3 (t18 : zSt) : zk2s (fX9_small_a3 t18) = zk2 t18 := by
  unfold fX9_small_a3
  (try dsimp only)
  all_goals (refine cond_keep (fun r : Int32 × zSt => zk2s r) _ ?_ ?_ <;> (simp only [zW_2, zL_2, k2_fX0_isNeutral, k2_fX0_twice, k2_fX9_small_a1, k2_fX9_small_a2, k2q_fX0_isNeutral, k2q_fX9_small_a1, k2q_fX9_small_a2, zk2s_mk]; done))
theorem k2_fX9_small_a3 (t18 : zSt) : zk2 (zsnd (fX9_small_a3 t18)) = zk2 t18 := k2q_fX9_small_a3 t18
theorem k2q_fX9_small_a4 (t18 : zSt) : zk2s (fX9_small_a4 t18) = zk2 t18 := by
  unfold fX9_small_a4
  (try dsimp only)
  all_goals (simp only [zW_2, zL_2, zk2s_mk]; done)
theorem k2_fX9_small_a4 (t18 : zSt) : zk2 (zsnd (fX9_small_a4 t18)) = zk2 t18 := k2q_fX9_small_a4 t18
theorem k2q_fX9_small_a5 (t13 : zSt) : zk2s (fX9_small_a5 t13) = zk2 t13 := by
  unfold fX9_small_a5
  (try dsimp only)
  all_goals (refine cond_keep (fun r : Int32 × zSt => zk2s r) _ ?_ ?_ <;> (simp only [zW_2, zL_2, k2_fX0_isNeutral, k2_fX0_twice, k2_fX9_small_a3, k2_fX9_small_a4, k2q_fX0_isNeutral, k2q_fX9_small_a3, k2q_fX9_small_a4, zk2s_mk]; done))
theorem k2_fX9_small_a5 (t13 : zSt) : zk2 (zsnd (fX9_small_a5 t13)) = zk2 t13 := k2q_fX9_small_a5 t13
theorem k2q_fX9_small_a6 (t13 : zSt) : zk2s (fX9_small_a6 t13) = zk2 t13 := by
  unfold fX9_small_a6
  (try dsimp only)
  all_goals (simp only [zW_2, zL_2, zk2s_mk]; done)
theorem k2_fX9_small_a6 (t13 : zSt) : zk2 (zsnd (fX9_small_a6 t13)) = zk2 t13 := k2q_fX9_small_a6 t13
theorem k2q_fX9_small_a7 (t8 : zSt) : zk2s (fX9_small_a7 t8) = zk2 t8 := by
  unfold fX9_small_a7
  (try dsimp only)
  all_goals (refine cond_keep (fun r : Int32 × zSt => zk2s r) _ ?_ ?_ <;> (simp only [zW_2, zL_2, k2_fX0_isNeutral, k2_fX0_twice, k2_fX9_small_a5, k2_fX9_small_a6, k2q_fX0_isNeutral, k2q_fX9_small_a5, k2q_fX9_small_a6, zk2s_mk]; done))
theorem k2_fX9_small_a7 (t8 : zSt) : zk2 (zsnd (fX9_small_a7 t8)) = zk2 t8 := k2q_fX9_small_a7 t8
theorem k2q_fX9_small_a8 (t8 : zSt) : zk2s (fX9_small_a8 t8) = zk2 t8 := by
  unfold fX9_small_a8
  (try dsimp only)
  all_goals (simp only [zW_2, zL_2, zk2s_mk]; done)
theorem k2_fX9_small_a8 (t8 : zSt) : zk2 (zsnd (fX9_small_a8 t8)) = zk2 t8 := k2q_fX9_small_a8 t8
theorem k2q_fX9_small_a9 (t4 : zSt) : zk2s (fX9_small_a9 t4) = zk2 t4 := by
  unfold fX9_small_a9
  (try dsimp only)
  all_goals (refine cond_keep (fun r : Int32 × zSt => zk2s r) _ ?_ ?_ <;> (simp only [zW_2, zL_2, k2_fX0_isNeutral, k2_fX9_small_a7, k2_fX9_small_a8, k2q_fX0_isNeutral, k2q_fX9_small_a7, k2q_fX9_small_a8, zk2s_mk]; done))
theorem k2_fX9_small_a9 (t4 : zSt) : zk2 (zsnd (fX9_small_a9 t4)) = zk2 t4 := k2q_fX9_small_a9 t4
theorem k2q_fX9_small_a10 (t4 : zSt) : zk2s (fX9_small_a10 t4) = zk2 t4 := by
  unfold fX9_small_a10
  (try dsimp only)
  all_goals (simp only [zW_2, zL_2, zk2s_mk]; done)
theorem k2_fX9_small_a10 (t4 : zSt) : zk2 (zsnd (fX9_small_a10 t4)) = zk2 t4 := k2q_fX9_small_a10 t4
theorem k2q_fX9_small_a11 (a : Int32) (s0 : zSt) : zk2s (fX9_small_a11 a s0) = zk2 s0 := by
  unfold fX9_small_a11
  (try dsimp only)
  all_goals (refine cond_keep (fun r : Int32 × zSt => zk2s r) _ ?_ ?_ <;> (simp only [zW_2, zL_2, k2_fX0_read, k2_fX9_small_a10, k2_fX9_small_a9, k2q_fX0_read, k2q_fX9_small_a10, k2q_fX9_small_a9, zk2s_mk]; done))
theorem k2_fX9_small_a11 (a : Int32) (s0 : zSt) : zk2 (zsnd (fX9_small_a11 a s0)) = zk2 s0 := k2q_fX9_small_a11 a s0
theorem k2q_fX9_small_a12 (s0 : zSt) : zk2s (fX9_small_a12 s0) = zk2 s0 := by
  unfold fX9_small_a12
  (try dsimp only)
  all_goals (simp only [zW_2, zL_2, zk2s_mk]; done)
theorem k2_fX9_small_a12 (s0 : zSt) : zk2 (zsnd (fX9_small_a12 s0)) = zk2 s0 := k2q_fX9_small_a12 s0
theorem k2q_fX9_small (a : Int32) (s0 : zSt) : zk2s (fX9_small a s0) = zk2 s0 := by
  unfold fX9_small
  (try dsimp only)
  all_goals (refine cond_keep (fun r : Int32 × zSt => zk2s r) _ ?_ ?_ <;> (simp only [zW_2, zL_2, k2_fX9_small_a11, k2_fX9_small_a12, k2q_fX9_small_a11, k2q_fX9_small_a12, zk2s_mk]; done))
theorem k2_fX9_small (a : Int32) (s0 : zSt) : zk2 (zsnd (fX9_small a s0)) = zk2 s0 := k2q_fX9_small a s0
theorem i2_fX9_small (a : Int32) (s0 : zSt) (kk9 : Nat) : (zsnd (fX9_small a s0)).2.2 kk9 = s0.2.2 kk9 := z2_I (k2_fX9_small a s0) kk9
theorem i3_fX9_small (a : Int32) (s0 : zSt) (kk9 : Nat) : zi (zsnd (fX9_small a s0)) kk9 = zi s0 kk9 := zi_of (k2_fX9_small a s0) kk9

def fX9_other_a1 (s0 : zSt) : Int32 × zSt :=
    ((-101 : Int32), s0)
def fX9_other_a2 (u : Int32) (t8 : zSt) : Int32 × zSt :=
    let t11 := fX0_findOtherShape 205 202 t8
    let t12 := fX1_store 202 (11 + u.toNatClampNeg) t11
    (nI (1), t12)
def fX9_other_a3 (t8 : zSt) : Int32 × zSt :=
    ((-1 : Int32), t8)
def fX9_other_a4 (a : Int32) (u : Int32) (s0 : zSt) : Int32 × zSt :=
    let t8 := zsnd (fX0_read (11 + a.toNatClampNeg) 205 s0)
    bif (zfst (fX0_read (11 + a.toNatClampNeg) 205 s0)) then
      fX9_other_a2 u t8
    else
      fX9_other_a3 t8
def fX9_other_a5 (s0 : zSt) : Int32 × zSt :=
    ((-101 : Int32), s0)
def fX9_other_a6 (a : Int32) (u : Int32) (s0 : zSt) : Int32 × zSt :=
    bif (vX9_isSlot u s0) then
      fX9_other_a4 a u s0
    else
      fX9_other_a5 s0
def fX9_other (a : Int32) (u : Int32) (s0 : zSt) : Int32 × zSt :=
    bif (vX9_isSlot a s0) then
      fX9_other_a6 a u s0
    else
      fX9_other_a1 s0
set_option maxHeartbeats 4000000 in
set_option maxRecDepth 100000 in
theorem k_X9_other (l : Launch) (D : va_G) (kc : Nat → ClassId) (ad : Nat → Nat) (n : Nat) (hn : 216 ≤ n) (a : Int32) (u : Int32) (s0 : zSt) : zM l yX9_other cX9_other 3 (some .int) rX9_other (wX D kc ad n) [.ref (zad (wX D kc ad n) 215), .int a, .int u] s0 (zV1 (.int (zfst (fX9_other a u s0))) (zsnd (fX9_other a u s0))) := by
  refine z_of (own := RX9) (by decide +kernel) rfl (Nat.le_of_ble_eq_true rfl) ?_
  intro κ C R0
  refine j_at [(0, .ref (zad (wX D kc ad n) 215)), (1, .int a), (2, .int u)] ⟨rfl, rfl, rfl, trivial⟩ ?_
  refine j_iload_n C dX9_other_0 rfl rfl ?_
  refine j_callS1 C dX9_other_1 (k_X9_isSlot l D kc ad n (by omega) (a) _ ) zy_X9_isSlot mw_14_17 rfl rfl (Nat.le_of_ble_eq_true rfl) ⟨rfl, rfl, Nat.le_of_ble_eq_true rfl, Nat.le_of_ble_eq_true rfl⟩ ?_
  refine j_if_eqB (tgt := 14) C dX9_other_4 (by decide) (fun q1 => ?_) (fun q1 => ?_)
  · have hA2 : fX9_other a u s0 = fX9_other_a1 s0 := by have q1z := q1; (try dsimp only at q1z); unfold fX9_other; (try dsimp only); rw [q1z, cond_false]; (try rfl)
    refine j_bipush (v := -101) C dX9_other_14 (by decide +kernel) ?_
    exact j_iret (st := []) C R0 dX9_other_16 ⟨(by rw [hA2]; unfold fX9_other_a1; (try dsimp only); all_goals ((try simp only [zfst_mk, zsnd_mk]); all_goals rfl)), ((by rw [hA2]; unfold fX9_other_a1; (try dsimp only); all_goals ((try simp only [zfst_mk, zsnd_mk]); all_goals rfl)))⟩
  · have hA3 : fX9_other a u s0 = fX9_other_a6 a u s0 := by have q1z := q1; (try dsimp only at q1z); unfold fX9_other; (try dsimp only); rw [q1z, cond_true]; (try rfl)
    refine j_iload_n C dX9_other_7 rfl rfl ?_
    refine j_callS1 C dX9_other_8 (k_X9_isSlot l D kc ad n (by omega) (u) _ ) zy_X9_isSlot mw_14_17 rfl rfl (Nat.le_of_ble_eq_true rfl) ⟨rfl, rfl, Nat.le_of_ble_eq_true rfl, Nat.le_of_ble_eq_true rfl⟩ ?_
    refine j_if_neB (tgt := 17) C dX9_other_11 (by decide) (fun q4 => ?_) (fun q4 => ?_)
    · have hA5 : fX9_other_a6 a u s0 = fX9_other_a4 a u s0 := by have q4z := q4; (try dsimp only at q4z); unfold fX9_other_a6; (try dsimp only); rw [q4z, cond_true]; (try rfl)
      have hc6 := sl_of (x := a) (by assumption)
      have hc6b := hc6.2
      have hc7 := sl_of (x := u) (by assumption)
      have hc7b := hc7.2
      refine j_at [(0, .ref (zad (wX D kc ad n) 215)), (1, .int (nI (a.toNatClampNeg))), (2, .int (nI (u.toNatClampNeg)))] ⟨rfl, congrArg (fun q => some (Value.int q)) hc6.1, congrArg (fun q => some (Value.int q)) hc7.1, trivial⟩ ?_
      refine j_aload_n C dX9_other_17 rfl rfl ?_
      refine j_getR C dX9_other_18 (fx_RX9_55 D kc ad n) (show 11 ≤ 215 by decide) (show 215 < n by omega) ?_
      refine j_aload_n C dX9_other_21 rfl rfl ?_
      refine j_getR C dX9_other_22 (fx_RX9_13 D kc ad n) (show 11 ≤ 215 by decide) (show 215 < n by omega) ?_
      refine j_iload_n C dX9_other_25 rfl rfl ?_
      refine x_aald35 C dX9_other_26 (by omega) (by omega) ?_
      refine j_aload_n C dX9_other_27 rfl rfl ?_
      refine j_getR C dX9_other_28 (fx_RX9_95 D kc ad n) (show 11 ≤ 215 by decide) (show 215 < n by omega) ?_
      refine j_callV1 (T := TX0) (N := 14) C dX9_other_31 (k_X0_read l D kc ad n (by omega) (11 + a.toNatClampNeg) (sl_wa (n := n) a.toNatClampNeg (by omega) (by omega)).1 205 (by decide) (by omega) _ ) zy_X0_read mw_26_5 rfl rfl (show 11 ≤ 83 by decide) (show 83 < n by omega) rfl rfl (Nat.le_of_ble_eq_true rfl) ⟨rfl, rfl, Nat.le_of_ble_eq_true rfl, Nat.le_of_ble_eq_true rfl⟩ ?_
      refine j_nmS (fun t8 et8 => ?_)
      refine j_if_neB (tgt := 39) C dX9_other_34 (by decide) (fun q9 => ?_) (fun q9 => ?_)
      · have hA10 : fX9_other_a4 a u s0 = fX9_other_a2 u t8 := by (try rw [et8]); have q9z := q9; (try rw [et8] at q9z); (try dsimp only at q9z); unfold fX9_other_a4; (try dsimp only); rw [q9z, cond_true]; (try rfl)
        refine j_aload_n C dX9_other_39 rfl rfl ?_
        refine j_getR C dX9_other_40 (fx_RX9_55 D kc ad n) (show 11 ≤ 215 by decide) (show 215 < n by omega) ?_
        refine j_aload_n C dX9_other_43 rfl rfl ?_
        refine j_getR C dX9_other_44 (fx_RX9_95 D kc ad n) (show 11 ≤ 215 by decide) (show 215 < n by omega) ?_
        refine j_aload_n C dX9_other_47 rfl rfl ?_
        refine j_getR C dX9_other_48 (fx_RX9_82 D kc ad n) (show 11 ≤ 215 by decide) (show 215 < n by omega) ?_
        refine j_callV0 (T := TX0) (N := 14) C dX9_other_51 (k_X0_findOtherShape l D kc ad n (by omega) 205 (by decide) (by omega) 202 (⟨⟨rfl, rfl, by omega, by decide⟩, by decide⟩ : wa n 10 202) _ ) zy_X0_findOtherShape mw_31_17 rfl rfl (show 11 ≤ 83 by decide) (show 83 < n by omega) rfl rfl (Nat.le_of_ble_eq_true rfl) ⟨rfl, rfl, Nat.le_of_ble_eq_true rfl, Nat.le_of_ble_eq_true rfl⟩ ?_
        refine j_nmS (fun t11 et11 => ?_)
        refine j_aload_n C dX9_other_54 rfl rfl ?_
        refine j_getR C dX9_other_55 (fx_RX9_39 D kc ad n) (show 11 ≤ 215 by decide) (show 215 < n by omega) ?_
        refine j_aload_n C dX9_other_58 rfl rfl ?_
        refine j_getR C dX9_other_59 (fx_RX9_82 D kc ad n) (show 11 ≤ 215 by decide) (show 215 < n by omega) ?_
        refine j_aload_n C dX9_other_62 rfl rfl ?_
        refine j_getR C dX9_other_63 (fx_RX9_13 D kc ad n) (show 11 ≤ 215 by decide) (show 215 < n by omega) ?_
        refine j_iload_n C dX9_other_66 rfl rfl ?_
        refine x_aald35 C dX9_other_67 (by omega) (by omega) ?_
        refine j_callV0 (T := TX1) (N := 8) C dX9_other_68 (k_X1_store l D kc ad n (by omega) 202 (⟨⟨rfl, rfl, by omega, by decide⟩, by decide⟩ : wa n 10 202).1 (11 + u.toNatClampNeg) (sl_wa (n := n) u.toNatClampNeg (by omega) (by omega)) _ ) zy_X1_store mw_20_16 rfl rfl (show 11 ≤ 62 by decide) (show 62 < n by omega) rfl rfl (Nat.le_of_ble_eq_true rfl) ⟨rfl, rfl, Nat.le_of_ble_eq_true rfl, Nat.le_of_ble_eq_true rfl⟩ ?_
        refine j_nmS (fun t12 et12 => ?_)
        refine j_iconst (v := nI 1) C dX9_other_71 (by decide +kernel) ?_
        exact j_iret (st := []) C R0 dX9_other_72 ⟨(by rw [hA3, hA5, hA10]; (try rw [et12]); (try rw [et11]); unfold fX9_other_a2; (try dsimp only); all_goals ((try simp only [zfst_mk, zsnd_mk]); all_goals rfl)), ((by rw [hA3, hA5, hA10]; (try rw [et12]); (try rw [et11]); unfold fX9_other_a2; (try dsimp only); all_goals ((try simp only [zfst_mk, zsnd_mk]); all_goals rfl)))⟩
      · have hA13 : fX9_other_a4 a u s0 = fX9_other_a3 t8 := by (try rw [et8]); have q9z := q9; (try rw [et8] at q9z); (try dsimp only at q9z); unfold fX9_other_a4; (try dsimp only); rw [q9z, cond_false]; (try rfl)
        refine j_iconst (v := -1) C dX9_other_37 (by decide +kernel) ?_
        exact j_iret (st := []) C R0 dX9_other_38 ⟨(by rw [hA3, hA5, hA13]; unfold fX9_other_a3; (try dsimp only); all_goals ((try simp only [zfst_mk, zsnd_mk]); all_goals rfl)), ((by rw [hA3, hA5, hA13]; unfold fX9_other_a3; (try dsimp only); all_goals ((try simp only [zfst_mk, zsnd_mk]); all_goals rfl)))⟩
    · have hA14 : fX9_other_a6 a u s0 = fX9_other_a5 s0 := by have q4z := q4; (try dsimp only at q4z); unfold fX9_other_a6; (try dsimp only); rw [q4z, cond_false]; (try rfl)
      refine j_bipush (v := -101) C dX9_other_14 (by decide +kernel) ?_
      exact j_iret (st := []) C R0 dX9_other_16 ⟨(by rw [hA3, hA14]; unfold fX9_other_a5; (try dsimp only); all_goals ((try simp only [zfst_mk, zsnd_mk]); all_goals rfl)), ((by rw [hA3, hA14]; unfold fX9_other_a5; (try dsimp only); all_goals ((try simp only [zfst_mk, zsnd_mk]); all_goals rfl)))⟩
theorem k2q_fX9_other_a1 (s0 : zSt) : zk2s (fX9_other_a1 s0) = zk2 s0 := by
  unfold fX9_other_a1
  (try dsimp only)
  all_goals (simp only [zW_2, zL_2, zk2s_mk]; done)
theorem k2_fX9_other_a1 (s0 : zSt) : zk2 (zsnd (fX9_other_a1 s0)) = zk2 s0 := k2q_fX9_other_a1 s0
theorem k2q_fX9_other_a2 (u : Int32) (t8 : zSt) : zk2s (fX9_other_a2 u t8) = zk2 t8 := by
  unfold fX9_other_a2
  (try dsimp only)
  all_goals (simp only [zW_2, zL_2, k2_fX0_findOtherShape, k2_fX1_store, zk2s_mk]; done)
theorem k2_fX9_other_a2 (u : Int32) (t8 : zSt) : zk2 (zsnd (fX9_other_a2 u t8)) = zk2 t8 := k2q_fX9_other_a2 u t8
theorem k2q_fX9_other_a3 (t8 : zSt) : zk2s (fX9_other_a3 t8) = zk2 t8 := by
  unfold fX9_other_a3
  (try dsimp only)
  all_goals (simp only [zW_2, zL_2, zk2s_mk]; done)
theorem k2_fX9_other_a3 (t8 : zSt) : zk2 (zsnd (fX9_other_a3 t8)) = zk2 t8 := k2q_fX9_other_a3 t8
theorem k2q_fX9_other_a4 (a : Int32) (u : Int32) (s0 : zSt) : zk2s (fX9_other_a4 a u s0) = zk2 s0 := by
  unfold fX9_other_a4
  (try dsimp only)
  all_goals (refine cond_keep (fun r : Int32 × zSt => zk2s r) _ ?_ ?_ <;> (simp only [zW_2, zL_2, k2_fX0_read, k2_fX9_other_a2, k2_fX9_other_a3, k2q_fX0_read, k2q_fX9_other_a2, k2q_fX9_other_a3, zk2s_mk]; done))
theorem k2_fX9_other_a4 (a : Int32) (u : Int32) (s0 : zSt) : zk2 (zsnd (fX9_other_a4 a u s0)) = zk2 s0 := k2q_fX9_other_a4 a u s0
theorem k2q_fX9_other_a5 (s0 : zSt) : zk2s (fX9_other_a5 s0) = zk2 s0 := by
  unfold fX9_other_a5
  (try dsimp only)
  all_goals (simp only [zW_2, zL_2, zk2s_mk]; done)
theorem k2_fX9_other_a5 (s0 : zSt) : zk2 (zsnd (fX9_other_a5 s0)) = zk2 s0 := k2q_fX9_other_a5 s0
theorem k2q_fX9_other_a6 (a : Int32) (u : Int32) (s0 : zSt) : zk2s (fX9_other_a6 a u s0) = zk2 s0 := by
  unfold fX9_other_a6
  (try dsimp only)
  all_goals (refine cond_keep (fun r : Int32 × zSt => zk2s r) _ ?_ ?_ <;> (simp only [zW_2, zL_2, k2_fX9_other_a4, k2_fX9_other_a5, k2q_fX9_other_a4, k2q_fX9_other_a5, zk2s_mk]; done))
theorem k2_fX9_other_a6 (a : Int32) (u : Int32) (s0 : zSt) : zk2 (zsnd (fX9_other_a6 a u s0)) = zk2 s0 := k2q_fX9_other_a6 a u s0
theorem k2q_fX9_other (a : Int32) (u : Int32) (s0 : zSt) : zk2s (fX9_other a u s0) = zk2 s0 := by
  unfold fX9_other
  (try dsimp only)
  all_goals (refine cond_keep (fun r : Int32 × zSt => zk2s r) _ ?_ ?_ <;> (simp only [zW_2, zL_2, k2_fX9_other_a1, k2_fX9_other_a6, k2q_fX9_other_a1, k2q_fX9_other_a6, zk2s_mk]; done))
theorem k2_fX9_other (a : Int32) (u : Int32) (s0 : zSt) : zk2 (zsnd (fX9_other a u s0)) = zk2 s0 := k2q_fX9_other a u s0
theorem i2_fX9_other (a : Int32) (u : Int32) (s0 : zSt) (kk9 : Nat) : (zsnd (fX9_other a u s0)).2.2 kk9 = s0.2.2 kk9 := z2_I (k2_fX9_other a u s0) kk9
theorem i3_fX9_other (a : Int32) (u : Int32) (s0 : zSt) (kk9 : Nat) : zi (zsnd (fX9_other a u s0)) kk9 = zi s0 kk9 := zi_of (k2_fX9_other a u s0) kk9

def fX9_share_a1 (s0 : zSt) : Int32 × zSt :=
    ((-101 : Int32), s0)
def fX9_share_a2 (s0 : zSt) : Int32 × zSt :=
    ((-101 : Int32), s0)
def fX9_share_a3 (t18 : zSt) : Int32 × zSt :=
    (vX9_told false t18, t18)
def fX9_share_a4 (t18 : zSt) : Int32 × zSt :=
    (vX9_told true t18, t18)
def fX9_share_a5 (k : Int32) (a : Int32) (u : Int32) (s0 : zSt) : Int32 × zSt :=
    let t14 := zI s0 0 ((s0.2.2 0) - (nI (1)))
    let t15 := fX1_load (11 + a.toNatClampNeg) 202 t14
    let t16 := fX2_climb (11 + k.toNatClampNeg) 202 203 t15
    let t17 := fX1_store 203 (11 + u.toNatClampNeg) t16
    let t18 := zsnd (fX1_isZero 203 t17)
    bif (zfst (fX1_isZero 203 t17)) then
      fX9_share_a3 t18
    else
      fX9_share_a4 t18
def fX9_share_a6 (s0 : zSt) : Int32 × zSt :=
    ((-103 : Int32), s0)
def fX9_share_a7 (k : Int32) (a : Int32) (u : Int32) (s0 : zSt) : Int32 × zSt :=
    if nI (1) ≤ s0.2.2 0 then
      fX9_share_a5 k a u s0
    else
      fX9_share_a6 s0
def fX9_share_a8 (s0 : zSt) : Int32 × zSt :=
    ((-101 : Int32), s0)
def fX9_share_a9 (k : Int32) (a : Int32) (u : Int32) (s0 : zSt) : Int32 × zSt :=
    bif (vX9_isSlot u s0) then
      fX9_share_a7 k a u s0
    else
      fX9_share_a8 s0
def fX9_share_a10 (k : Int32) (a : Int32) (u : Int32) (s0 : zSt) : Int32 × zSt :=
    bif (vX9_isSlot a s0) then
      fX9_share_a9 k a u s0
    else
      fX9_share_a2 s0
def fX9_share (k : Int32) (a : Int32) (u : Int32) (s0 : zSt) : Int32 × zSt :=
    bif (vX9_isSlot k s0) then
      fX9_share_a10 k a u s0
    else
      fX9_share_a1 s0
set_option maxHeartbeats 4000000 in
set_option maxRecDepth 100000 in
theorem k_X9_share (l : Launch) (D : va_G) (kc : Nat → ClassId) (ad : Nat → Nat) (n : Nat) (hn : 216 ≤ n) (k : Int32) (a : Int32) (u : Int32) (s0 : zSt) : zM l yX9_share cX9_share 4 (some .int) rX9_share (wX D kc ad n) [.ref (zad (wX D kc ad n) 215), .int k, .int a, .int u] s0 (zV1 (.int (zfst (fX9_share k a u s0))) (zsnd (fX9_share k a u s0))) := by
  refine z_of (own := RX9) (by decide +kernel) rfl (Nat.le_of_ble_eq_true rfl) ?_
  intro κ C R0
  refine j_at [(0, .ref (zad (wX D kc ad n) 215)), (1, .int k), (2, .int a), (3, .int u)] ⟨rfl, rfl, rfl, rfl, trivial⟩ ?_
  refine j_iload_n C dX9_share_0 rfl rfl ?_
  refine j_callS1 C dX9_share_1 (k_X9_isSlot l D kc ad n (by omega) (k) _ ) zy_X9_isSlot mw_14_17 rfl rfl (Nat.le_of_ble_eq_true rfl) ⟨rfl, rfl, Nat.le_of_ble_eq_true rfl, Nat.le_of_ble_eq_true rfl⟩ ?_
  refine j_if_eqB (tgt := 21) C dX9_share_4 (by decide) (fun q1 => ?_) (fun q1 => ?_)
  · have hA2 : fX9_share k a u s0 = fX9_share_a1 s0 := by have q1z := q1; (try dsimp only at q1z); unfold fX9_share; (try dsimp only); rw [q1z, cond_false]; (try rfl)
    refine j_bipush (v := -101) C dX9_share_21 (by decide +kernel) ?_
    exact j_iret (st := []) C R0 dX9_share_23 ⟨(by rw [hA2]; unfold fX9_share_a1; (try dsimp only); all_goals ((try simp only [zfst_mk, zsnd_mk]); all_goals rfl)), ((by rw [hA2]; unfold fX9_share_a1; (try dsimp only); all_goals ((try simp only [zfst_mk, zsnd_mk]); all_goals rfl)))⟩
  · have hA3 : fX9_share k a u s0 = fX9_share_a10 k a u s0 := by have q1z := q1; (try dsimp only at q1z); unfold fX9_share; (try dsimp only); rw [q1z, cond_true]; (try rfl)
    refine j_iload_n C dX9_share_7 rfl rfl ?_
    refine j_callS1 C dX9_share_8 (k_X9_isSlot l D kc ad n (by omega) (a) _ ) zy_X9_isSlot mw_14_17 rfl rfl (Nat.le_of_ble_eq_true rfl) ⟨rfl, rfl, Nat.le_of_ble_eq_true rfl, Nat.le_of_ble_eq_true rfl⟩ ?_
    refine j_if_eqB (tgt := 21) C dX9_share_11 (by decide) (fun q4 => ?_) (fun q4 => ?_)
    · have hA5 : fX9_share_a10 k a u s0 = fX9_share_a2 s0 := by have q4z := q4; (try dsimp only at q4z); unfold fX9_share_a10; (try dsimp only); rw [q4z, cond_false]; (try rfl)
      refine j_bipush (v := -101) C dX9_share_21 (by decide +kernel) ?_
      exact j_iret (st := []) C R0 dX9_share_23 ⟨(by rw [hA3, hA5]; unfold fX9_share_a2; (try dsimp only); all_goals ((try simp only [zfst_mk, zsnd_mk]); all_goals rfl)), ((by rw [hA3, hA5]; unfold fX9_share_a2; (try dsimp only); all_goals ((try simp only [zfst_mk, zsnd_mk]); all_goals rfl)))⟩
    · have hA6 : fX9_share_a10 k a u s0 = fX9_share_a9 k a u s0 := by have q4z := q4; (try dsimp only at q4z); unfold fX9_share_a10; (try dsimp only); rw [q4z, cond_true]; (try rfl)
      refine j_iload_n C dX9_share_14 rfl rfl ?_
      refine j_callS1 C dX9_share_15 (k_X9_isSlot l D kc ad n (by omega) (u) _ ) zy_X9_isSlot mw_14_17 rfl rfl (Nat.le_of_ble_eq_true rfl) ⟨rfl, rfl, Nat.le_of_ble_eq_true rfl, Nat.le_of_ble_eq_true rfl⟩ ?_
      refine j_if_neB (tgt := 24) C dX9_share_18 (by decide) (fun q7 => ?_) (fun q7 => ?_)
      · have hA8 : fX9_share_a9 k a u s0 = fX9_share_a7 k a u s0 := by have q7z := q7; (try dsimp only at q7z); unfold fX9_share_a9; (try dsimp only); rw [q7z, cond_true]; (try rfl)
        have hc9 := sl_of (x := k) (by assumption)
        have hc9b := hc9.2
        have hc10 := sl_of (x := a) (by assumption)
        have hc10b := hc10.2
        have hc11 := sl_of (x := u) (by assumption)
        have hc11b := hc11.2
        refine j_at [(0, .ref (zad (wX D kc ad n) 215)), (1, .int (nI (k.toNatClampNeg))), (2, .int (nI (a.toNatClampNeg))), (3, .int (nI (u.toNatClampNeg)))] ⟨rfl, congrArg (fun q => some (Value.int q)) hc9.1, congrArg (fun q => some (Value.int q)) hc10.1, congrArg (fun q => some (Value.int q)) hc11.1, trivial⟩ ?_
        refine j_aload_n C dX9_share_24 rfl rfl ?_
        refine j_getI C dX9_share_25 (fx_RX9_23 D kc ad n) (show 11 ≤ 215 by decide) (show 215 < n by omega) ?_
        refine j_iconst (v := nI 1) C dX9_share_28 (by decide +kernel) ?_
        refine j_icmp_ge (tgt := 35) C dX9_share_29 (by decide) (fun q12 => ?_) (fun q12 => ?_)
        · have hA13 : fX9_share_a7 k a u s0 = fX9_share_a5 k a u s0 := by have q12z := q12; (try dsimp only at q12z); unfold fX9_share_a7; (try dsimp only); rw [if_pos q12z]; (try rfl)
          refine j_aload_n C dX9_share_35 rfl rfl ?_
          refine j_dup C dX9_share_36 rfl ?_
          refine j_getI C dX9_share_37 (fx_RX9_23 D kc ad n) (show 11 ≤ 215 by decide) (show 215 < n by omega) ?_
          refine j_iconst (v := nI 1) C dX9_share_40 (by decide +kernel) ?_
          refine j_isub C dX9_share_41 ?_
          refine j_putI C dX9_share_42 (pfx_RX9_23 D kc ad n) (ox_0 D kc ad n) (show 11 ≤ 215 by decide) (show 215 < n by omega) ?_
          refine j_nmS (fun t14 et14 => ?_)
          refine j_aload_n C dX9_share_45 rfl rfl ?_
          refine j_getR C dX9_share_46 (fx_RX9_39 D kc ad n) (show 11 ≤ 215 by decide) (show 215 < n by omega) ?_
          refine j_aload_n C dX9_share_49 rfl rfl ?_
          refine j_getR C dX9_share_50 (fx_RX9_13 D kc ad n) (show 11 ≤ 215 by decide) (show 215 < n by omega) ?_
          refine j_iload_n C dX9_share_53 rfl rfl ?_
          refine x_aald35 C dX9_share_54 (by omega) (by omega) ?_
          refine j_aload_n C dX9_share_55 rfl rfl ?_
          refine j_getR C dX9_share_56 (fx_RX9_82 D kc ad n) (show 11 ≤ 215 by decide) (show 215 < n by omega) ?_
          refine j_callV0 (T := TX1) (N := 8) C dX9_share_59 (k_X1_load l D kc ad n (by omega) (11 + a.toNatClampNeg) (sl_wa (n := n) a.toNatClampNeg (by omega) (by omega)).1 202 (⟨⟨rfl, rfl, by omega, by decide⟩, by decide⟩ : wa n 10 202) _ ) zy_X1_load mw_18_18 rfl rfl (show 11 ≤ 62 by decide) (show 62 < n by omega) rfl rfl (Nat.le_of_ble_eq_true rfl) ⟨rfl, rfl, Nat.le_of_ble_eq_true rfl, Nat.le_of_ble_eq_true rfl⟩ ?_
          refine j_nmS (fun t15 et15 => ?_)
          refine j_aload_n C dX9_share_62 rfl rfl ?_
          refine j_getR C dX9_share_63 (fx_RX9_62 D kc ad n) (show 11 ≤ 215 by decide) (show 215 < n by omega) ?_
          refine j_aload_n C dX9_share_66 rfl rfl ?_
          refine j_getR C dX9_share_67 (fx_RX9_13 D kc ad n) (show 11 ≤ 215 by decide) (show 215 < n by omega) ?_
          refine j_iload_n C dX9_share_70 rfl rfl ?_
          refine x_aald35 C dX9_share_71 (by omega) (by omega) ?_
          refine j_aload_n C dX9_share_72 rfl rfl ?_
          refine j_getR C dX9_share_73 (fx_RX9_82 D kc ad n) (show 11 ≤ 215 by decide) (show 215 < n by omega) ?_
          refine j_aload_n C dX9_share_76 rfl rfl ?_
          refine j_getR C dX9_share_77 (fx_RX9_86 D kc ad n) (show 11 ≤ 215 by decide) (show 215 < n by omega) ?_
          refine j_callV0 (T := TX2) (N := 11) C dX9_share_80 (k_X2_climb l D kc ad n (by omega) (11 + k.toNatClampNeg) (sl_wa (n := n) k.toNatClampNeg (by omega) (by omega)).1 202 (⟨⟨rfl, rfl, by omega, by decide⟩, by decide⟩ : wa n 10 202).1 203 (⟨⟨rfl, rfl, by omega, by decide⟩, by decide⟩ : wa n 10 203) _ ) zy_X2_climb mw_32_5 rfl rfl (show 11 ≤ 175 by decide) (show 175 < n by omega) rfl rfl (Nat.le_of_ble_eq_true rfl) ⟨rfl, rfl, Nat.le_of_ble_eq_true rfl, Nat.le_of_ble_eq_true rfl⟩ ?_
          refine j_nmS (fun t16 et16 => ?_)
          refine j_aload_n C dX9_share_83 rfl rfl ?_
          refine j_getR C dX9_share_84 (fx_RX9_39 D kc ad n) (show 11 ≤ 215 by decide) (show 215 < n by omega) ?_
          refine j_aload_n C dX9_share_87 rfl rfl ?_
          refine j_getR C dX9_share_88 (fx_RX9_86 D kc ad n) (show 11 ≤ 215 by decide) (show 215 < n by omega) ?_
          refine j_aload_n C dX9_share_91 rfl rfl ?_
          refine j_getR C dX9_share_92 (fx_RX9_13 D kc ad n) (show 11 ≤ 215 by decide) (show 215 < n by omega) ?_
          refine j_iload_n C dX9_share_95 rfl rfl ?_
          refine x_aald35 C dX9_share_96 (by omega) (by omega) ?_
          refine j_callV0 (T := TX1) (N := 8) C dX9_share_97 (k_X1_store l D kc ad n (by omega) 203 (⟨⟨rfl, rfl, by omega, by decide⟩, by decide⟩ : wa n 10 203).1 (11 + u.toNatClampNeg) (sl_wa (n := n) u.toNatClampNeg (by omega) (by omega)) _ ) zy_X1_store mw_20_16 rfl rfl (show 11 ≤ 62 by decide) (show 62 < n by omega) rfl rfl (Nat.le_of_ble_eq_true rfl) ⟨rfl, rfl, Nat.le_of_ble_eq_true rfl, Nat.le_of_ble_eq_true rfl⟩ ?_
          refine j_nmS (fun t17 et17 => ?_)
          refine j_aload_n C dX9_share_100 rfl rfl ?_
          refine j_getR C dX9_share_101 (fx_RX9_39 D kc ad n) (show 11 ≤ 215 by decide) (show 215 < n by omega) ?_
          refine j_aload_n C dX9_share_104 rfl rfl ?_
          refine j_getR C dX9_share_105 (fx_RX9_86 D kc ad n) (show 11 ≤ 215 by decide) (show 215 < n by omega) ?_
          refine j_callV1 (T := TX1) (N := 8) C dX9_share_108 (k_X1_isZero l D kc ad n (by omega) 203 (⟨⟨rfl, rfl, by omega, by decide⟩, by decide⟩ : wa n 10 203).1 _ ) zy_X1_isZero mw_18_19 rfl rfl (show 11 ≤ 62 by decide) (show 62 < n by omega) rfl rfl (Nat.le_of_ble_eq_true rfl) ⟨rfl, rfl, Nat.le_of_ble_eq_true rfl, Nat.le_of_ble_eq_true rfl⟩ ?_
          refine j_nmS (fun t18 et18 => ?_)
          refine j_if_neB (tgt := 118) C dX9_share_111 (by decide) (fun q19 => ?_) (fun q19 => ?_)
          · have hA20 : fX9_share_a5 k a u s0 = fX9_share_a3 t18 := by (try rw [et18]); (try rw [et17]); (try rw [et16]); (try rw [et15]); (try rw [et14]); have q19z := q19; (try rw [et18] at q19z); (try rw [et17] at q19z); (try rw [et16] at q19z); (try rw [et15] at q19z); (try rw [et14] at q19z); (try dsimp only at q19z); unfold fX9_share_a5; (try dsimp only); rw [q19z, cond_true]; (try rfl)
            refine j_iconst (v := nI 0) C dX9_share_118 (by decide +kernel) ?_
            refine j_top (v := .int (bI false)) (by decide +kernel) ?_
            refine j_callS1 C dX9_share_119 (k_X9_told l D kc ad n (by omega) false _ ) zy_X9_told mw_23_4 rfl rfl (Nat.le_of_ble_eq_true rfl) ⟨rfl, rfl, Nat.le_of_ble_eq_true rfl, Nat.le_of_ble_eq_true rfl⟩ ?_
            exact j_iret (st := []) C R0 dX9_share_122 ⟨(by rw [hA3, hA6, hA8, hA13, hA20]; unfold fX9_share_a3; (try dsimp only); all_goals ((try simp only [zfst_mk, zsnd_mk]); all_goals rfl)), ((by rw [hA3, hA6, hA8, hA13, hA20]; unfold fX9_share_a3; (try dsimp only); all_goals ((try simp only [zfst_mk, zsnd_mk]); all_goals rfl)))⟩
          · have hA21 : fX9_share_a5 k a u s0 = fX9_share_a4 t18 := by (try rw [et18]); (try rw [et17]); (try rw [et16]); (try rw [et15]); (try rw [et14]); have q19z := q19; (try rw [et18] at q19z); (try rw [et17] at q19z); (try rw [et16] at q19z); (try rw [et15] at q19z); (try rw [et14] at q19z); (try dsimp only at q19z); unfold fX9_share_a5; (try dsimp only); rw [q19z, cond_false]; (try rfl)
            refine j_iconst (v := nI 1) C dX9_share_114 (by decide +kernel) ?_
            refine j_goto (tgt := 119) C dX9_share_115 (by decide) ?_
            refine j_top (v := .int (bI true)) (by decide +kernel) ?_
            refine j_callS1 C dX9_share_119 (k_X9_told l D kc ad n (by omega) true _ ) zy_X9_told mw_23_4 rfl rfl (Nat.le_of_ble_eq_true rfl) ⟨rfl, rfl, Nat.le_of_ble_eq_true rfl, Nat.le_of_ble_eq_true rfl⟩ ?_
            exact j_iret (st := []) C R0 dX9_share_122 ⟨(by rw [hA3, hA6, hA8, hA13, hA21]; unfold fX9_share_a4; (try dsimp only); all_goals ((try simp only [zfst_mk, zsnd_mk]); all_goals rfl)), ((by rw [hA3, hA6, hA8, hA13, hA21]; unfold fX9_share_a4; (try dsimp only); all_goals ((try simp only [zfst_mk, zsnd_mk]); all_goals rfl)))⟩
        · have hA22 : fX9_share_a7 k a u s0 = fX9_share_a6 s0 := by have q12z := q12; (try dsimp only at q12z); unfold fX9_share_a7; (try dsimp only); rw [if_neg q12z]; (try rfl)
          refine j_bipush (v := -103) C dX9_share_32 (by decide +kernel) ?_
          exact j_iret (st := []) C R0 dX9_share_34 ⟨(by rw [hA3, hA6, hA8, hA22]; unfold fX9_share_a6; (try dsimp only); all_goals ((try simp only [zfst_mk, zsnd_mk]); all_goals rfl)), ((by rw [hA3, hA6, hA8, hA22]; unfold fX9_share_a6; (try dsimp only); all_goals ((try simp only [zfst_mk, zsnd_mk]); all_goals rfl)))⟩
      · have hA23 : fX9_share_a9 k a u s0 = fX9_share_a8 s0 := by have q7z := q7; (try dsimp only at q7z); unfold fX9_share_a9; (try dsimp only); rw [q7z, cond_false]; (try rfl)
        refine j_bipush (v := -101) C dX9_share_21 (by decide +kernel) ?_
        exact j_iret (st := []) C R0 dX9_share_23 ⟨(by rw [hA3, hA6, hA23]; unfold fX9_share_a8; (try dsimp only); all_goals ((try simp only [zfst_mk, zsnd_mk]); all_goals rfl)), ((by rw [hA3, hA6, hA23]; unfold fX9_share_a8; (try dsimp only); all_goals ((try simp only [zfst_mk, zsnd_mk]); all_goals rfl)))⟩

def fX9_digest_a1 (u : Int32) (T0 : Nat) (s0 : zSt) : Int32 × zSt :=
    let t4 := fX5_begin  s0
    let t5 := fX5_takeText 0 T0 t4
    let t6 := fX5_finish 204 (0 + T0) t5
    let t7 := zL t6 (11 + u.toNatClampNeg) (va_cpy (t6.1 204) (t6.1 (11 + u.toNatClampNeg)) 0 0 4)
    let t8 := zL t7 (11 + (u.toNatClampNeg + 1)) (va_cpy (t7.1 204) (t7.1 (11 + (u.toNatClampNeg + 1))) 4 0 4)
    (nI (1), t8)
def fX9_digest_a2 (s0 : zSt) : Int32 × zSt :=
    ((-101 : Int32), s0)
def fX9_digest (u : Int32) (T0 : Nat) (s0 : zSt) : Int32 × zSt :=
    bif (vX9_isPair u s0) then
      fX9_digest_a1 u T0 s0
    else
      fX9_digest_a2 s0
set_option maxHeartbeats 4000000 in
set_option maxRecDepth 100000 in
theorem k_X9_digest (l : Launch) (D : va_G) (kc : Nat → ClassId) (ad : Nat → Nat) (n : Nat) (hn : 216 ≤ n) (u : Int32) (T0 : Nat) (s0 : zSt) (htx : s0.2.2 4 = nI T0) (hT0 : T0 ≤ 400) : zM l yX9_digest cX9_digest 2 (some .int) rX9_digest (wX D kc ad n) [.ref (zad (wX D kc ad n) 215), .int u] s0 (zV1 (.int (zfst (fX9_digest u T0 s0))) (zsnd (fX9_digest u T0 s0))) := by
  refine z_of (own := RX9) (by decide +kernel) rfl (Nat.le_of_ble_eq_true rfl) ?_
  intro κ C R0
  refine j_at [(0, .ref (zad (wX D kc ad n) 215)), (1, .int u)] ⟨rfl, rfl, trivial⟩ ?_
  refine j_iload_n C dX9_digest_0 rfl rfl ?_
  refine j_callS1 C dX9_digest_1 (k_X9_isPair l D kc ad n (by omega) (u) _ ) zy_X9_isPair mw_34_4 rfl rfl (Nat.le_of_ble_eq_true rfl) ⟨rfl, rfl, Nat.le_of_ble_eq_true rfl, Nat.le_of_ble_eq_true rfl⟩ ?_
  refine j_if_neB (tgt := 10) C dX9_digest_4 (by decide) (fun q1 => ?_) (fun q1 => ?_)
  · have hA2 : fX9_digest u T0 s0 = fX9_digest_a1 u T0 s0 := by have q1z := q1; (try dsimp only at q1z); unfold fX9_digest; (try dsimp only); rw [q1z, cond_true]; (try rfl)
    have hc3 := pr_of (x := u) (by assumption)
    have hc3b := hc3.2
    refine j_at [(0, .ref (zad (wX D kc ad n) 215)), (1, .int (nI (u.toNatClampNeg)))] ⟨rfl, congrArg (fun q => some (Value.int q)) hc3.1, trivial⟩ ?_
    refine j_aload_n C dX9_digest_10 rfl rfl ?_
    refine j_getR C dX9_digest_11 (fx_RX9_69 D kc ad n) (show 11 ≤ 215 by decide) (show 215 < n by omega) ?_
    refine j_callV0 (T := TX5) (N := 4) C dX9_digest_14 (k_X5_begin l D kc ad n (by omega)  _ ) zy_X5_begin mw_34_7 rfl rfl (show 11 ≤ 179 by decide) (show 179 < n by omega) rfl rfl (Nat.le_of_ble_eq_true rfl) ⟨rfl, rfl, Nat.le_of_ble_eq_true rfl, Nat.le_of_ble_eq_true rfl⟩ ?_
    refine j_nmS (fun t4 et4 => ?_)
    refine j_aload_n C dX9_digest_17 rfl rfl ?_
    refine j_getR C dX9_digest_18 (fx_RX9_69 D kc ad n) (show 11 ≤ 215 by decide) (show 215 < n by omega) ?_
    refine j_aload_n C dX9_digest_21 rfl rfl ?_
    refine j_getR C dX9_digest_22 (fx_RX9_19 D kc ad n) (show 11 ≤ 215 by decide) (show 215 < n by omega) ?_
    refine j_callV0 (T := TX5) (N := 4) C dX9_digest_25 (k_X5_takeText l D kc ad n (by omega) 0 T0 _ (by (try rw [et4]); simp (maxDischargeDepth := 12) only [zL_I, zW_I, fin_oth, tr_len, tt_len, bg_len, tr_4, tt_4, bg_4, htx]) (by (try rw [et4]); simp (maxDischargeDepth := 12) only [zL_I, zW_I, fin_oth, tr_len, tt_len, bg_len, tr_4, tt_4, bg_4, htx]) (by omega) (by omega)) zy_X5_takeText mw_34_11 rfl rfl (show 11 ≤ 179 by decide) (show 179 < n by omega) rfl rfl (Nat.le_of_ble_eq_true rfl) ⟨rfl, rfl, Nat.le_of_ble_eq_true rfl, Nat.le_of_ble_eq_true rfl⟩ ?_
    refine j_nmS (fun t5 et5 => ?_)
    refine j_aload_n C dX9_digest_28 rfl rfl ?_
    refine j_getR C dX9_digest_29 (fx_RX9_69 D kc ad n) (show 11 ≤ 215 by decide) (show 215 < n by omega) ?_
    refine j_aload_n C dX9_digest_32 rfl rfl ?_
    refine j_getR C dX9_digest_33 (fx_RX9_89 D kc ad n) (show 11 ≤ 215 by decide) (show 215 < n by omega) ?_
    refine j_callV0 (T := TX5) (N := 4) C dX9_digest_36 (k_X5_finish l D kc ad n (by omega) 204 (⟨⟨rfl, rfl, by omega, by decide⟩, by decide⟩ : wa n 8 204) (0 + T0) _ (by (try rw [et5]); (try rw [et4]);  exact tt_len 0 T0 _ (bg_len _)) (by omega)) zy_X5_finish mw_34_21 rfl rfl (show 11 ≤ 179 by decide) (show 179 < n by omega) rfl rfl (Nat.le_of_ble_eq_true rfl) ⟨rfl, rfl, Nat.le_of_ble_eq_true rfl, Nat.le_of_ble_eq_true rfl⟩ ?_
    refine j_nmS (fun t6 et6 => ?_)
    refine j_aload_n C dX9_digest_39 rfl rfl ?_
    refine j_getR C dX9_digest_40 (fx_RX9_89 D kc ad n) (show 11 ≤ 215 by decide) (show 215 < n by omega) ?_
    refine j_iconst (v := nI 0) C dX9_digest_43 (by decide +kernel) ?_
    refine j_aload_n C dX9_digest_44 rfl rfl ?_
    refine j_getR C dX9_digest_45 (fx_RX9_13 D kc ad n) (show 11 ≤ 215 by decide) (show 215 < n by omega) ?_
    refine j_iload_n C dX9_digest_48 rfl rfl ?_
    refine x_aald35 C dX9_digest_49 (by omega) (by omega) ?_
    refine j_iconst (v := nI 0) C dX9_digest_50 (by decide +kernel) ?_
    refine j_iconst (v := nI 4) C dX9_digest_51 (by decide +kernel) ?_
    refine x_copyl C dX9_digest_52 mw_34_3 (⟨⟨rfl, rfl, by omega, by decide⟩, by decide⟩ : wa n 8 204).1 (sl_wa (n := n) u.toNatClampNeg (by omega) (by omega)) (by omega) (by omega) ⟨Nat.le_of_ble_eq_true rfl, Nat.le_of_ble_eq_true rfl⟩ ?_
    refine j_nmS (fun t7 et7 => ?_)
    refine j_aload_n C dX9_digest_55 rfl rfl ?_
    refine j_getR C dX9_digest_56 (fx_RX9_89 D kc ad n) (show 11 ≤ 215 by decide) (show 215 < n by omega) ?_
    refine j_iconst (v := nI 4) C dX9_digest_59 (by decide +kernel) ?_
    refine j_aload_n C dX9_digest_60 rfl rfl ?_
    refine j_getR C dX9_digest_61 (fx_RX9_13 D kc ad n) (show 11 ≤ 215 by decide) (show 215 < n by omega) ?_
    refine j_iload_n C dX9_digest_64 rfl rfl ?_
    refine j_iconst (v := nI 1) C dX9_digest_65 (by decide +kernel) ?_
    refine j_iaddN C dX9_digest_66 ?_
    refine x_aald35 C dX9_digest_67 (by omega) (by omega) ?_
    refine j_iconst (v := nI 0) C dX9_digest_68 (by decide +kernel) ?_
    refine j_iconst (v := nI 4) C dX9_digest_69 (by decide +kernel) ?_
    refine x_copyl C dX9_digest_70 mw_34_3 (⟨⟨rfl, rfl, by omega, by decide⟩, by decide⟩ : wa n 8 204).1 (sl_wa (n := n) (u.toNatClampNeg + 1) (by omega) (by omega)) (by omega) (by omega) ⟨Nat.le_of_ble_eq_true rfl, Nat.le_of_ble_eq_true rfl⟩ ?_
    refine j_nmS (fun t8 et8 => ?_)
    refine j_iconst (v := nI 1) C dX9_digest_73 (by decide +kernel) ?_
    exact j_iret (st := []) C R0 dX9_digest_74 ⟨(by rw [hA2]; (try rw [et8]); (try rw [et7]); (try rw [et6]); (try rw [et5]); (try rw [et4]); unfold fX9_digest_a1; (try dsimp only); all_goals ((try simp only [zfst_mk, zsnd_mk]); all_goals rfl)), ((by rw [hA2]; (try rw [et8]); (try rw [et7]); (try rw [et6]); (try rw [et5]); (try rw [et4]); unfold fX9_digest_a1; (try dsimp only); all_goals ((try simp only [zfst_mk, zsnd_mk]); all_goals rfl)))⟩
  · have hA9 : fX9_digest u T0 s0 = fX9_digest_a2 s0 := by have q1z := q1; (try dsimp only at q1z); unfold fX9_digest; (try dsimp only); rw [q1z, cond_false]; (try rfl)
    refine j_bipush (v := -101) C dX9_digest_7 (by decide +kernel) ?_
    exact j_iret (st := []) C R0 dX9_digest_9 ⟨(by rw [hA9]; unfold fX9_digest_a2; (try dsimp only); all_goals ((try simp only [zfst_mk, zsnd_mk]); all_goals rfl)), ((by rw [hA9]; unfold fX9_digest_a2; (try dsimp only); all_goals ((try simp only [zfst_mk, zsnd_mk]); all_goals rfl)))⟩

def fX9_key_a1 (s0 : zSt) : Int32 × zSt :=
    ((-101 : Int32), s0)
def fX9_key_a2 (a : Int32) (u : Int32) (s0 : zSt) : Int32 × zSt :=
    let t10 := zI s0 0 ((s0.2.2 0) - (nI (1)))
    let t11 := fX6_makeKey (11 + a.toNatClampNeg) (11 + u.toNatClampNeg) t10
    (nI (1), t11)
def fX9_key_a3 (s0 : zSt) : Int32 × zSt :=
    ((-103 : Int32), s0)
def fX9_key_a4 (a : Int32) (u : Int32) (s0 : zSt) : Int32 × zSt :=
    if nI (1) ≤ s0.2.2 0 then
      fX9_key_a2 a u s0
    else
      fX9_key_a3 s0
def fX9_key_a5 (s0 : zSt) : Int32 × zSt :=
    ((-101 : Int32), s0)
def fX9_key_a6 (a : Int32) (u : Int32) (s0 : zSt) : Int32 × zSt :=
    bif (vX9_isSlot u s0) then
      fX9_key_a4 a u s0
    else
      fX9_key_a5 s0
def fX9_key (a : Int32) (u : Int32) (s0 : zSt) : Int32 × zSt :=
    bif (vX9_isSlot a s0) then
      fX9_key_a6 a u s0
    else
      fX9_key_a1 s0
set_option maxHeartbeats 4000000 in
set_option maxRecDepth 100000 in
theorem k_X9_key (l : Launch) (D : va_G) (kc : Nat → ClassId) (ad : Nat → Nat) (n : Nat) (hn : 216 ≤ n) (a : Int32) (u : Int32) (s0 : zSt) : zM l yX9_key cX9_key 3 (some .int) rX9_key (wX D kc ad n) [.ref (zad (wX D kc ad n) 215), .int a, .int u] s0 (zV1 (.int (zfst (fX9_key a u s0))) (zsnd (fX9_key a u s0))) := by
  refine z_of (own := RX9) (by decide +kernel) rfl (Nat.le_of_ble_eq_true rfl) ?_
  intro κ C R0
  refine j_at [(0, .ref (zad (wX D kc ad n) 215)), (1, .int a), (2, .int u)] ⟨rfl, rfl, rfl, trivial⟩ ?_
  refine j_iload_n C dX9_key_0 rfl rfl ?_
  refine j_callS1 C dX9_key_1 (k_X9_isSlot l D kc ad n (by omega) (a) _ ) zy_X9_isSlot mw_14_17 rfl rfl (Nat.le_of_ble_eq_true rfl) ⟨rfl, rfl, Nat.le_of_ble_eq_true rfl, Nat.le_of_ble_eq_true rfl⟩ ?_
  refine j_if_eqB (tgt := 14) C dX9_key_4 (by decide) (fun q1 => ?_) (fun q1 => ?_)
  · have hA2 : fX9_key a u s0 = fX9_key_a1 s0 := by have q1z := q1; (try dsimp only at q1z); unfold fX9_key; (try dsimp only); rw [q1z, cond_false]; (try rfl)
    refine j_bipush (v := -101) C dX9_key_14 (by decide +kernel) ?_
    exact j_iret (st := []) C R0 dX9_key_16 ⟨(by rw [hA2]; unfold fX9_key_a1; (try dsimp only); all_goals ((try simp only [zfst_mk, zsnd_mk]); all_goals rfl)), ((by rw [hA2]; unfold fX9_key_a1; (try dsimp only); all_goals ((try simp only [zfst_mk, zsnd_mk]); all_goals rfl)))⟩
  · have hA3 : fX9_key a u s0 = fX9_key_a6 a u s0 := by have q1z := q1; (try dsimp only at q1z); unfold fX9_key; (try dsimp only); rw [q1z, cond_true]; (try rfl)
    refine j_iload_n C dX9_key_7 rfl rfl ?_
    refine j_callS1 C dX9_key_8 (k_X9_isSlot l D kc ad n (by omega) (u) _ ) zy_X9_isSlot mw_14_17 rfl rfl (Nat.le_of_ble_eq_true rfl) ⟨rfl, rfl, Nat.le_of_ble_eq_true rfl, Nat.le_of_ble_eq_true rfl⟩ ?_
    refine j_if_neB (tgt := 17) C dX9_key_11 (by decide) (fun q4 => ?_) (fun q4 => ?_)
    · have hA5 : fX9_key_a6 a u s0 = fX9_key_a4 a u s0 := by have q4z := q4; (try dsimp only at q4z); unfold fX9_key_a6; (try dsimp only); rw [q4z, cond_true]; (try rfl)
      have hc6 := sl_of (x := a) (by assumption)
      have hc6b := hc6.2
      have hc7 := sl_of (x := u) (by assumption)
      have hc7b := hc7.2
      refine j_at [(0, .ref (zad (wX D kc ad n) 215)), (1, .int (nI (a.toNatClampNeg))), (2, .int (nI (u.toNatClampNeg)))] ⟨rfl, congrArg (fun q => some (Value.int q)) hc6.1, congrArg (fun q => some (Value.int q)) hc7.1, trivial⟩ ?_
      refine j_aload_n C dX9_key_17 rfl rfl ?_
      refine j_getI C dX9_key_18 (fx_RX9_23 D kc ad n) (show 11 ≤ 215 by decide) (show 215 < n by omega) ?_
      refine j_iconst (v := nI 1) C dX9_key_21 (by decide +kernel) ?_
      refine j_icmp_ge (tgt := 28) C dX9_key_22 (by decide) (fun q8 => ?_) (fun q8 => ?_)
      · have hA9 : fX9_key_a4 a u s0 = fX9_key_a2 a u s0 := by have q8z := q8; (try dsimp only at q8z); unfold fX9_key_a4; (try dsimp only); rw [if_pos q8z]; (try rfl)
        refine j_aload_n C dX9_key_28 rfl rfl ?_
        refine j_dup C dX9_key_29 rfl ?_
        refine j_getI C dX9_key_30 (fx_RX9_23 D kc ad n) (show 11 ≤ 215 by decide) (show 215 < n by omega) ?_
        refine j_iconst (v := nI 1) C dX9_key_33 (by decide +kernel) ?_
        refine j_isub C dX9_key_34 ?_
        refine j_putI C dX9_key_35 (pfx_RX9_23 D kc ad n) (ox_0 D kc ad n) (show 11 ≤ 215 by decide) (show 215 < n by omega) ?_
        refine j_nmS (fun t10 et10 => ?_)
        refine j_aload_n C dX9_key_38 rfl rfl ?_
        refine j_getR C dX9_key_39 (fx_RX9_78 D kc ad n) (show 11 ≤ 215 by decide) (show 215 < n by omega) ?_
        refine j_aload_n C dX9_key_42 rfl rfl ?_
        refine j_getR C dX9_key_43 (fx_RX9_13 D kc ad n) (show 11 ≤ 215 by decide) (show 215 < n by omega) ?_
        refine j_iload_n C dX9_key_46 rfl rfl ?_
        refine x_aald35 C dX9_key_47 (by omega) (by omega) ?_
        refine j_aload_n C dX9_key_48 rfl rfl ?_
        refine j_getR C dX9_key_49 (fx_RX9_13 D kc ad n) (show 11 ≤ 215 by decide) (show 215 < n by omega) ?_
        refine j_iload_n C dX9_key_52 rfl rfl ?_
        refine x_aald35 C dX9_key_53 (by omega) (by omega) ?_
        refine j_callV0 (T := TX6) (N := 12) C dX9_key_54 (k_X6_makeKey l D kc ad n (by omega) (11 + a.toNatClampNeg) (sl_wa (n := n) a.toNatClampNeg (by omega) (by omega)).1 (11 + u.toNatClampNeg) (sl_wa (n := n) u.toNatClampNeg (by omega) (by omega)) _ ) zy_X6_makeKey mw_37_8 rfl rfl (show 11 ≤ 201 by decide) (show 201 < n by omega) rfl rfl (Nat.le_of_ble_eq_true rfl) ⟨rfl, rfl, Nat.le_of_ble_eq_true rfl, Nat.le_of_ble_eq_true rfl⟩ ?_
        refine j_nmS (fun t11 et11 => ?_)
        refine j_iconst (v := nI 1) C dX9_key_57 (by decide +kernel) ?_
        exact j_iret (st := []) C R0 dX9_key_58 ⟨(by rw [hA3, hA5, hA9]; (try rw [et11]); (try rw [et10]); unfold fX9_key_a2; (try dsimp only); all_goals ((try simp only [zfst_mk, zsnd_mk]); all_goals rfl)), ((by rw [hA3, hA5, hA9]; (try rw [et11]); (try rw [et10]); unfold fX9_key_a2; (try dsimp only); all_goals ((try simp only [zfst_mk, zsnd_mk]); all_goals rfl)))⟩
      · have hA12 : fX9_key_a4 a u s0 = fX9_key_a3 s0 := by have q8z := q8; (try dsimp only at q8z); unfold fX9_key_a4; (try dsimp only); rw [if_neg q8z]; (try rfl)
        refine j_bipush (v := -103) C dX9_key_25 (by decide +kernel) ?_
        exact j_iret (st := []) C R0 dX9_key_27 ⟨(by rw [hA3, hA5, hA12]; unfold fX9_key_a3; (try dsimp only); all_goals ((try simp only [zfst_mk, zsnd_mk]); all_goals rfl)), ((by rw [hA3, hA5, hA12]; unfold fX9_key_a3; (try dsimp only); all_goals ((try simp only [zfst_mk, zsnd_mk]); all_goals rfl)))⟩
    · have hA13 : fX9_key_a6 a u s0 = fX9_key_a5 s0 := by have q4z := q4; (try dsimp only at q4z); unfold fX9_key_a6; (try dsimp only); rw [q4z, cond_false]; (try rfl)
      refine j_bipush (v := -101) C dX9_key_14 (by decide +kernel) ?_
      exact j_iret (st := []) C R0 dX9_key_16 ⟨(by rw [hA3, hA13]; unfold fX9_key_a5; (try dsimp only); all_goals ((try simp only [zfst_mk, zsnd_mk]); all_goals rfl)), ((by rw [hA3, hA13]; unfold fX9_key_a5; (try dsimp only); all_goals ((try simp only [zfst_mk, zsnd_mk]); all_goals rfl)))⟩

def fX9_sign_a1 (s0 : zSt) : Int32 × zSt :=
    ((-101 : Int32), s0)
def fX9_sign_a2 (a : Int32) (u : Int32) (T0 : Nat) (s0 : zSt) : Int32 × zSt :=
    let t10 := zI s0 0 ((s0.2.2 0) - (nI (2)))
    let t11 := fX6_makeSignature (11 + a.toNatClampNeg) (11 + u.toNatClampNeg) (11 + (u.toNatClampNeg + 1)) T0 t10
    let t12 := zI t11 1 ((t11.2.2 1) + (nI (1)))
    (nI (1), t12)
def fX9_sign_a3 (s0 : zSt) : Int32 × zSt :=
    ((-103 : Int32), s0)
def fX9_sign_a4 (a : Int32) (u : Int32) (T0 : Nat) (s0 : zSt) : Int32 × zSt :=
    if nI (2) ≤ s0.2.2 0 then
      fX9_sign_a2 a u T0 s0
    else
      fX9_sign_a3 s0
def fX9_sign_a5 (s0 : zSt) : Int32 × zSt :=
    ((-101 : Int32), s0)
def fX9_sign_a6 (a : Int32) (u : Int32) (T0 : Nat) (s0 : zSt) : Int32 × zSt :=
    bif (vX9_isPair u s0) then
      fX9_sign_a4 a u T0 s0
    else
      fX9_sign_a5 s0
def fX9_sign (a : Int32) (u : Int32) (T0 : Nat) (s0 : zSt) : Int32 × zSt :=
    bif (vX9_isSlot a s0) then
      fX9_sign_a6 a u T0 s0
    else
      fX9_sign_a1 s0
set_option maxHeartbeats 4000000 in
set_option maxRecDepth 100000 in
theorem k_X9_sign (l : Launch) (D : va_G) (kc : Nat → ClassId) (ad : Nat → Nat) (n : Nat) (hn : 216 ≤ n) (a : Int32) (u : Int32) (T0 : Nat) (s0 : zSt) (htx : s0.2.2 4 = nI T0) (hT0 : T0 ≤ 400) : zM l yX9_sign cX9_sign 3 (some .int) rX9_sign (wX D kc ad n) [.ref (zad (wX D kc ad n) 215), .int a, .int u] s0 (zV1 (.int (zfst (fX9_sign a u T0 s0))) (zsnd (fX9_sign a u T0 s0))) := by
  refine z_of (own := RX9) (by decide +kernel) rfl (Nat.le_of_ble_eq_true rfl) ?_
  intro κ C R0
  refine j_at [(0, .ref (zad (wX D kc ad n) 215)), (1, .int a), (2, .int u)] ⟨rfl, rfl, rfl, trivial⟩ ?_
  refine j_iload_n C dX9_sign_0 rfl rfl ?_
  refine j_callS1 C dX9_sign_1 (k_X9_isSlot l D kc ad n (by omega) (a) _ ) zy_X9_isSlot mw_14_17 rfl rfl (Nat.le_of_ble_eq_true rfl) ⟨rfl, rfl, Nat.le_of_ble_eq_true rfl, Nat.le_of_ble_eq_true rfl⟩ ?_
  refine j_if_eqB (tgt := 14) C dX9_sign_4 (by decide) (fun q1 => ?_) (fun q1 => ?_)
  · have hA2 : fX9_sign a u T0 s0 = fX9_sign_a1 s0 := by have q1z := q1; (try dsimp only at q1z); unfold fX9_sign; (try dsimp only); rw [q1z, cond_false]; (try rfl)
    refine j_bipush (v := -101) C dX9_sign_14 (by decide +kernel) ?_
    exact j_iret (st := []) C R0 dX9_sign_16 ⟨(by rw [hA2]; unfold fX9_sign_a1; (try dsimp only); all_goals ((try simp only [zfst_mk, zsnd_mk]); all_goals rfl)), ((by rw [hA2]; unfold fX9_sign_a1; (try dsimp only); all_goals ((try simp only [zfst_mk, zsnd_mk]); all_goals rfl)))⟩
  · have hA3 : fX9_sign a u T0 s0 = fX9_sign_a6 a u T0 s0 := by have q1z := q1; (try dsimp only at q1z); unfold fX9_sign; (try dsimp only); rw [q1z, cond_true]; (try rfl)
    refine j_iload_n C dX9_sign_7 rfl rfl ?_
    refine j_callS1 C dX9_sign_8 (k_X9_isPair l D kc ad n (by omega) (u) _ ) zy_X9_isPair mw_34_4 rfl rfl (Nat.le_of_ble_eq_true rfl) ⟨rfl, rfl, Nat.le_of_ble_eq_true rfl, Nat.le_of_ble_eq_true rfl⟩ ?_
    refine j_if_neB (tgt := 17) C dX9_sign_11 (by decide) (fun q4 => ?_) (fun q4 => ?_)
    · have hA5 : fX9_sign_a6 a u T0 s0 = fX9_sign_a4 a u T0 s0 := by have q4z := q4; (try dsimp only at q4z); unfold fX9_sign_a6; (try dsimp only); rw [q4z, cond_true]; (try rfl)
      have hc6 := sl_of (x := a) (by assumption)
      have hc6b := hc6.2
      have hc7 := pr_of (x := u) (by assumption)
      have hc7b := hc7.2
      refine j_at [(0, .ref (zad (wX D kc ad n) 215)), (1, .int (nI (a.toNatClampNeg))), (2, .int (nI (u.toNatClampNeg)))] ⟨rfl, congrArg (fun q => some (Value.int q)) hc6.1, congrArg (fun q => some (Value.int q)) hc7.1, trivial⟩ ?_
      refine j_aload_n C dX9_sign_17 rfl rfl ?_
      refine j_getI C dX9_sign_18 (fx_RX9_23 D kc ad n) (show 11 ≤ 215 by decide) (show 215 < n by omega) ?_
      refine j_iconst (v := nI 2) C dX9_sign_21 (by decide +kernel) ?_
      refine j_icmp_ge (tgt := 28) C dX9_sign_22 (by decide) (fun q8 => ?_) (fun q8 => ?_)
      · have hA9 : fX9_sign_a4 a u T0 s0 = fX9_sign_a2 a u T0 s0 := by have q8z := q8; (try dsimp only at q8z); unfold fX9_sign_a4; (try dsimp only); rw [if_pos q8z]; (try rfl)
        refine j_aload_n C dX9_sign_28 rfl rfl ?_
        refine j_dup C dX9_sign_29 rfl ?_
        refine j_getI C dX9_sign_30 (fx_RX9_23 D kc ad n) (show 11 ≤ 215 by decide) (show 215 < n by omega) ?_
        refine j_iconst (v := nI 2) C dX9_sign_33 (by decide +kernel) ?_
        refine j_isub C dX9_sign_34 ?_
        refine j_putI C dX9_sign_35 (pfx_RX9_23 D kc ad n) (ox_0 D kc ad n) (show 11 ≤ 215 by decide) (show 215 < n by omega) ?_
        refine j_nmS (fun t10 et10 => ?_)
        refine j_aload_n C dX9_sign_38 rfl rfl ?_
        refine j_getR C dX9_sign_39 (fx_RX9_78 D kc ad n) (show 11 ≤ 215 by decide) (show 215 < n by omega) ?_
        refine j_aload_n C dX9_sign_42 rfl rfl ?_
        refine j_getR C dX9_sign_43 (fx_RX9_13 D kc ad n) (show 11 ≤ 215 by decide) (show 215 < n by omega) ?_
        refine j_iload_n C dX9_sign_46 rfl rfl ?_
        refine x_aald35 C dX9_sign_47 (by omega) (by omega) ?_
        refine j_aload_n C dX9_sign_48 rfl rfl ?_
        refine j_getR C dX9_sign_49 (fx_RX9_19 D kc ad n) (show 11 ≤ 215 by decide) (show 215 < n by omega) ?_
        refine j_aload_n C dX9_sign_52 rfl rfl ?_
        refine j_getR C dX9_sign_53 (fx_RX9_13 D kc ad n) (show 11 ≤ 215 by decide) (show 215 < n by omega) ?_
        refine j_iload_n C dX9_sign_56 rfl rfl ?_
        refine x_aald35 C dX9_sign_57 (by omega) (by omega) ?_
        refine j_aload_n C dX9_sign_58 rfl rfl ?_
        refine j_getR C dX9_sign_59 (fx_RX9_13 D kc ad n) (show 11 ≤ 215 by decide) (show 215 < n by omega) ?_
        refine j_iload_n C dX9_sign_62 rfl rfl ?_
        refine j_iconst (v := nI 1) C dX9_sign_63 (by decide +kernel) ?_
        refine j_iaddN C dX9_sign_64 ?_
        refine x_aald35 C dX9_sign_65 (by omega) (by omega) ?_
        refine j_callV0 (T := TX6) (N := 12) C dX9_sign_66 (k_X6_makeSignature l D kc ad n (by omega) (11 + a.toNatClampNeg) (sl_wa (n := n) a.toNatClampNeg (by omega) (by omega)).1 (11 + u.toNatClampNeg) (sl_wa (n := n) u.toNatClampNeg (by omega) (by omega)) (11 + (u.toNatClampNeg + 1)) (sl_wa (n := n) (u.toNatClampNeg + 1) (by omega) (by omega)) T0 _ (by (try rw [et10]); simp (maxDischargeDepth := 12) only [htx, zI04, zI24]) hT0) zy_X6_makeSignature mw_38_19 rfl rfl (show 11 ≤ 201 by decide) (show 201 < n by omega) rfl rfl (Nat.le_of_ble_eq_true rfl) ⟨rfl, rfl, Nat.le_of_ble_eq_true rfl, Nat.le_of_ble_eq_true rfl⟩ ?_
        refine j_nmS (fun t11 et11 => ?_)
        refine j_aload_n C dX9_sign_69 rfl rfl ?_
        refine j_dup C dX9_sign_70 rfl ?_
        refine j_getI C dX9_sign_71 (fx_RX9_27 D kc ad n) (show 11 ≤ 215 by decide) (show 215 < n by omega) ?_
        refine j_iconst (v := nI 1) C dX9_sign_74 (by decide +kernel) ?_
        refine j_iadd C dX9_sign_75 ?_
        refine j_putI C dX9_sign_76 (pfx_RX9_27 D kc ad n) (ox_1 D kc ad n) (show 11 ≤ 215 by decide) (show 215 < n by omega) ?_
        refine j_nmS (fun t12 et12 => ?_)
        refine j_iconst (v := nI 1) C dX9_sign_79 (by decide +kernel) ?_
        exact j_iret (st := []) C R0 dX9_sign_80 ⟨(by rw [hA3, hA5, hA9]; (try rw [et12]); (try rw [et11]); (try rw [et10]); unfold fX9_sign_a2; (try dsimp only); all_goals ((try simp only [zfst_mk, zsnd_mk]); all_goals rfl)), ((by rw [hA3, hA5, hA9]; (try rw [et12]); (try rw [et11]); (try rw [et10]); unfold fX9_sign_a2; (try dsimp only); all_goals ((try simp only [zfst_mk, zsnd_mk]); all_goals rfl)))⟩
      · have hA13 : fX9_sign_a4 a u T0 s0 = fX9_sign_a3 s0 := by have q8z := q8; (try dsimp only at q8z); unfold fX9_sign_a4; (try dsimp only); rw [if_neg q8z]; (try rfl)
        refine j_bipush (v := -103) C dX9_sign_25 (by decide +kernel) ?_
        exact j_iret (st := []) C R0 dX9_sign_27 ⟨(by rw [hA3, hA5, hA13]; unfold fX9_sign_a3; (try dsimp only); all_goals ((try simp only [zfst_mk, zsnd_mk]); all_goals rfl)), ((by rw [hA3, hA5, hA13]; unfold fX9_sign_a3; (try dsimp only); all_goals ((try simp only [zfst_mk, zsnd_mk]); all_goals rfl)))⟩
    · have hA14 : fX9_sign_a6 a u T0 s0 = fX9_sign_a5 s0 := by have q4z := q4; (try dsimp only at q4z); unfold fX9_sign_a6; (try dsimp only); rw [q4z, cond_false]; (try rfl)
      refine j_bipush (v := -101) C dX9_sign_14 (by decide +kernel) ?_
      exact j_iret (st := []) C R0 dX9_sign_16 ⟨(by rw [hA3, hA14]; unfold fX9_sign_a5; (try dsimp only); all_goals ((try simp only [zfst_mk, zsnd_mk]); all_goals rfl)), ((by rw [hA3, hA14]; unfold fX9_sign_a5; (try dsimp only); all_goals ((try simp only [zfst_mk, zsnd_mk]); all_goals rfl)))⟩

def fX9_judge_a1 (s0 : zSt) : Int32 × zSt :=
    ((-101 : Int32), s0)
def fX9_judge_a2 (t12 : zSt) : Int32 × zSt :=
    let t15 := zI t12 3 ((t12.2.2 3) + (nI (1)))
    (nI (1), t15)
def fX9_judge_a3 (t12 : zSt) : Int32 × zSt :=
    (nI (0), t12)
def fX9_judge_a4 (a : Int32) (u : Int32) (T0 : Nat) (s0 : zSt) : Int32 × zSt :=
    let t10 := zI s0 0 ((s0.2.2 0) - (nI (2)))
    let t11 := zI t10 2 ((t10.2.2 2) + (nI (1)))
    let t12 := zsnd (fX6_isRight (11 + a.toNatClampNeg) (11 + u.toNatClampNeg) (11 + (u.toNatClampNeg + 1)) T0 t11)
    bif (zfst (fX6_isRight (11 + a.toNatClampNeg) (11 + u.toNatClampNeg) (11 + (u.toNatClampNeg + 1)) T0 t11)) then
      fX9_judge_a2 t12
    else
      fX9_judge_a3 t12
def fX9_judge_a5 (s0 : zSt) : Int32 × zSt :=
    ((-103 : Int32), s0)
def fX9_judge_a6 (a : Int32) (u : Int32) (T0 : Nat) (s0 : zSt) : Int32 × zSt :=
    if nI (2) ≤ s0.2.2 0 then
      fX9_judge_a4 a u T0 s0
    else
      fX9_judge_a5 s0
def fX9_judge_a7 (s0 : zSt) : Int32 × zSt :=
    ((-101 : Int32), s0)
def fX9_judge_a8 (a : Int32) (u : Int32) (T0 : Nat) (s0 : zSt) : Int32 × zSt :=
    bif (vX9_isPair u s0) then
      fX9_judge_a6 a u T0 s0
    else
      fX9_judge_a7 s0
def fX9_judge (a : Int32) (u : Int32) (T0 : Nat) (s0 : zSt) : Int32 × zSt :=
    bif (vX9_isSlot a s0) then
      fX9_judge_a8 a u T0 s0
    else
      fX9_judge_a1 s0
set_option maxHeartbeats 4000000 in
set_option maxRecDepth 100000 in
theorem k_X9_judge (l : Launch) (D : va_G) (kc : Nat → ClassId) (ad : Nat → Nat) (n : Nat) (hn : 216 ≤ n) (a : Int32) (u : Int32) (T0 : Nat) (s0 : zSt) (htx : s0.2.2 4 = nI T0) (hT0 : T0 ≤ 400) : zM l yX9_judge cX9_judge 3 (some .int) rX9_judge (wX D kc ad n) [.ref (zad (wX D kc ad n) 215), .int a, .int u] s0 (zV1 (.int (zfst (fX9_judge a u T0 s0))) (zsnd (fX9_judge a u T0 s0))) := by
  refine z_of (own := RX9) (by decide +kernel) rfl (Nat.le_of_ble_eq_true rfl) ?_
  intro κ C R0
  refine j_at [(0, .ref (zad (wX D kc ad n) 215)), (1, .int a), (2, .int u)] ⟨rfl, rfl, rfl, trivial⟩ ?_
  refine j_iload_n C dX9_judge_0 rfl rfl ?_
  refine j_callS1 C dX9_judge_1 (k_X9_isSlot l D kc ad n (by omega) (a) _ ) zy_X9_isSlot mw_14_17 rfl rfl (Nat.le_of_ble_eq_true rfl) ⟨rfl, rfl, Nat.le_of_ble_eq_true rfl, Nat.le_of_ble_eq_true rfl⟩ ?_
  refine j_if_eqB (tgt := 14) C dX9_judge_4 (by decide) (fun q1 => ?_) (fun q1 => ?_)
  · have hA2 : fX9_judge a u T0 s0 = fX9_judge_a1 s0 := by have q1z := q1; (try dsimp only at q1z); unfold fX9_judge; (try dsimp only); rw [q1z, cond_false]; (try rfl)
    refine j_bipush (v := -101) C dX9_judge_14 (by decide +kernel) ?_
    exact j_iret (st := []) C R0 dX9_judge_16 ⟨(by rw [hA2]; unfold fX9_judge_a1; (try dsimp only); all_goals ((try simp only [zfst_mk, zsnd_mk]); all_goals rfl)), ((by rw [hA2]; unfold fX9_judge_a1; (try dsimp only); all_goals ((try simp only [zfst_mk, zsnd_mk]); all_goals rfl)))⟩
  · have hA3 : fX9_judge a u T0 s0 = fX9_judge_a8 a u T0 s0 := by have q1z := q1; (try dsimp only at q1z); unfold fX9_judge; (try dsimp only); rw [q1z, cond_true]; (try rfl)
    refine j_iload_n C dX9_judge_7 rfl rfl ?_
    refine j_callS1 C dX9_judge_8 (k_X9_isPair l D kc ad n (by omega) (u) _ ) zy_X9_isPair mw_34_4 rfl rfl (Nat.le_of_ble_eq_true rfl) ⟨rfl, rfl, Nat.le_of_ble_eq_true rfl, Nat.le_of_ble_eq_true rfl⟩ ?_
    refine j_if_neB (tgt := 17) C dX9_judge_11 (by decide) (fun q4 => ?_) (fun q4 => ?_)
    · have hA5 : fX9_judge_a8 a u T0 s0 = fX9_judge_a6 a u T0 s0 := by have q4z := q4; (try dsimp only at q4z); unfold fX9_judge_a8; (try dsimp only); rw [q4z, cond_true]; (try rfl)
      have hc6 := sl_of (x := a) (by assumption)
      have hc6b := hc6.2
      have hc7 := pr_of (x := u) (by assumption)
      have hc7b := hc7.2
      refine j_at [(0, .ref (zad (wX D kc ad n) 215)), (1, .int (nI (a.toNatClampNeg))), (2, .int (nI (u.toNatClampNeg)))] ⟨rfl, congrArg (fun q => some (Value.int q)) hc6.1, congrArg (fun q => some (Value.int q)) hc7.1, trivial⟩ ?_
      refine j_aload_n C dX9_judge_17 rfl rfl ?_
      refine j_getI C dX9_judge_18 (fx_RX9_23 D kc ad n) (show 11 ≤ 215 by decide) (show 215 < n by omega) ?_
      refine j_iconst (v := nI 2) C dX9_judge_21 (by decide +kernel) ?_
      refine j_icmp_ge (tgt := 28) C dX9_judge_22 (by decide) (fun q8 => ?_) (fun q8 => ?_)
      · have hA9 : fX9_judge_a6 a u T0 s0 = fX9_judge_a4 a u T0 s0 := by have q8z := q8; (try dsimp only at q8z); unfold fX9_judge_a6; (try dsimp only); rw [if_pos q8z]; (try rfl)
        refine j_aload_n C dX9_judge_28 rfl rfl ?_
        refine j_dup C dX9_judge_29 rfl ?_
        refine j_getI C dX9_judge_30 (fx_RX9_23 D kc ad n) (show 11 ≤ 215 by decide) (show 215 < n by omega) ?_
        refine j_iconst (v := nI 2) C dX9_judge_33 (by decide +kernel) ?_
        refine j_isub C dX9_judge_34 ?_
        refine j_putI C dX9_judge_35 (pfx_RX9_23 D kc ad n) (ox_0 D kc ad n) (show 11 ≤ 215 by decide) (show 215 < n by omega) ?_
        refine j_nmS (fun t10 et10 => ?_)
        refine j_aload_n C dX9_judge_38 rfl rfl ?_
        refine j_dup C dX9_judge_39 rfl ?_
        refine j_getI C dX9_judge_40 (fx_RX9_30 D kc ad n) (show 11 ≤ 215 by decide) (show 215 < n by omega) ?_
        refine j_iconst (v := nI 1) C dX9_judge_43 (by decide +kernel) ?_
        refine j_iadd C dX9_judge_44 ?_
        refine j_putI C dX9_judge_45 (pfx_RX9_30 D kc ad n) (ox_2 D kc ad n) (show 11 ≤ 215 by decide) (show 215 < n by omega) ?_
        refine j_nmS (fun t11 et11 => ?_)
        refine j_aload_n C dX9_judge_48 rfl rfl ?_
        refine j_getR C dX9_judge_49 (fx_RX9_78 D kc ad n) (show 11 ≤ 215 by decide) (show 215 < n by omega) ?_
        refine j_aload_n C dX9_judge_52 rfl rfl ?_
        refine j_getR C dX9_judge_53 (fx_RX9_13 D kc ad n) (show 11 ≤ 215 by decide) (show 215 < n by omega) ?_
        refine j_iload_n C dX9_judge_56 rfl rfl ?_
        refine x_aald35 C dX9_judge_57 (by omega) (by omega) ?_
        refine j_aload_n C dX9_judge_58 rfl rfl ?_
        refine j_getR C dX9_judge_59 (fx_RX9_13 D kc ad n) (show 11 ≤ 215 by decide) (show 215 < n by omega) ?_
        refine j_iload_n C dX9_judge_62 rfl rfl ?_
        refine x_aald35 C dX9_judge_63 (by omega) (by omega) ?_
        refine j_aload_n C dX9_judge_64 rfl rfl ?_
        refine j_getR C dX9_judge_65 (fx_RX9_13 D kc ad n) (show 11 ≤ 215 by decide) (show 215 < n by omega) ?_
        refine j_iload_n C dX9_judge_68 rfl rfl ?_
        refine j_iconst (v := nI 1) C dX9_judge_69 (by decide +kernel) ?_
        refine j_iaddN C dX9_judge_70 ?_
        refine x_aald35 C dX9_judge_71 (by omega) (by omega) ?_
        refine j_aload_n C dX9_judge_72 rfl rfl ?_
        refine j_getR C dX9_judge_73 (fx_RX9_19 D kc ad n) (show 11 ≤ 215 by decide) (show 215 < n by omega) ?_
        refine j_callV1 (T := TX6) (N := 12) C dX9_judge_76 (k_X6_isRight l D kc ad n (by omega) (11 + a.toNatClampNeg) (sl_wa (n := n) a.toNatClampNeg (by omega) (by omega)).1 (11 + u.toNatClampNeg) (sl_wa (n := n) u.toNatClampNeg (by omega) (by omega)).1 (11 + (u.toNatClampNeg + 1)) (sl_wa (n := n) (u.toNatClampNeg + 1) (by omega) (by omega)).1 T0 _ (by (try rw [et11]); (try rw [et10]); simp (maxDischargeDepth := 12) only [htx, zI04, zI24]) hT0) zy_X6_isRight mw_39_19 rfl rfl (show 11 ≤ 201 by decide) (show 201 < n by omega) rfl rfl (Nat.le_of_ble_eq_true rfl) ⟨rfl, rfl, Nat.le_of_ble_eq_true rfl, Nat.le_of_ble_eq_true rfl⟩ ?_
        refine j_nmS (fun t12 et12 => ?_)
        refine j_if_neB (tgt := 84) C dX9_judge_79 (by decide) (fun q13 => ?_) (fun q13 => ?_)
        · have hA14 : fX9_judge_a4 a u T0 s0 = fX9_judge_a2 t12 := by (try rw [et12]); (try rw [et11]); (try rw [et10]); have q13z := q13; (try rw [et12] at q13z); (try rw [et11] at q13z); (try rw [et10] at q13z); (try dsimp only at q13z); unfold fX9_judge_a4; (try dsimp only); rw [q13z, cond_true]; (try rfl)
          refine j_aload_n C dX9_judge_84 rfl rfl ?_
          refine j_dup C dX9_judge_85 rfl ?_
          refine j_getI C dX9_judge_86 (fx_RX9_33 D kc ad n) (show 11 ≤ 215 by decide) (show 215 < n by omega) ?_
          refine j_iconst (v := nI 1) C dX9_judge_89 (by decide +kernel) ?_
          refine j_iadd C dX9_judge_90 ?_
          refine j_putI C dX9_judge_91 (pfx_RX9_33 D kc ad n) (ox_3 D kc ad n) (show 11 ≤ 215 by decide) (show 215 < n by omega) ?_
          refine j_nmS (fun t15 et15 => ?_)
          refine j_iconst (v := nI 1) C dX9_judge_94 (by decide +kernel) ?_
          exact j_iret (st := []) C R0 dX9_judge_95 ⟨(by rw [hA3, hA5, hA9, hA14]; (try rw [et15]); unfold fX9_judge_a2; (try dsimp only); all_goals ((try simp only [zfst_mk, zsnd_mk]); all_goals rfl)), ((by rw [hA3, hA5, hA9, hA14]; (try rw [et15]); unfold fX9_judge_a2; (try dsimp only); all_goals ((try simp only [zfst_mk, zsnd_mk]); all_goals rfl)))⟩
        · have hA16 : fX9_judge_a4 a u T0 s0 = fX9_judge_a3 t12 := by (try rw [et12]); (try rw [et11]); (try rw [et10]); have q13z := q13; (try rw [et12] at q13z); (try rw [et11] at q13z); (try rw [et10] at q13z); (try dsimp only at q13z); unfold fX9_judge_a4; (try dsimp only); rw [q13z, cond_false]; (try rfl)
          refine j_iconst (v := nI 0) C dX9_judge_82 (by decide +kernel) ?_
          exact j_iret (st := []) C R0 dX9_judge_83 ⟨(by rw [hA3, hA5, hA9, hA16]; unfold fX9_judge_a3; (try dsimp only); all_goals ((try simp only [zfst_mk, zsnd_mk]); all_goals rfl)), ((by rw [hA3, hA5, hA9, hA16]; unfold fX9_judge_a3; (try dsimp only); all_goals ((try simp only [zfst_mk, zsnd_mk]); all_goals rfl)))⟩
      · have hA17 : fX9_judge_a6 a u T0 s0 = fX9_judge_a5 s0 := by have q8z := q8; (try dsimp only at q8z); unfold fX9_judge_a6; (try dsimp only); rw [if_neg q8z]; (try rfl)
        refine j_bipush (v := -103) C dX9_judge_25 (by decide +kernel) ?_
        exact j_iret (st := []) C R0 dX9_judge_27 ⟨(by rw [hA3, hA5, hA17]; unfold fX9_judge_a5; (try dsimp only); all_goals ((try simp only [zfst_mk, zsnd_mk]); all_goals rfl)), ((by rw [hA3, hA5, hA17]; unfold fX9_judge_a5; (try dsimp only); all_goals ((try simp only [zfst_mk, zsnd_mk]); all_goals rfl)))⟩
    · have hA18 : fX9_judge_a8 a u T0 s0 = fX9_judge_a7 s0 := by have q4z := q4; (try dsimp only at q4z); unfold fX9_judge_a8; (try dsimp only); rw [q4z, cond_false]; (try rfl)
      refine j_bipush (v := -101) C dX9_judge_14 (by decide +kernel) ?_
      exact j_iret (st := []) C R0 dX9_judge_16 ⟨(by rw [hA3, hA18]; unfold fX9_judge_a7; (try dsimp only); all_goals ((try simp only [zfst_mk, zsnd_mk]); all_goals rfl)), ((by rw [hA3, hA18]; unfold fX9_judge_a7; (try dsimp only); all_goals ((try simp only [zfst_mk, zsnd_mk]); all_goals rfl)))⟩

def fX9_count_a1 (s0 : zSt) : Int32 :=
    s0.2.2 4
def fX9_count_a2 (s0 : zSt) : Int32 :=
    s0.2.2 0
def fX9_count_a3 (s0 : zSt) : Int32 :=
    s0.2.2 1
def fX9_count_a4 (s0 : zSt) : Int32 :=
    s0.2.2 2
def fX9_count_a5 (s0 : zSt) : Int32 :=
    s0.2.2 3
def fX9_count_a6 (s0 : zSt) : Int32 :=
    (-102 : Int32)
def fX9_count_a7 (what : Int32) (s0 : zSt) : Int32 :=
    if what = nI 4 then
      fX9_count_a5 s0
    else
      fX9_count_a6 s0
def fX9_count_a8 (what : Int32) (s0 : zSt) : Int32 :=
    if what = nI 3 then
      fX9_count_a4 s0
    else
      fX9_count_a7 what s0
def fX9_count_a9 (what : Int32) (s0 : zSt) : Int32 :=
    if what = nI 2 then
      fX9_count_a3 s0
    else
      fX9_count_a8 what s0
def fX9_count_a10 (what : Int32) (s0 : zSt) : Int32 :=
    if what = nI 1 then
      fX9_count_a2 s0
    else
      fX9_count_a9 what s0
def vX9_count (what : Int32) (s0 : zSt) : Int32 :=
    if what = nI 0 then
      fX9_count_a1 s0
    else
      fX9_count_a10 what s0
set_option maxHeartbeats 4000000 in
set_option maxRecDepth 100000 in
theorem k_X9_count (l : Launch) (D : va_G) (kc : Nat → ClassId) (ad : Nat → Nat) (n : Nat) (hn : 216 ≤ n) (what : Int32) (s0 : zSt) : zM l yX9_count cX9_count 2 (some .int) rX9_count (wX D kc ad n) [.ref (zad (wX D kc ad n) 215), .int what] s0 (zV1 (.int (vX9_count what s0)) s0) := by
  refine z_of (own := RX9) (by decide +kernel) rfl (Nat.le_of_ble_eq_true rfl) ?_
  intro κ C R0
  refine j_at [(0, .ref (zad (wX D kc ad n) 215)), (1, .int what)] ⟨rfl, rfl, trivial⟩ ?_
  refine j_iload_n C dX9_count_0 rfl rfl ?_
  by_cases q1 : what = nI 0
  · have hA2 : vX9_count what s0 = fX9_count_a1 s0 := by have q1z := q1; (try dsimp only at q1z); unfold vX9_count; (try dsimp only); rw [if_pos q1z]; (try rfl)
    refine j_top (v := .int (nI 0)) (congrArg Value.int q1) ?_
    refine j_tabIn (c := 0) (off := 35) (tgt := 36) C dX9_count_1 (by decide +kernel) (by decide) ?_
    refine j_aload_n C dX9_count_36 rfl rfl ?_
    refine j_getR C dX9_count_37 (fx_RX9_19 D kc ad n) (show 11 ≤ 215 by decide) (show 215 < n by omega) ?_
    refine j_getI C dX9_count_40 (fx_RX9_114 D kc ad n) (show 11 ≤ 37 by decide) (show 37 < n by omega) ?_
    exact j_iret (st := []) C R0 dX9_count_43 ⟨(by rw [hA2]; unfold fX9_count_a1; (try dsimp only); all_goals ((try simp only [zfst_mk, zsnd_mk]); all_goals rfl)), ((by rfl))⟩
  · have hA3 : vX9_count what s0 = fX9_count_a10 what s0 := by have q1z := q1; (try dsimp only at q1z); unfold vX9_count; (try dsimp only); rw [if_neg q1z]; (try rfl)
    by_cases q4 : what = nI 1
    · have hA5 : fX9_count_a10 what s0 = fX9_count_a2 s0 := by have q4z := q4; (try dsimp only at q4z); unfold fX9_count_a10; (try dsimp only); rw [if_pos q4z]; (try rfl)
      refine j_top (v := .int (nI 1)) (congrArg Value.int q4) ?_
      refine j_tabIn (c := 1) (off := 43) (tgt := 44) C dX9_count_1 (by decide +kernel) (by decide) ?_
      refine j_aload_n C dX9_count_44 rfl rfl ?_
      refine j_getI C dX9_count_45 (fx_RX9_23 D kc ad n) (show 11 ≤ 215 by decide) (show 215 < n by omega) ?_
      exact j_iret (st := []) C R0 dX9_count_48 ⟨(by rw [hA3, hA5]; unfold fX9_count_a2; (try dsimp only); all_goals ((try simp only [zfst_mk, zsnd_mk]); all_goals rfl)), ((by rfl))⟩
    · have hA6 : fX9_count_a10 what s0 = fX9_count_a9 what s0 := by have q4z := q4; (try dsimp only at q4z); unfold fX9_count_a10; (try dsimp only); rw [if_neg q4z]; (try rfl)
      by_cases q7 : what = nI 2
      · have hA8 : fX9_count_a9 what s0 = fX9_count_a3 s0 := by have q7z := q7; (try dsimp only at q7z); unfold fX9_count_a9; (try dsimp only); rw [if_pos q7z]; (try rfl)
        refine j_top (v := .int (nI 2)) (congrArg Value.int q7) ?_
        refine j_tabIn (c := 2) (off := 48) (tgt := 49) C dX9_count_1 (by decide +kernel) (by decide) ?_
        refine j_aload_n C dX9_count_49 rfl rfl ?_
        refine j_getI C dX9_count_50 (fx_RX9_27 D kc ad n) (show 11 ≤ 215 by decide) (show 215 < n by omega) ?_
        exact j_iret (st := []) C R0 dX9_count_53 ⟨(by rw [hA3, hA6, hA8]; unfold fX9_count_a3; (try dsimp only); all_goals ((try simp only [zfst_mk, zsnd_mk]); all_goals rfl)), ((by rfl))⟩
      · have hA9 : fX9_count_a9 what s0 = fX9_count_a8 what s0 := by have q7z := q7; (try dsimp only at q7z); unfold fX9_count_a9; (try dsimp only); rw [if_neg q7z]; (try rfl)
        by_cases q10 : what = nI 3
        · have hA11 : fX9_count_a8 what s0 = fX9_count_a4 s0 := by have q10z := q10; (try dsimp only at q10z); unfold fX9_count_a8; (try dsimp only); rw [if_pos q10z]; (try rfl)
          refine j_top (v := .int (nI 3)) (congrArg Value.int q10) ?_
          refine j_tabIn (c := 3) (off := 53) (tgt := 54) C dX9_count_1 (by decide +kernel) (by decide) ?_
          refine j_aload_n C dX9_count_54 rfl rfl ?_
          refine j_getI C dX9_count_55 (fx_RX9_30 D kc ad n) (show 11 ≤ 215 by decide) (show 215 < n by omega) ?_
          exact j_iret (st := []) C R0 dX9_count_58 ⟨(by rw [hA3, hA6, hA9, hA11]; unfold fX9_count_a4; (try dsimp only); all_goals ((try simp only [zfst_mk, zsnd_mk]); all_goals rfl)), ((by rfl))⟩
        · have hA12 : fX9_count_a8 what s0 = fX9_count_a7 what s0 := by have q10z := q10; (try dsimp only at q10z); unfold fX9_count_a8; (try dsimp only); rw [if_neg q10z]; (try rfl)
          by_cases q13 : what = nI 4
          · have hA14 : fX9_count_a7 what s0 = fX9_count_a5 s0 := by have q13z := q13; (try dsimp only at q13z); unfold fX9_count_a7; (try dsimp only); rw [if_pos q13z]; (try rfl)
            refine j_top (v := .int (nI 4)) (congrArg Value.int q13) ?_
            refine j_tabIn (c := 4) (off := 58) (tgt := 59) C dX9_count_1 (by decide +kernel) (by decide) ?_
            refine j_aload_n C dX9_count_59 rfl rfl ?_
            refine j_getI C dX9_count_60 (fx_RX9_33 D kc ad n) (show 11 ≤ 215 by decide) (show 215 < n by omega) ?_
            exact j_iret (st := []) C R0 dX9_count_63 ⟨(by rw [hA3, hA6, hA9, hA12, hA14]; unfold fX9_count_a5; (try dsimp only); all_goals ((try simp only [zfst_mk, zsnd_mk]); all_goals rfl)), ((by rfl))⟩
          · have hA15 : fX9_count_a7 what s0 = fX9_count_a6 s0 := by have q13z := q13; (try dsimp only at q13z); unfold fX9_count_a7; (try dsimp only); rw [if_neg q13z]; (try rfl)
            refine j_tabOut (dflt := 63) (tgt := 64) C dX9_count_1 (tab_out 5 (by decide) (fun c hc => by rcases (show c = 0 ∨ c = 1 ∨ c = 2 ∨ c = 3 ∨ c = 4 by omega) with rfl | rfl | rfl | rfl | rfl <;> assumption)) (by decide) ?_
            refine j_bipush (v := -102) C dX9_count_64 (by decide +kernel) ?_
            exact j_iret (st := []) C R0 dX9_count_66 ⟨(by rw [hA3, hA6, hA9, hA12, hA15]; unfold fX9_count_a6; (try dsimp only); all_goals ((try simp only [zfst_mk, zsnd_mk]); all_goals rfl)), ((by rfl))⟩
