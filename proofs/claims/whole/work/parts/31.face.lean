def fX9_set_a1 (v : Int32) (i : Int32) (x : Int64) (s0 : zSt) : Int32 × zSt :=
    let t7 := zW s0 (11 + v.toNatClampNeg) i.toNatClampNeg x
    (nI (1), t7)
def fX9_set_a2 (s0 : zSt) : Int32 × zSt :=
    ((-102 : Int32), s0)
def fX9_set_a3 (v : Int32) (i : Int32) (x : Int64) (s0 : zSt) : Int32 × zSt :=
    bif (vX9_isWithin i (nI (4)) s0) then
      fX9_set_a1 v i x s0
    else
      fX9_set_a2 s0
def fX9_set_a4 (s0 : zSt) : Int32 × zSt :=
    ((-101 : Int32), s0)
def fX9_set (v : Int32) (i : Int32) (x : Int64) (s0 : zSt) : Int32 × zSt :=
    bif (vX9_isSlot v s0) then
      fX9_set_a3 v i x s0
    else
      fX9_set_a4 s0
set_option maxHeartbeats 4000000 in
set_option maxRecDepth 100000 in
theorem k_X9_set (l : Launch) (D : va_G) (kc : Nat → ClassId) (ad : Nat → Nat) (n : Nat) (hn : 216 ≤ n) (v : Int32) (i : Int32) (x : Int64) (s0 : zSt) : zM l yX9_set cX9_set 5 (some .int) rX9_set (wX D kc ad n) [.ref (zad (wX D kc ad n) 215), .int v, .int i, .long x] s0 (zV1 (.int (zfst (fX9_set v i x s0))) (zsnd (fX9_set v i x s0))) := by
  refine z_of (own := RX9) (by decide +kernel) rfl (Nat.le_of_ble_eq_true rfl) ?_
  intro κ C R0
  refine j_at [(0, .ref (zad (wX D kc ad n) 215)), (1, .int v), (2, .int i), (3, .long x)] ⟨rfl, rfl, rfl, rfl, trivial⟩ ?_
  refine j_iload_n C dX9_set_0 rfl rfl ?_
  refine j_callS1 C dX9_set_1 (k_X9_isSlot l D kc ad n (by omega) (v) _ ) zy_X9_isSlot mw_14_17 rfl rfl (Nat.le_of_ble_eq_true rfl) ⟨rfl, rfl, Nat.le_of_ble_eq_true rfl, Nat.le_of_ble_eq_true rfl⟩ ?_
  refine j_if_neB (tgt := 10) C dX9_set_4 (by decide) (fun q1 => ?_) (fun q1 => ?_)
  · have hA2 : fX9_set v i x s0 = fX9_set_a3 v i x s0 := by have q1z := q1; (try dsimp only at q1z); unfold fX9_set; (try dsimp only); rw [q1z, cond_true]; (try rfl)
    have hc3 := sl_of (x := v) (by assumption)
    have hc3b := hc3.2
    refine j_at [(0, .ref (zad (wX D kc ad n) 215)), (1, .int (nI (v.toNatClampNeg))), (2, .int i), (3, .long x)] ⟨rfl, congrArg (fun q => some (Value.int q)) hc3.1, rfl, rfl, trivial⟩ ?_
    refine j_iload_n C dX9_set_10 rfl rfl ?_
    refine j_iconst (v := nI 4) C dX9_set_11 (by decide +kernel) ?_
    refine j_callS1 C dX9_set_12 (k_X9_isWithin l D kc ad n (by omega) (i) (nI (4)) _ ) zy_X9_isWithin mw_14_20 rfl rfl (Nat.le_of_ble_eq_true rfl) ⟨rfl, rfl, Nat.le_of_ble_eq_true rfl, Nat.le_of_ble_eq_true rfl⟩ ?_
    refine j_if_neB (tgt := 21) C dX9_set_15 (by decide) (fun q4 => ?_) (fun q4 => ?_)
    · have hA5 : fX9_set_a3 v i x s0 = fX9_set_a1 v i x s0 := by have q4z := q4; (try dsimp only at q4z); unfold fX9_set_a3; (try dsimp only); rw [q4z, cond_true]; (try rfl)
      have hc6 := wi_of (x := i) (b := 4) (by decide) (by assumption)
      have hc6b := hc6.2
      refine j_at [(0, .ref (zad (wX D kc ad n) 215)), (1, .int (nI (v.toNatClampNeg))), (2, .int (nI (i.toNatClampNeg))), (3, .long x)] ⟨rfl, rfl, congrArg (fun q => some (Value.int q)) hc6.1, rfl, trivial⟩ ?_
      refine j_aload_n C dX9_set_21 rfl rfl ?_
      refine j_getR C dX9_set_22 (fx_RX9_13 D kc ad n) (show 11 ≤ 215 by decide) (show 215 < n by omega) ?_
      refine j_iload_n C dX9_set_25 rfl rfl ?_
      refine x_aald35 C dX9_set_26 (by omega) (by omega) ?_
      refine j_iload_n C dX9_set_27 rfl rfl ?_
      refine j_lload_n C dX9_set_28 rfl rfl ?_
      refine x_last C dX9_set_29 (sl_wa (n := n) v.toNatClampNeg (by omega) (by omega)) (by omega) ?_
      refine j_nmS (fun t7 et7 => ?_)
      refine j_iconst (v := nI 1) C dX9_set_30 (by decide +kernel) ?_
      exact j_iret (st := []) C R0 dX9_set_31 ⟨(by rw [hA2, hA5]; (try rw [et7]); unfold fX9_set_a1; (try dsimp only); all_goals ((try simp only [zfst_mk, zsnd_mk]); all_goals rfl)), ((by rw [hA2, hA5]; (try rw [et7]); unfold fX9_set_a1; (try dsimp only); all_goals ((try simp only [zfst_mk, zsnd_mk]); all_goals rfl)))⟩
    · have hA8 : fX9_set_a3 v i x s0 = fX9_set_a2 s0 := by have q4z := q4; (try dsimp only at q4z); unfold fX9_set_a3; (try dsimp only); rw [q4z, cond_false]; (try rfl)
      refine j_bipush (v := -102) C dX9_set_18 (by decide +kernel) ?_
      exact j_iret (st := []) C R0 dX9_set_20 ⟨(by rw [hA2, hA8]; unfold fX9_set_a2; (try dsimp only); all_goals ((try simp only [zfst_mk, zsnd_mk]); all_goals rfl)), ((by rw [hA2, hA8]; unfold fX9_set_a2; (try dsimp only); all_goals ((try simp only [zfst_mk, zsnd_mk]); all_goals rfl)))⟩
  · have hA9 : fX9_set v i x s0 = fX9_set_a4 s0 := by have q1z := q1; (try dsimp only at q1z); unfold fX9_set; (try dsimp only); rw [q1z, cond_false]; (try rfl)
    refine j_bipush (v := -101) C dX9_set_7 (by decide +kernel) ?_
    exact j_iret (st := []) C R0 dX9_set_9 ⟨(by rw [hA9]; unfold fX9_set_a4; (try dsimp only); all_goals ((try simp only [zfst_mk, zsnd_mk]); all_goals rfl)), ((by rw [hA9]; unfold fX9_set_a4; (try dsimp only); all_goals ((try simp only [zfst_mk, zsnd_mk]); all_goals rfl)))⟩
theorem k2q_fX9_set_a1 (v : Int32) (i : Int32) (x : Int64) (s0 : zSt) : zk2s (fX9_set_a1 v i x s0) = zk2 s0 := by
  unfold fX9_set_a1
  (try dsimp only)
  all_goals (simp only [zW_2, zL_2, zk2s_mk]; done)
theorem k2_fX9_set_a1 (v : Int32) (i : Int32) (x : Int64) (s0 : zSt) : zk2 (zsnd (fX9_set_a1 v i x s0)) = zk2 s0 := k2q_fX9_set_a1 v i x s0
theorem k2q_fX9_set_a2 (s0 : zSt) : zk2s (fX9_set_a2 s0) = zk2 s0 := by
  unfold fX9_set_a2
  (try dsimp only)
  all_goals (simp only [zW_2, zL_2, zk2s_mk]; done)
theorem k2_fX9_set_a2 (s0 : zSt) : zk2 (zsnd (fX9_set_a2 s0)) = zk2 s0 := k2q_fX9_set_a2 s0
theorem k2q_fX9_set_a3 (v : Int32) (i : Int32) (x : Int64) (s0 : zSt) : zk2s (fX9_set_a3 v i x s0) = zk2 s0 := by
  unfold fX9_set_a3
  (try dsimp only)
  all_goals (refine cond_keep (fun r : Int32 × zSt => zk2s r) _ ?_ ?_ <;> (simp only [zW_2, zL_2, k2_fX9_set_a1, k2_fX9_set_a2, k2q_fX9_set_a1, k2q_fX9_set_a2, zk2s_mk]; done))
theorem k2_fX9_set_a3 (v : Int32) (i : Int32) (x : Int64) (s0 : zSt) : zk2 (zsnd (fX9_set_a3 v i x s0)) = zk2 s0 := k2q_fX9_set_a3 v i x s0
theorem k2q_fX9_set_a4 (s0 : zSt) : zk2s (fX9_set_a4 s0) = zk2 s0 := by
  unfold fX9_set_a4
  (try dsimp only)
  all_goals (simp only [zW_2, zL_2, zk2s_mk]; done)
theorem k2_fX9_set_a4 (s0 : zSt) : zk2 (zsnd (fX9_set_a4 s0)) = zk2 s0 := k2q_fX9_set_a4 s0
theorem k2q_fX9_set (v : Int32) (i : Int32) (x : Int64) (s0 : zSt) : zk2s (fX9_set v i x s0) = zk2 s0 := by
  unfold fX9_set
  (try dsimp only)
  all_goals (refine cond_keep (fun r : Int32 × zSt => zk2s r) _ ?_ ?_ <;> (simp only [zW_2, zL_2, k2_fX9_set_a3, k2_fX9_set_a4, k2q_fX9_set_a3, k2q_fX9_set_a4, zk2s_mk]; done))
theorem k2_fX9_set (v : Int32) (i : Int32) (x : Int64) (s0 : zSt) : zk2 (zsnd (fX9_set v i x s0)) = zk2 s0 := k2q_fX9_set v i x s0
theorem i2_fX9_set (v : Int32) (i : Int32) (x : Int64) (s0 : zSt) (kk9 : Nat) : (zsnd (fX9_set v i x s0)).2.2 kk9 = s0.2.2 kk9 := z2_I (k2_fX9_set v i x s0) kk9
theorem i3_fX9_set (v : Int32) (i : Int32) (x : Int64) (s0 : zSt) (kk9 : Nat) : zi (zsnd (fX9_set v i x s0)) kk9 = zi s0 kk9 := zi_of (k2_fX9_set v i x s0) kk9

def fX9_word_a1 (s0 : zSt) : Int64 :=
    (0 : Int64)
def fX9_word_a2 (v : Int32) (i : Int32) (s0 : zSt) : Int64 :=
    s0.1 (11 + v.toNatClampNeg) i.toNatClampNeg
def fX9_word_a3 (s0 : zSt) : Int64 :=
    (0 : Int64)
def fX9_word_a4 (v : Int32) (i : Int32) (s0 : zSt) : Int64 :=
    bif (vX9_isWithin i (nI (4)) s0) then
      fX9_word_a2 v i s0
    else
      fX9_word_a3 s0
def vX9_word (v : Int32) (i : Int32) (s0 : zSt) : Int64 :=
    bif (vX9_isSlot v s0) then
      fX9_word_a4 v i s0
    else
      fX9_word_a1 s0
set_option maxHeartbeats 4000000 in
set_option maxRecDepth 100000 in
theorem k_X9_word (l : Launch) (D : va_G) (kc : Nat → ClassId) (ad : Nat → Nat) (n : Nat) (hn : 216 ≤ n) (v : Int32) (i : Int32) (s0 : zSt) : zM l yX9_word cX9_word 3 (some .long) rX9_word (wX D kc ad n) [.ref (zad (wX D kc ad n) 215), .int v, .int i] s0 (zV1 (.long (vX9_word v i s0)) s0) := by
  refine z_of (own := RX9) (by decide +kernel) rfl (Nat.le_of_ble_eq_true rfl) ?_
  intro κ C R0
  refine j_at [(0, .ref (zad (wX D kc ad n) 215)), (1, .int v), (2, .int i)] ⟨rfl, rfl, rfl, trivial⟩ ?_
  refine j_iload_n C dX9_word_0 rfl rfl ?_
  refine j_callS1 C dX9_word_1 (k_X9_isSlot l D kc ad n (by omega) (v) _ ) zy_X9_isSlot mw_14_17 rfl rfl (Nat.le_of_ble_eq_true rfl) ⟨rfl, rfl, Nat.le_of_ble_eq_true rfl, Nat.le_of_ble_eq_true rfl⟩ ?_
  refine j_if_eqB (tgt := 15) C dX9_word_4 (by decide) (fun q1 => ?_) (fun q1 => ?_)
  · have hA2 : vX9_word v i s0 = fX9_word_a1 s0 := by have q1z := q1; (try dsimp only at q1z); unfold vX9_word; (try dsimp only); rw [q1z, cond_false]; (try rfl)
    refine j_lconst (v := 0) C dX9_word_15 rfl ?_
    exact j_lret (st := []) C R0 dX9_word_16 ⟨(by rw [hA2]; unfold fX9_word_a1; (try dsimp only); all_goals ((try simp only [zfst_mk, zsnd_mk]); all_goals rfl)), ((by rfl))⟩
  · have hA3 : vX9_word v i s0 = fX9_word_a4 v i s0 := by have q1z := q1; (try dsimp only at q1z); unfold vX9_word; (try dsimp only); rw [q1z, cond_true]; (try rfl)
    refine j_iload_n C dX9_word_7 rfl rfl ?_
    refine j_iconst (v := nI 4) C dX9_word_8 (by decide +kernel) ?_
    refine j_callS1 C dX9_word_9 (k_X9_isWithin l D kc ad n (by omega) (i) (nI (4)) _ ) zy_X9_isWithin mw_14_20 rfl rfl (Nat.le_of_ble_eq_true rfl) ⟨rfl, rfl, Nat.le_of_ble_eq_true rfl, Nat.le_of_ble_eq_true rfl⟩ ?_
    refine j_if_neB (tgt := 17) C dX9_word_12 (by decide) (fun q4 => ?_) (fun q4 => ?_)
    · have hA5 : fX9_word_a4 v i s0 = fX9_word_a2 v i s0 := by have q4z := q4; (try dsimp only at q4z); unfold fX9_word_a4; (try dsimp only); rw [q4z, cond_true]; (try rfl)
      have hc6 := sl_of (x := v) (by assumption)
      have hc6b := hc6.2
      have hc7 := wi_of (x := i) (b := 4) (by decide) (by assumption)
      have hc7b := hc7.2
      refine j_at [(0, .ref (zad (wX D kc ad n) 215)), (1, .int (nI (v.toNatClampNeg))), (2, .int (nI (i.toNatClampNeg)))] ⟨rfl, congrArg (fun q => some (Value.int q)) hc6.1, congrArg (fun q => some (Value.int q)) hc7.1, trivial⟩ ?_
      refine j_aload_n C dX9_word_17 rfl rfl ?_
      refine j_getR C dX9_word_18 (fx_RX9_13 D kc ad n) (show 11 ≤ 215 by decide) (show 215 < n by omega) ?_
      refine j_iload_n C dX9_word_21 rfl rfl ?_
      refine x_aald35 C dX9_word_22 (by omega) (by omega) ?_
      refine j_iload_n C dX9_word_23 rfl rfl ?_
      refine x_lald C dX9_word_24 (sl_wa (n := n) v.toNatClampNeg (by omega) (by omega)).1 (by omega) ?_
      exact j_lret (st := []) C R0 dX9_word_25 ⟨(by rw [hA3, hA5]; unfold fX9_word_a2; (try dsimp only); all_goals ((try simp only [zfst_mk, zsnd_mk]); all_goals rfl)), ((by rfl))⟩
    · have hA8 : fX9_word_a4 v i s0 = fX9_word_a3 s0 := by have q4z := q4; (try dsimp only at q4z); unfold fX9_word_a4; (try dsimp only); rw [q4z, cond_false]; (try rfl)
      refine j_lconst (v := 0) C dX9_word_15 rfl ?_
      exact j_lret (st := []) C R0 dX9_word_16 ⟨(by rw [hA3, hA8]; unfold fX9_word_a3; (try dsimp only); all_goals ((try simp only [zfst_mk, zsnd_mk]); all_goals rfl)), ((by rfl))⟩
