def fX4_isBelowOrder_a1 (s0 : zSt) : Bool :=
    false
def fX4_isBelowOrder_a2 (s0 : zSt) : Bool :=
    true
def vX4_isBelowOrder (a : Nat) (s0 : zSt) : Bool :=
    if 0 ≤ vX8_order a 4 s0 then
      fX4_isBelowOrder_a1 s0
    else
      fX4_isBelowOrder_a2 s0
set_option maxHeartbeats 4000000 in
set_option maxRecDepth 100000 in
theorem k_X4_isBelowOrder (l : Launch) (D : va_G) (kc : Nat → ClassId) (ad : Nat → Nat) (n : Nat) (hn : 11 ≤ n) (a : Nat) (ha : ra n 4 a) (s0 : zSt) : zM l yX4_isBelowOrder cX4_isBelowOrder 1 (some .boolean) rX4_isBelowOrder (wX D kc ad n) [.ref (zad (wX D kc ad n) a)] s0 (zV1 (.int (bI (vX4_isBelowOrder a s0))) s0) := by
  refine z_of (own := RX4) (by decide +kernel) rfl (Nat.le_of_ble_eq_true rfl) ?_
  intro κ C R0
  refine j_at [(0, .ref (zad (wX D kc ad n) a))] ⟨rfl, trivial⟩ ?_
  refine j_aload_n C dX4_isBelowOrder_0 rfl rfl ?_
  refine j_gets (id := 4) C dX4_isBelowOrder_1 (show 4 < 11 by decide) rfl mw_23_10 ?_
  refine j_callS1 C dX4_isBelowOrder_4 (k_X8_order l D kc ad n (by omega) a ha 4 (⟨rfl, rfl, by omega, by decide⟩ : ra n 4 4) _ ) zy_X8_order mw_23_11 rfl rfl (Nat.le_of_ble_eq_true rfl) ⟨rfl, rfl, Nat.le_of_ble_eq_true rfl, Nat.le_of_ble_eq_true rfl⟩ ?_
  refine j_if_ge (tgt := 14) C dX4_isBelowOrder_7 (by decide) (fun q1 => ?_) (fun q1 => ?_)
  · have hA2 : vX4_isBelowOrder a s0 = fX4_isBelowOrder_a1 s0 := by have q1z := q1; (try dsimp only at q1z); unfold vX4_isBelowOrder; (try dsimp only); rw [if_pos q1z]; (try rfl)
    refine j_iconst (v := nI 0) C dX4_isBelowOrder_14 (by decide +kernel) ?_
    refine j_top (v := .int (bI false)) (by decide +kernel) ?_
    exact j_zret (st := []) C R0 dX4_isBelowOrder_15 ⟨(by rw [hA2]; unfold fX4_isBelowOrder_a1; (try dsimp only); all_goals ((try simp only [zfst_mk, zsnd_mk]); all_goals rfl)), ((by rfl))⟩
  · have hA3 : vX4_isBelowOrder a s0 = fX4_isBelowOrder_a2 s0 := by have q1z := q1; (try dsimp only at q1z); unfold vX4_isBelowOrder; (try dsimp only); rw [if_neg q1z]; (try rfl)
    refine j_iconst (v := nI 1) C dX4_isBelowOrder_10 (by decide +kernel) ?_
    refine j_goto (tgt := 15) C dX4_isBelowOrder_11 (by decide) ?_
    refine j_top (v := .int (bI true)) (by decide +kernel) ?_
    exact j_zret (st := []) C R0 dX4_isBelowOrder_15 ⟨(by rw [hA3]; unfold fX4_isBelowOrder_a2; (try dsimp only); all_goals ((try simp only [zfst_mk, zsnd_mk]); all_goals rfl)), ((by rfl))⟩

def fX4_increase_a1 (t1 : zSt) : zSt :=
    t1
def fX4_increase_a2 (a : Nat) (t1 : zSt) : zSt :=
    let t5 := fX8_decrease a 4 t1
    t5
def fX4_increase (a : Nat) (b : Nat) (s0 : zSt) : zSt :=
    let t1 := fX8_increase a b s0
    if vX8_order a 4 t1 < 0 then
      fX4_increase_a1 t1
    else
      fX4_increase_a2 a t1
set_option maxHeartbeats 4000000 in
set_option maxRecDepth 100000 in
theorem k_X4_increase (l : Launch) (D : va_G) (kc : Nat → ClassId) (ad : Nat → Nat) (n : Nat) (hn : 11 ≤ n) (a : Nat) (ha : wa n 4 a) (b : Nat) (hb : ra n 4 b) (s0 : zSt) : zM l yX4_increase cX4_increase 2 none rX4_increase (wX D kc ad n) [.ref (zad (wX D kc ad n) a), .ref (zad (wX D kc ad n) b)] s0 (zV0 (fX4_increase a b s0)) := by
  refine z_of (own := RX4) (by decide +kernel) rfl (Nat.le_of_ble_eq_true rfl) ?_
  intro κ C R0
  refine j_at [(0, .ref (zad (wX D kc ad n) a)), (1, .ref (zad (wX D kc ad n) b))] ⟨rfl, rfl, trivial⟩ ?_
  refine j_aload_n C dX4_increase_0 rfl rfl ?_
  refine j_aload_n C dX4_increase_1 rfl rfl ?_
  refine j_callS0 C dX4_increase_2 (k_X8_increase l D kc ad n (by omega) a ha b hb _ ) zy_X8_increase mw_24_21 rfl rfl (Nat.le_of_ble_eq_true rfl) ⟨rfl, rfl, Nat.le_of_ble_eq_true rfl, Nat.le_of_ble_eq_true rfl⟩ ?_
  refine j_nmS (fun t1 et1 => ?_)
  refine j_aload_n C dX4_increase_5 rfl rfl ?_
  refine j_gets (id := 4) C dX4_increase_6 (show 4 < 11 by decide) rfl mw_23_10 ?_
  refine j_callS1 C dX4_increase_9 (k_X8_order l D kc ad n (by omega) a ha.1 4 (⟨rfl, rfl, by omega, by decide⟩ : ra n 4 4) _ ) zy_X8_order mw_23_11 rfl rfl (Nat.le_of_ble_eq_true rfl) ⟨rfl, rfl, Nat.le_of_ble_eq_true rfl, Nat.le_of_ble_eq_true rfl⟩ ?_
  refine j_if_lt (tgt := 22) C dX4_increase_12 (by decide) (fun q2 => ?_) (fun q2 => ?_)
  · have hA3 : fX4_increase a b s0 = fX4_increase_a1 t1 := by (try rw [et1]); have q2z := q2; (try rw [et1] at q2z); (try dsimp only at q2z); unfold fX4_increase; (try dsimp only); rw [if_pos q2z]; (try rfl)
    exact j_vret (st := []) C R0 dX4_increase_22 ⟨rfl, (by rw [hA3]; unfold fX4_increase_a1; (try dsimp only); all_goals ((try simp only [zfst_mk, zsnd_mk]); all_goals rfl))⟩
  · have hA4 : fX4_increase a b s0 = fX4_increase_a2 a t1 := by (try rw [et1]); have q2z := q2; (try rw [et1] at q2z); (try dsimp only at q2z); unfold fX4_increase; (try dsimp only); rw [if_neg q2z]; (try rfl)
    refine j_aload_n C dX4_increase_15 rfl rfl ?_
    refine j_gets (id := 4) C dX4_increase_16 (show 4 < 11 by decide) rfl mw_23_10 ?_
    refine j_callS0 C dX4_increase_19 (k_X8_decrease l D kc ad n (by omega) a ha 4 (⟨rfl, rfl, by omega, by decide⟩ : ra n 4 4) _ ) zy_X8_decrease mw_25_1 rfl rfl (Nat.le_of_ble_eq_true rfl) ⟨rfl, rfl, Nat.le_of_ble_eq_true rfl, Nat.le_of_ble_eq_true rfl⟩ ?_
    refine j_nmS (fun t5 et5 => ?_)
    exact j_vret (st := []) C R0 dX4_increase_22 ⟨rfl, (by rw [hA4]; (try rw [et5]); unfold fX4_increase_a2; (try dsimp only); all_goals ((try simp only [zfst_mk, zsnd_mk]); all_goals rfl))⟩
theorem k2_fX4_increase_a1 (t1 : zSt) : zk2 (fX4_increase_a1 t1) = zk2 t1 := by
  unfold fX4_increase_a1
  (try dsimp only)
  all_goals (simp only [zW_2, zL_2]; done)
theorem k2_fX4_increase_a2 (a : Nat) (t1 : zSt) : zk2 (fX4_increase_a2 a t1) = zk2 t1 := by
  unfold fX4_increase_a2
  (try dsimp only)
  all_goals (simp only [zW_2, zL_2, k2_fX8_decrease]; done)
theorem k2_fX4_increase (a : Nat) (b : Nat) (s0 : zSt) : zk2 (fX4_increase a b s0) = zk2 s0 := by
  unfold fX4_increase
  (try dsimp only)
  all_goals (refine ite_keep (fun r : zSt => zk2 r) _ _ ?_ ?_ <;> (simp only [zW_2, zL_2, k2_fX4_increase_a1, k2_fX4_increase_a2, k2_fX8_increase]; done))
theorem i2_fX4_increase (a : Nat) (b : Nat) (s0 : zSt) (kk9 : Nat) : (fX4_increase a b s0).2.2 kk9 = s0.2.2 kk9 := z2_I (k2_fX4_increase a b s0) kk9
theorem i3_fX4_increase (a : Nat) (b : Nat) (s0 : zSt) (kk9 : Nat) : zi (fX4_increase a b s0) kk9 = zi s0 kk9 := zi_of (k2_fX4_increase a b s0) kk9

def fX4_reduce_a1 (t6 : zSt) : zSt :=
    t6
def fX4_reduce_a2 (out : Nat) (t6 : zSt) : zSt :=
    let t13 := fX4_increase out 5 t6
    t13
def fX4_reduce_9 (row : Nat) (k : Nat) (out : Nat) (i3 : Nat) (z4 : zSt) : zSt :=
    let t6 := fX4_increase out out z4
    let x7 := vX8_bit row k i3 t6
    if x7 ≠ 1 then
      fX4_reduce_a1 t6
    else
      fX4_reduce_a2 out t6
def fX4_reduce (row : Nat) (k : Nat) (bits : Nat) (out : Nat) (s0 : zSt) : zSt :=
    let t1 := fJ7_fill_d0a16 out 4 ((0 : Int64)) s0
    let x2 := bits - 1
    let u16 := zdown (fX4_reduce_9 row k out) (x2 + 1) t1
    u16
set_option maxHeartbeats 4000000 in
set_option maxRecDepth 100000 in
theorem k_X4_reduce (l : Launch) (D : va_G) (kc : Nat → ClassId) (ad : Nat → Nat) (n : Nat) (hn : 11 ≤ n) (row : Nat) (k : Nat) (hrow : ra n k row) (bits : Nat) (hbits : bits ≤ 64 * k) (out : Nat) (hout : wa n 4 out) (s0 : zSt) (hk : k ≤ 8) (h1 : 1 ≤ bits) : zM l yX4_reduce cX4_reduce 4 none rX4_reduce (wX D kc ad n) [.ref (zad (wX D kc ad n) row), .int (nI (bits)), .ref (zad (wX D kc ad n) out)] s0 (zV0 (fX4_reduce row k bits out s0)) := by
  refine z_of (own := RX4) (by decide +kernel) rfl (Nat.le_of_ble_eq_true rfl) ?_
  intro κ C R0
  refine j_at [(0, .ref (zad (wX D kc ad n) row)), (1, .int (nI (bits))), (2, .ref (zad (wX D kc ad n) out))] ⟨rfl, rfl, rfl, trivial⟩ ?_
  refine j_aload_n C dX4_reduce_0 rfl rfl ?_
  refine j_lconst (v := 0) C dX4_reduce_1 rfl ?_
  refine j_callS0 C dX4_reduce_2 (k_J7_fill_d0a16 l D kc ad n (by omega) out 4 hout ((0 : Int64)) _ (by omega)) zy_J7_fill_d0a16 mw_24_17 rfl rfl (Nat.le_of_ble_eq_true rfl) ⟨rfl, rfl, Nat.le_of_ble_eq_true rfl, Nat.le_of_ble_eq_true rfl⟩ ?_
  refine j_nmS (fun t1 et1 => ?_)
  refine j_iload_n C dX4_reduce_5 rfl rfl ?_
  refine j_iconst (v := nI 1) C dX4_reduce_6 (by decide +kernel) ?_
  refine j_isubN C dX4_reduce_7 (by omega) ?_
  refine j_nmN (fun x2 ex2 => ?_)
  refine j_istore_n C dX4_reduce_8 rfl (by decide) ?_
  refine j_at [(0, .ref (zad (wX D kc ad n) row)), (2, .ref (zad (wX D kc ad n) out)), (3, .int (dI (x2 + 1)))] ⟨rfl, rfl, congrArg (fun q => some (Value.int q)) (dI_succ _).symm, trivial⟩ ?_
  refine z_dn (α := zSt) (fun (i3 : Nat) (z4 : zSt) => zJ κ (wX D kc ad n) 9 (zlof [(0, .ref (zad (wX D kc ad n) row)), (2, .ref (zad (wX D kc ad n) out)), (3, .int (dI i3))]) [] z4) (fX4_reduce_9 row k out) (fun i3 z4 => i3 ≤ x2 + 1) ?_ (fun _ _ h => by omega) (x2 + 1) t1 (Nat.le_refl _) ?_
  · intro i3 z4 hIi3 k0
    refine j_at [(0, .ref (zad (wX D kc ad n) row)), (2, .ref (zad (wX D kc ad n) out)), (3, .int (nI (i3)))] ⟨rfl, rfl, congrArg (fun q => some (Value.int q)) (dI_succ _), trivial⟩ ?_
    refine j_iload_n C dX4_reduce_9 rfl rfl ?_
    refine j_if_lt (tgt := 40) C dX4_reduce_10 (by decide) (fun q5 => False.elim (nI_pos (by omega) q5)) (fun q5 => ?_)
    refine j_aload_n C dX4_reduce_13 rfl rfl ?_
    refine j_aload_n C dX4_reduce_14 rfl rfl ?_
    refine j_callS0 C dX4_reduce_15 (k_X4_increase l D kc ad n (by omega) out hout out hout.1 _ ) zy_X4_increase mw_24_18 rfl rfl (Nat.le_of_ble_eq_true rfl) ⟨rfl, rfl, Nat.le_of_ble_eq_true rfl, Nat.le_of_ble_eq_true rfl⟩ ?_
    refine j_nmS (fun t6 et6 => ?_)
    refine j_aload_n C dX4_reduce_18 rfl rfl ?_
    refine j_iload_n C dX4_reduce_19 rfl rfl ?_
    refine j_callS1 C dX4_reduce_20 (k_X8_bit l D kc ad n (by omega) row k hrow i3 (by omega) _ (by omega)) zy_X8_bit mw_25_4 rfl rfl (Nat.le_of_ble_eq_true rfl) ⟨rfl, rfl, Nat.le_of_ble_eq_true rfl, Nat.le_of_ble_eq_true rfl⟩ ?_
    refine j_nmN (fun x7 ex7 => ?_)
    have hx7 : x7 < 2 := by rw [ex7]; exact lt_bit _ _ _ _
    refine j_iconst (v := nI 1) C dX4_reduce_23 (by decide +kernel) ?_
    refine j_icmp_neN (tgt := 34) C dX4_reduce_24 (by decide) (by omega) (by omega) (fun q8 => ?_) (fun q8 => ?_)
    · have hA9 : (fX4_reduce_9 row k out) i3 z4 = fX4_reduce_a1 t6 := by (try rw [ex7]); (try rw [et6]); have q8z := q8; (try rw [ex7] at q8z); (try rw [et6] at q8z); (try dsimp only at q8z); unfold fX4_reduce_9; (try dsimp only); rw [if_pos q8z]; (try rfl)
      refine j_iincD C dX4_reduce_34 rfl (by decide) ?_
      refine j_goto (tgt := 9) C dX4_reduce_37 (by decide) ?_
      refine j_nmS (fun t10 et10 => ?_)
      refine j_at [(0, .ref (zad (wX D kc ad n) row)), (2, .ref (zad (wX D kc ad n) out)), (3, .int (dI i3))] ⟨rfl, rfl, rfl, trivial⟩ ?_
      have eF : (fX4_reduce_9 row k out) i3 z4 = t10 := by rw [hA9]; rw [et10]; unfold fX4_reduce_a1; first | done | (dsimp only; done) | rfl
      exact Eq.mp (congrArg (fun (z11 : zSt) => zJ κ (wX D kc ad n) 9 (zlof [(0, .ref (zad (wX D kc ad n) row)), (2, .ref (zad (wX D kc ad n) out)), (3, .int (dI i3))]) [] z11) eF) (k0 ((by omega)))
    · have hA12 : (fX4_reduce_9 row k out) i3 z4 = fX4_reduce_a2 out t6 := by (try rw [ex7]); (try rw [et6]); have q8z : ¬ (x7 ≠ 1) := (by omega); (try rw [ex7] at q8z); (try rw [et6] at q8z); (try dsimp only at q8z); unfold fX4_reduce_9; (try dsimp only); rw [if_neg q8z]; (try rfl)
      refine j_aload_n C dX4_reduce_27 rfl rfl ?_
      refine j_gets (id := 5) C dX4_reduce_28 (show 5 < 11 by decide) rfl mw_24_16 ?_
      refine j_callS0 C dX4_reduce_31 (k_X4_increase l D kc ad n (by omega) out hout 5 (⟨rfl, rfl, by omega, by decide⟩ : ra n 4 5) _ ) zy_X4_increase mw_24_18 rfl rfl (Nat.le_of_ble_eq_true rfl) ⟨rfl, rfl, Nat.le_of_ble_eq_true rfl, Nat.le_of_ble_eq_true rfl⟩ ?_
      refine j_nmS (fun t13 et13 => ?_)
      refine j_iincD C dX4_reduce_34 rfl (by decide) ?_
      refine j_goto (tgt := 9) C dX4_reduce_37 (by decide) ?_
      refine j_nmS (fun t14 et14 => ?_)
      refine j_at [(0, .ref (zad (wX D kc ad n) row)), (2, .ref (zad (wX D kc ad n) out)), (3, .int (dI i3))] ⟨rfl, rfl, rfl, trivial⟩ ?_
      have eF : (fX4_reduce_9 row k out) i3 z4 = t14 := by rw [hA12]; rw [et14]; (try rw [et13]); unfold fX4_reduce_a2; first | done | (dsimp only; done) | rfl
      exact Eq.mp (congrArg (fun (z15 : zSt) => zJ κ (wX D kc ad n) 9 (zlof [(0, .ref (zad (wX D kc ad n) row)), (2, .ref (zad (wX D kc ad n) out)), (3, .int (dI i3))]) [] z15) eF) (k0 ((by omega)))
  · intro hIi3
    revert hIi3
    refine z_nm (P := fun (z4 : zSt) => (fun i3 z4 => i3 ≤ x2 + 1) 0 z4 → zJ κ (wX D kc ad n) 9 (zlof [(0, .ref (zad (wX D kc ad n) row)), (2, .ref (zad (wX D kc ad n) out)), (3, .int (dI 0))]) [] z4) (fun u16 eu16 => ?_)
    intro hIi3
    refine j_iload_n C dX4_reduce_9 rfl rfl ?_
    refine j_if_lt (tgt := 40) C dX4_reduce_10 (by decide) (fun q17 => ?_) (fun q17 => False.elim (q17 dI_0))
    exact j_vret (st := []) C R0 dX4_reduce_40 ⟨rfl, (by (try rw [eu16]); (try rw [ex2]); (try rw [et1]); unfold fX4_reduce; (try dsimp only); all_goals ((try simp only [zfst_mk, zsnd_mk]); all_goals rfl))⟩
theorem k2_fX4_reduce_a1 (t6 : zSt) : zk2 (fX4_reduce_a1 t6) = zk2 t6 := by
  unfold fX4_reduce_a1
  (try dsimp only)
  all_goals (simp only [zW_2, zL_2]; done)
theorem k2_fX4_reduce_a2 (out : Nat) (t6 : zSt) : zk2 (fX4_reduce_a2 out t6) = zk2 t6 := by
  unfold fX4_reduce_a2
  (try dsimp only)
  all_goals (simp only [zW_2, zL_2, k2_fX4_increase]; done)
theorem k2_fX4_reduce_9 (row : Nat) (k : Nat) (out : Nat) (i3 : Nat) (z4 : zSt) : zk2 (fX4_reduce_9 row k out i3 z4) = zk2 z4 := by
  unfold fX4_reduce_9
  (try dsimp only)
  all_goals (refine ite_keep (fun r : zSt => zk2 r) _ _ ?_ ?_ <;> (simp only [zW_2, zL_2, k2_fX4_increase, k2_fX4_reduce_a1, k2_fX4_reduce_a2]; done))
theorem k2it_fX4_reduce_9 (row : Nat) (k : Nat) (out : Nat) (nn : Nat) (xx : zSt) : zk2 (zdown (fX4_reduce_9 row k out) nn xx) = zk2 xx := zdown_keep (fun x => zk2 x) _ (k2_fX4_reduce_9 row k out) nn xx
theorem k2_fX4_reduce (row : Nat) (k : Nat) (bits : Nat) (out : Nat) (s0 : zSt) : zk2 (fX4_reduce row k bits out s0) = zk2 s0 := by
  unfold fX4_reduce
  (try dsimp only)
  all_goals (simp only [zW_2, zL_2, k2_fJ7_fill_d0a16, k2_fX4_reduce_9, k2it_fX4_reduce_9]; done)
theorem i2_fX4_reduce (row : Nat) (k : Nat) (bits : Nat) (out : Nat) (s0 : zSt) (kk9 : Nat) : (fX4_reduce row k bits out s0).2.2 kk9 = s0.2.2 kk9 := z2_I (k2_fX4_reduce row k bits out s0) kk9
theorem i3_fX4_reduce (row : Nat) (k : Nat) (bits : Nat) (out : Nat) (s0 : zSt) (kk9 : Nat) : zi (fX4_reduce row k bits out s0) kk9 = zi s0 kk9 := zi_of (k2_fX4_reduce row k bits out s0) kk9

def fX4_multiplyAndAdd_a1 (t7 : zSt) : zSt :=
    t7
def fX4_multiplyAndAdd_a2 (t7 : zSt) : zSt :=
    let t14 := fX4_increase 64 63 t7
    t14
def fX4_multiplyAndAdd_35 (b : Nat) (i4 : Nat) (z5 : zSt) : zSt :=
    let t7 := fX4_increase 64 64 z5
    let x8 := vX8_bit b 4 i4 t7
    if x8 ≠ 1 then
      fX4_multiplyAndAdd_a1 t7
    else
      fX4_multiplyAndAdd_a2 t7
def fX4_multiplyAndAdd (a : Nat) (b : Nat) (e : Nat) (out : Nat) (s0 : zSt) : zSt :=
    let t1 := fX4_reduce a 4 256 63 s0
    let t2 := fX4_reduce e 4 256 65 t1
    let t3 := fJ7_fill_d0a16 64 4 ((0 : Int64)) t2
    let u17 := zdown (fX4_multiplyAndAdd_35 b) 256 t3
    let t19 := fX4_increase 64 65 u17
    let t20 := fX8_move 64 out t19
    t20
set_option maxHeartbeats 4000000 in
set_option maxRecDepth 100000 in
theorem k_X4_multiplyAndAdd (l : Launch) (D : va_G) (kc : Nat → ClassId) (ad : Nat → Nat) (n : Nat) (hn : 67 ≤ n) (a : Nat) (ha : ra n 4 a) (b : Nat) (hb : ra n 4 b) (e : Nat) (he : ra n 4 e) (out : Nat) (hout : wa n 4 out) (s0 : zSt) : zM l yX4_multiplyAndAdd cX4_multiplyAndAdd 6 none rX4_multiplyAndAdd (wX D kc ad n) [.ref (zad (wX D kc ad n) 66), .ref (zad (wX D kc ad n) a), .ref (zad (wX D kc ad n) b), .ref (zad (wX D kc ad n) e), .ref (zad (wX D kc ad n) out)] s0 (zV0 (fX4_multiplyAndAdd a b e out s0)) := by
  refine z_of (own := RX4) (by decide +kernel) rfl (Nat.le_of_ble_eq_true rfl) ?_
  intro κ C R0
  refine j_at [(0, .ref (zad (wX D kc ad n) 66)), (1, .ref (zad (wX D kc ad n) a)), (2, .ref (zad (wX D kc ad n) b)), (3, .ref (zad (wX D kc ad n) e)), (4, .ref (zad (wX D kc ad n) out))] ⟨rfl, rfl, rfl, rfl, rfl, trivial⟩ ?_
  refine j_aload_n C dX4_multiplyAndAdd_0 rfl rfl ?_
  refine j_sipush (v := nI 256) C dX4_multiplyAndAdd_1 (by decide +kernel) ?_
  refine j_aload_n C dX4_multiplyAndAdd_4 rfl rfl ?_
  refine j_getR C dX4_multiplyAndAdd_5 (fx_RX4_9 D kc ad n) (show 11 ≤ 66 by decide) (show 66 < n by omega) ?_
  refine j_callS0 C dX4_multiplyAndAdd_8 (k_X4_reduce l D kc ad n (by omega) a 4 ha 256 (by omega) 63 (⟨⟨rfl, rfl, by omega, by decide⟩, by decide⟩ : wa n 4 63) _ (by omega) (by omega)) zy_X4_reduce mw_24_13 rfl rfl (Nat.le_of_ble_eq_true rfl) ⟨rfl, rfl, Nat.le_of_ble_eq_true rfl, Nat.le_of_ble_eq_true rfl⟩ ?_
  refine j_nmS (fun t1 et1 => ?_)
  refine j_aload_n C dX4_multiplyAndAdd_11 rfl rfl ?_
  refine j_sipush (v := nI 256) C dX4_multiplyAndAdd_12 (by decide +kernel) ?_
  refine j_aload_n C dX4_multiplyAndAdd_15 rfl rfl ?_
  refine j_getR C dX4_multiplyAndAdd_16 (fx_RX4_18 D kc ad n) (show 11 ≤ 66 by decide) (show 66 < n by omega) ?_
  refine j_callS0 C dX4_multiplyAndAdd_19 (k_X4_reduce l D kc ad n (by omega) e 4 he 256 (by omega) 65 (⟨⟨rfl, rfl, by omega, by decide⟩, by decide⟩ : wa n 4 65) _ (by omega) (by omega)) zy_X4_reduce mw_24_13 rfl rfl (Nat.le_of_ble_eq_true rfl) ⟨rfl, rfl, Nat.le_of_ble_eq_true rfl, Nat.le_of_ble_eq_true rfl⟩ ?_
  refine j_nmS (fun t2 et2 => ?_)
  refine j_aload_n C dX4_multiplyAndAdd_22 rfl rfl ?_
  refine j_getR C dX4_multiplyAndAdd_23 (fx_RX4_15 D kc ad n) (show 11 ≤ 66 by decide) (show 66 < n by omega) ?_
  refine j_lconst (v := 0) C dX4_multiplyAndAdd_26 rfl ?_
  refine j_callS0 C dX4_multiplyAndAdd_27 (k_J7_fill_d0a16 l D kc ad n (by omega) 64 4 (⟨⟨rfl, rfl, by omega, by decide⟩, by decide⟩ : wa n 4 64) ((0 : Int64)) _ (by omega)) zy_J7_fill_d0a16 mw_24_17 rfl rfl (Nat.le_of_ble_eq_true rfl) ⟨rfl, rfl, Nat.le_of_ble_eq_true rfl, Nat.le_of_ble_eq_true rfl⟩ ?_
  refine j_nmS (fun t3 et3 => ?_)
  refine j_sipush (v := nI 255) C dX4_multiplyAndAdd_30 (by decide +kernel) ?_
  refine j_istore C dX4_multiplyAndAdd_33 (by decide) ?_
  refine j_at [(0, .ref (zad (wX D kc ad n) 66)), (2, .ref (zad (wX D kc ad n) b)), (4, .ref (zad (wX D kc ad n) out)), (5, .int (dI 256))] ⟨rfl, rfl, rfl, congrArg (fun q => some (Value.int q)) (dI_succ _).symm, trivial⟩ ?_
  refine z_dn (α := zSt) (fun (i4 : Nat) (z5 : zSt) => zJ κ (wX D kc ad n) 35 (zlof [(0, .ref (zad (wX D kc ad n) 66)), (2, .ref (zad (wX D kc ad n) b)), (4, .ref (zad (wX D kc ad n) out)), (5, .int (dI i4))]) [] z5) (fX4_multiplyAndAdd_35 b) (fun i4 z5 => i4 ≤ 256) ?_ (fun _ _ h => by omega) 256 t3 (Nat.le_refl _) ?_
  · intro i4 z5 hIi4 k0
    refine j_at [(0, .ref (zad (wX D kc ad n) 66)), (2, .ref (zad (wX D kc ad n) b)), (4, .ref (zad (wX D kc ad n) out)), (5, .int (nI (i4)))] ⟨rfl, rfl, rfl, congrArg (fun q => some (Value.int q)) (dI_succ _), trivial⟩ ?_
    refine j_iload C dX4_multiplyAndAdd_35 rfl ?_
    refine j_if_lt (tgt := 78) C dX4_multiplyAndAdd_37 (by decide) (fun q6 => False.elim (nI_pos (by omega) q6)) (fun q6 => ?_)
    refine j_aload_n C dX4_multiplyAndAdd_40 rfl rfl ?_
    refine j_getR C dX4_multiplyAndAdd_41 (fx_RX4_15 D kc ad n) (show 11 ≤ 66 by decide) (show 66 < n by omega) ?_
    refine j_aload_n C dX4_multiplyAndAdd_44 rfl rfl ?_
    refine j_getR C dX4_multiplyAndAdd_45 (fx_RX4_15 D kc ad n) (show 11 ≤ 66 by decide) (show 66 < n by omega) ?_
    refine j_callS0 C dX4_multiplyAndAdd_48 (k_X4_increase l D kc ad n (by omega) 64 (⟨⟨rfl, rfl, by omega, by decide⟩, by decide⟩ : wa n 4 64) 64 (⟨⟨rfl, rfl, by omega, by decide⟩, by decide⟩ : wa n 4 64).1 _ ) zy_X4_increase mw_24_18 rfl rfl (Nat.le_of_ble_eq_true rfl) ⟨rfl, rfl, Nat.le_of_ble_eq_true rfl, Nat.le_of_ble_eq_true rfl⟩ ?_
    refine j_nmS (fun t7 et7 => ?_)
    refine j_aload_n C dX4_multiplyAndAdd_51 rfl rfl ?_
    refine j_iload C dX4_multiplyAndAdd_52 rfl ?_
    refine j_callS1 C dX4_multiplyAndAdd_54 (k_X8_bit l D kc ad n (by omega) b 4 hb i4 (by omega) _ (by omega)) zy_X8_bit mw_25_4 rfl rfl (Nat.le_of_ble_eq_true rfl) ⟨rfl, rfl, Nat.le_of_ble_eq_true rfl, Nat.le_of_ble_eq_true rfl⟩ ?_
    refine j_nmN (fun x8 ex8 => ?_)
    have hx8 : x8 < 2 := by rw [ex8]; exact lt_bit _ _ _ _
    refine j_iconst (v := nI 1) C dX4_multiplyAndAdd_57 (by decide +kernel) ?_
    refine j_icmp_neN (tgt := 72) C dX4_multiplyAndAdd_58 (by decide) (by omega) (by omega) (fun q9 => ?_) (fun q9 => ?_)
    · have hA10 : (fX4_multiplyAndAdd_35 b) i4 z5 = fX4_multiplyAndAdd_a1 t7 := by (try rw [ex8]); (try rw [et7]); have q9z := q9; (try rw [ex8] at q9z); (try rw [et7] at q9z); (try dsimp only at q9z); unfold fX4_multiplyAndAdd_35; (try dsimp only); rw [if_pos q9z]; (try rfl)
      refine j_iincD C dX4_multiplyAndAdd_72 rfl (by decide) ?_
      refine j_goto (tgt := 35) C dX4_multiplyAndAdd_75 (by decide) ?_
      refine j_nmS (fun t11 et11 => ?_)
      refine j_at [(0, .ref (zad (wX D kc ad n) 66)), (2, .ref (zad (wX D kc ad n) b)), (4, .ref (zad (wX D kc ad n) out)), (5, .int (dI i4))] ⟨rfl, rfl, rfl, rfl, trivial⟩ ?_
      have eF : (fX4_multiplyAndAdd_35 b) i4 z5 = t11 := by rw [hA10]; rw [et11]; unfold fX4_multiplyAndAdd_a1; first | done | (dsimp only; done) | rfl
      exact Eq.mp (congrArg (fun (z12 : zSt) => zJ κ (wX D kc ad n) 35 (zlof [(0, .ref (zad (wX D kc ad n) 66)), (2, .ref (zad (wX D kc ad n) b)), (4, .ref (zad (wX D kc ad n) out)), (5, .int (dI i4))]) [] z12) eF) (k0 ((by omega)))
    · have hA13 : (fX4_multiplyAndAdd_35 b) i4 z5 = fX4_multiplyAndAdd_a2 t7 := by (try rw [ex8]); (try rw [et7]); have q9z : ¬ (x8 ≠ 1) := (by omega); (try rw [ex8] at q9z); (try rw [et7] at q9z); (try dsimp only at q9z); unfold fX4_multiplyAndAdd_35; (try dsimp only); rw [if_neg q9z]; (try rfl)
      refine j_aload_n C dX4_multiplyAndAdd_61 rfl rfl ?_
      refine j_getR C dX4_multiplyAndAdd_62 (fx_RX4_15 D kc ad n) (show 11 ≤ 66 by decide) (show 66 < n by omega) ?_
      refine j_aload_n C dX4_multiplyAndAdd_65 rfl rfl ?_
      refine j_getR C dX4_multiplyAndAdd_66 (fx_RX4_9 D kc ad n) (show 11 ≤ 66 by decide) (show 66 < n by omega) ?_
      refine j_callS0 C dX4_multiplyAndAdd_69 (k_X4_increase l D kc ad n (by omega) 64 (⟨⟨rfl, rfl, by omega, by decide⟩, by decide⟩ : wa n 4 64) 63 (⟨⟨rfl, rfl, by omega, by decide⟩, by decide⟩ : wa n 4 63).1 _ ) zy_X4_increase mw_24_18 rfl rfl (Nat.le_of_ble_eq_true rfl) ⟨rfl, rfl, Nat.le_of_ble_eq_true rfl, Nat.le_of_ble_eq_true rfl⟩ ?_
      refine j_nmS (fun t14 et14 => ?_)
      refine j_iincD C dX4_multiplyAndAdd_72 rfl (by decide) ?_
      refine j_goto (tgt := 35) C dX4_multiplyAndAdd_75 (by decide) ?_
      refine j_nmS (fun t15 et15 => ?_)
      refine j_at [(0, .ref (zad (wX D kc ad n) 66)), (2, .ref (zad (wX D kc ad n) b)), (4, .ref (zad (wX D kc ad n) out)), (5, .int (dI i4))] ⟨rfl, rfl, rfl, rfl, trivial⟩ ?_
      have eF : (fX4_multiplyAndAdd_35 b) i4 z5 = t15 := by rw [hA13]; rw [et15]; (try rw [et14]); unfold fX4_multiplyAndAdd_a2; first | done | (dsimp only; done) | rfl
      exact Eq.mp (congrArg (fun (z16 : zSt) => zJ κ (wX D kc ad n) 35 (zlof [(0, .ref (zad (wX D kc ad n) 66)), (2, .ref (zad (wX D kc ad n) b)), (4, .ref (zad (wX D kc ad n) out)), (5, .int (dI i4))]) [] z16) eF) (k0 ((by omega)))
  · intro hIi4
    revert hIi4
    refine z_nm (P := fun (z5 : zSt) => (fun i4 z5 => i4 ≤ 256) 0 z5 → zJ κ (wX D kc ad n) 35 (zlof [(0, .ref (zad (wX D kc ad n) 66)), (2, .ref (zad (wX D kc ad n) b)), (4, .ref (zad (wX D kc ad n) out)), (5, .int (dI 0))]) [] z5) (fun u17 eu17 => ?_)
    intro hIi4
    refine j_iload C dX4_multiplyAndAdd_35 rfl ?_
    refine j_if_lt (tgt := 78) C dX4_multiplyAndAdd_37 (by decide) (fun q18 => ?_) (fun q18 => False.elim (q18 dI_0))
    refine j_aload_n C dX4_multiplyAndAdd_78 rfl rfl ?_
    refine j_getR C dX4_multiplyAndAdd_79 (fx_RX4_15 D kc ad n) (show 11 ≤ 66 by decide) (show 66 < n by omega) ?_
    refine j_aload_n C dX4_multiplyAndAdd_82 rfl rfl ?_
    refine j_getR C dX4_multiplyAndAdd_83 (fx_RX4_18 D kc ad n) (show 11 ≤ 66 by decide) (show 66 < n by omega) ?_
    refine j_callS0 C dX4_multiplyAndAdd_86 (k_X4_increase l D kc ad n (by omega) 64 (⟨⟨rfl, rfl, by omega, by decide⟩, by decide⟩ : wa n 4 64) 65 (⟨⟨rfl, rfl, by omega, by decide⟩, by decide⟩ : wa n 4 65).1 _ ) zy_X4_increase mw_24_18 rfl rfl (Nat.le_of_ble_eq_true rfl) ⟨rfl, rfl, Nat.le_of_ble_eq_true rfl, Nat.le_of_ble_eq_true rfl⟩ ?_
    refine j_nmS (fun t19 et19 => ?_)
    refine j_aload_n C dX4_multiplyAndAdd_89 rfl rfl ?_
    refine j_getR C dX4_multiplyAndAdd_90 (fx_RX4_15 D kc ad n) (show 11 ≤ 66 by decide) (show 66 < n by omega) ?_
    refine j_aload C dX4_multiplyAndAdd_93 rfl ?_
    refine j_callS0 C dX4_multiplyAndAdd_95 (k_X8_move l D kc ad n (by omega) 64 (⟨⟨rfl, rfl, by omega, by decide⟩, by decide⟩ : wa n 4 64).1 out hout _ ) zy_X8_move mw_25_5 rfl rfl (Nat.le_of_ble_eq_true rfl) ⟨rfl, rfl, Nat.le_of_ble_eq_true rfl, Nat.le_of_ble_eq_true rfl⟩ ?_
    refine j_nmS (fun t20 et20 => ?_)
    exact j_vret (st := []) C R0 dX4_multiplyAndAdd_98 ⟨rfl, (by (try rw [et20]); (try rw [et19]); (try rw [eu17]); (try rw [et3]); (try rw [et2]); (try rw [et1]); unfold fX4_multiplyAndAdd; (try dsimp only); all_goals ((try simp only [zfst_mk, zsnd_mk]); all_goals rfl))⟩
theorem k2_fX4_multiplyAndAdd_a1 (t7 : zSt) : zk2 (fX4_multiplyAndAdd_a1 t7) = zk2 t7 := by
  unfold fX4_multiplyAndAdd_a1
  (try dsimp only)
  all_goals (simp only [zW_2, zL_2]; done)
theorem k2_fX4_multiplyAndAdd_a2 (t7 : zSt) : zk2 (fX4_multiplyAndAdd_a2 t7) = zk2 t7 := by
  unfold fX4_multiplyAndAdd_a2
  (try dsimp only)
  all_goals (simp only [zW_2, zL_2, k2_fX4_increase]; done)
theorem k2_fX4_multiplyAndAdd_35 (b : Nat) (i4 : Nat) (z5 : zSt) : zk2 (fX4_multiplyAndAdd_35 b i4 z5) = zk2 z5 := by
  unfold fX4_multiplyAndAdd_35
  (try dsimp only)
  all_goals (refine ite_keep (fun r : zSt => zk2 r) _ _ ?_ ?_ <;> (simp only [zW_2, zL_2, k2_fX4_increase, k2_fX4_multiplyAndAdd_a1, k2_fX4_multiplyAndAdd_a2]; done))
theorem k2it_fX4_multiplyAndAdd_35 (b : Nat) (nn : Nat) (xx : zSt) : zk2 (zdown (fX4_multiplyAndAdd_35 b) nn xx) = zk2 xx := zdown_keep (fun x => zk2 x) _ (k2_fX4_multiplyAndAdd_35 b) nn xx
theorem k2_fX4_multiplyAndAdd (a : Nat) (b : Nat) (e : Nat) (out : Nat) (s0 : zSt) : zk2 (fX4_multiplyAndAdd a b e out s0) = zk2 s0 := by
  unfold fX4_multiplyAndAdd
  (try dsimp only)
  all_goals (simp only [zW_2, zL_2, k2_fJ7_fill_d0a16, k2_fX4_increase, k2_fX4_multiplyAndAdd_35, k2_fX4_reduce, k2_fX8_move, k2it_fX4_multiplyAndAdd_35]; done)
theorem i2_fX4_multiplyAndAdd (a : Nat) (b : Nat) (e : Nat) (out : Nat) (s0 : zSt) (kk9 : Nat) : (fX4_multiplyAndAdd a b e out s0).2.2 kk9 = s0.2.2 kk9 := z2_I (k2_fX4_multiplyAndAdd a b e out s0) kk9
theorem i3_fX4_multiplyAndAdd (a : Nat) (b : Nat) (e : Nat) (out : Nat) (s0 : zSt) (kk9 : Nat) : zi (fX4_multiplyAndAdd a b e out s0) kk9 = zi s0 kk9 := zi_of (k2_fX4_multiplyAndAdd a b e out s0) kk9
