def vX8_bit (row : Nat) (i : Nat) (s0 : zSt) : Int32 :=
    ((zus (s0.1 row (i / 2 ^ 6)) (i % 2 ^ 6)).toInt32) &&& (nI (1))
set_option maxHeartbeats 4000000 in
set_option maxRecDepth 100000 in
theorem k_X8_bit (l : Launch) (D : va_G) (kc : Nat → ClassId) (ad : Nat → Nat) (n : Nat) (hn : 0 ≤ n) (row : Nat) (hrow : ra n 4 row) (i : Nat) (hi : i < 256) (s0 : zSt) : zM l yX8_bit cX8_bit 2 (some .int) rX8_bit (wX D kc ad n) [.ref (zad (wX D kc ad n) row), .int (nI (i))] s0 (zV1 (.int (vX8_bit row i s0)) s0) := by
  refine z_of (own := RX8) (by decide +kernel) rfl (Nat.le_of_ble_eq_true rfl) ?_
  intro κ C R0
  refine j_at [(0, .ref (zad (wX D kc ad n) row)), (1, .int (nI (i)))] ⟨rfl, rfl, trivial⟩ ?_
  refine j_aload_n C dX8_bit_0 rfl rfl ?_
  refine j_iload_n C dX8_bit_1 rfl rfl ?_
  refine j_bipush (v := nI 6) C dX8_bit_2 (by decide +kernel) ?_
  refine j_ishrN C dX8_bit_4 (by omega) (by decide +kernel) ?_
  refine x_lald C dX8_bit_5 hrow (by omega) ?_
  refine j_iload_n C dX8_bit_6 rfl rfl ?_
  refine j_bipush (v := nI 63) C dX8_bit_7 (by decide +kernel) ?_
  refine j_iandN C 6 dX8_bit_9 (by omega) (by decide +kernel) ?_
  refine j_lushr C dX8_bit_10 (by omega) ?_
  refine j_l2i C dX8_bit_11 ?_
  refine j_iconst (v := nI 1) C dX8_bit_12 (by decide +kernel) ?_
  refine j_iand C dX8_bit_13 ?_
  exact j_iret (st := []) C R0 dX8_bit_14 ⟨(by rfl), (by rfl)⟩

def fX1_add_3 (a : Nat) (b : Nat) (out : Nat) (i1 : Nat) (z2 : zSt) : zSt :=
    let t3 := zW z2 out i1 ((z2.1 a i1) + (z2.1 b i1))
    t3
def fX1_add (a : Nat) (b : Nat) (out : Nat) (s0 : zSt) : zSt :=
    let u6 := ziter (fX1_add_3 a b out) 0 10 s0
    u6
set_option maxHeartbeats 4000000 in
set_option maxRecDepth 100000 in
theorem k_X1_add (l : Launch) (D : va_G) (kc : Nat → ClassId) (ad : Nat → Nat) (n : Nat) (hn : 63 ≤ n) (a : Nat) (ha : ra n 10 a) (b : Nat) (hb : ra n 10 b) (out : Nat) (hout : wa n 10 out) (s0 : zSt) : zM l yX1_add cX1_add 5 none rX1_add (wX D kc ad n) [.ref (zad (wX D kc ad n) 62), .ref (zad (wX D kc ad n) a), .ref (zad (wX D kc ad n) b), .ref (zad (wX D kc ad n) out)] s0 (zV0 (fX1_add a b out s0)) := by
  refine z_of (own := RX1) (by decide +kernel) rfl (Nat.le_of_ble_eq_true rfl) ?_
  intro κ C R0
  refine j_at [(0, .ref (zad (wX D kc ad n) 62)), (1, .ref (zad (wX D kc ad n) a)), (2, .ref (zad (wX D kc ad n) b)), (3, .ref (zad (wX D kc ad n) out))] ⟨rfl, rfl, rfl, rfl, trivial⟩ ?_
  refine j_iconst (v := nI 0) C dX1_add_0 (by decide +kernel) ?_
  refine j_istore C dX1_add_1 (by decide) ?_
  refine j_at [(1, .ref (zad (wX D kc ad n) a)), (2, .ref (zad (wX D kc ad n) b)), (3, .ref (zad (wX D kc ad n) out)), (4, .int (nI (0)))] ⟨rfl, rfl, rfl, rfl, trivial⟩ ?_
  refine z_up (α := zSt) (fun (i1 : Nat) (z2 : zSt) => zJ κ (wX D kc ad n) 3 (zlof [(1, .ref (zad (wX D kc ad n) a)), (2, .ref (zad (wX D kc ad n) b)), (3, .ref (zad (wX D kc ad n) out)), (4, .int (nI i1))]) [] z2) (fX1_add_3 a b out) (fun _ _ => True) 10 ?_ (fun _ _ _ _ => trivial) 10 0 s0 (by omega) trivial ?_
  · intro i1 z2 hi1 hIi1 k0
    refine j_iload C dX1_add_3 rfl ?_
    refine j_bipush (v := nI 10) C dX1_add_5 (by decide +kernel) ?_
    refine j_icmp_geN (tgt := 29) C dX1_add_7 (by decide) (by omega) (by omega) (fun q => absurd q (by omega)) (fun _ => ?_)
    refine j_aload_n C dX1_add_10 rfl rfl ?_
    refine j_iload C dX1_add_11 rfl ?_
    refine j_aload_n C dX1_add_13 rfl rfl ?_
    refine j_iload C dX1_add_14 rfl ?_
    refine x_lald C dX1_add_16 ha (by omega) ?_
    refine j_aload_n C dX1_add_17 rfl rfl ?_
    refine j_iload C dX1_add_18 rfl ?_
    refine x_lald C dX1_add_20 hb (by omega) ?_
    refine j_ladd C dX1_add_21 ?_
    refine x_last C dX1_add_22 hout (by omega) ?_
    refine j_nmS (fun t3 et3 => ?_)
    refine j_iincN (b := 1) C dX1_add_23 rfl (by decide +kernel) (by decide) ?_
    refine j_goto (tgt := 3) C dX1_add_26 (by decide) ?_
    refine j_nmS (fun t4 et4 => ?_)
    refine j_at [(1, .ref (zad (wX D kc ad n) a)), (2, .ref (zad (wX D kc ad n) b)), (3, .ref (zad (wX D kc ad n) out)), (4, .int (nI (i1 + 1)))] ⟨rfl, rfl, rfl, rfl, trivial⟩ ?_
    have e : (fX1_add_3 a b out) i1 z2 = t4 := by subst et4; subst et3; rfl
    exact Eq.mp (congrArg (fun (z5 : zSt) => zJ κ (wX D kc ad n) 3 (zlof [(1, .ref (zad (wX D kc ad n) a)), (2, .ref (zad (wX D kc ad n) b)), (3, .ref (zad (wX D kc ad n) out)), (4, .int (nI (i1 + 1)))]) [] z5) e) (k0 trivial)
  · intro hIi1
    refine z_nm (P := fun (z2 : zSt) => zJ κ (wX D kc ad n) 3 (zlof [(1, .ref (zad (wX D kc ad n) a)), (2, .ref (zad (wX D kc ad n) b)), (3, .ref (zad (wX D kc ad n) out)), (4, .int (nI 10))]) [] z2) (fun u6 eu6 => ?_)
    refine j_iload C dX1_add_3 rfl ?_
    refine j_bipush (v := nI 10) C dX1_add_5 (by decide +kernel) ?_
    refine j_icmp_geN (tgt := 29) C dX1_add_7 (by decide) (by omega) (by omega) (fun _ => ?_) (fun q => absurd q (by omega))
    exact j_vret (st := []) C R0 dX1_add_29 ⟨rfl, (by subst eu6; rfl)⟩

def fX1_carry_2 (a : Nat) (i1 : Nat) (z2 : zSt) : zSt :=
    let t3 := zW z2 a (i1 + 1) ((z2.1 a (i1 + 1)) + (zsr (z2.1 a i1) 26))
    let t4 := zW t3 a i1 ((t3.1 a i1) &&& ((67108863 : Int64)))
    t4
def fX1_carry (a : Nat) (s0 : zSt) : zSt :=
    let u7 := ziter (fX1_carry_2 a) 0 9 s0
    let x8 := zsr (u7.1 a 9) 21
    let t9 := zW u7 a 9 ((u7.1 a 9) &&& ((2097151 : Int64)))
    let t10 := zW t9 a 0 ((t9.1 a 0) + (((19 : Int64)) * x8))
    t10
set_option maxHeartbeats 4000000 in
set_option maxRecDepth 100000 in
theorem k_X1_carry (l : Launch) (D : va_G) (kc : Nat → ClassId) (ad : Nat → Nat) (n : Nat) (hn : 63 ≤ n) (a : Nat) (ha : wa n 10 a) (s0 : zSt) : zM l yX1_carry cX1_carry 4 none rX1_carry (wX D kc ad n) [.ref (zad (wX D kc ad n) 62), .ref (zad (wX D kc ad n) a)] s0 (zV0 (fX1_carry a s0)) := by
  refine z_of (own := RX1) (by decide +kernel) rfl (Nat.le_of_ble_eq_true rfl) ?_
  intro κ C R0
  refine j_at [(0, .ref (zad (wX D kc ad n) 62)), (1, .ref (zad (wX D kc ad n) a))] ⟨rfl, rfl, trivial⟩ ?_
  refine j_iconst (v := nI 0) C dX1_carry_0 (by decide +kernel) ?_
  refine j_istore_n C dX1_carry_1 rfl (by decide) ?_
  refine j_at [(1, .ref (zad (wX D kc ad n) a)), (2, .int (nI (0)))] ⟨rfl, rfl, trivial⟩ ?_
  refine z_up (α := zSt) (fun (i1 : Nat) (z2 : zSt) => zJ κ (wX D kc ad n) 2 (zlof [(1, .ref (zad (wX D kc ad n) a)), (2, .int (nI i1))]) [] z2) (fX1_carry_2 a) (fun _ _ => True) 9 ?_ (fun _ _ _ _ => trivial) 9 0 s0 (by omega) trivial ?_
  · intro i1 z2 hi1 hIi1 k0
    refine j_iload_n C dX1_carry_2 rfl rfl ?_
    refine j_bipush (v := nI 9) C dX1_carry_3 (by decide +kernel) ?_
    refine j_icmp_geN (tgt := 37) C dX1_carry_5 (by decide) (by omega) (by omega) (fun q => absurd q (by omega)) (fun _ => ?_)
    refine j_aload_n C dX1_carry_8 rfl rfl ?_
    refine j_iload_n C dX1_carry_9 rfl rfl ?_
    refine j_iconst (v := nI 1) C dX1_carry_10 (by decide +kernel) ?_
    refine j_iaddN C dX1_carry_11 ?_
    refine j_dup2 C dX1_carry_12 rfl rfl ?_
    refine x_lald C dX1_carry_13 ha.1 (by omega) ?_
    refine j_aload_n C dX1_carry_14 rfl rfl ?_
    refine j_iload_n C dX1_carry_15 rfl rfl ?_
    refine x_lald C dX1_carry_16 ha.1 (by omega) ?_
    refine j_bipush (v := nI 26) C dX1_carry_17 (by decide +kernel) ?_
    refine j_lshr C dX1_carry_19 (by omega) ?_
    refine j_ladd C dX1_carry_20 ?_
    refine x_last C dX1_carry_21 ha (by omega) ?_
    refine j_nmS (fun t3 et3 => ?_)
    refine j_aload_n C dX1_carry_22 rfl rfl ?_
    refine j_iload_n C dX1_carry_23 rfl rfl ?_
    refine j_dup2 C dX1_carry_24 rfl rfl ?_
    refine x_lald C dX1_carry_25 ha.1 (by omega) ?_
    refine j_ldc2 C dX1_carry_26 mw_4_8 ?_
    refine j_land C dX1_carry_29 ?_
    refine x_last C dX1_carry_30 ha (by omega) ?_
    refine j_nmS (fun t4 et4 => ?_)
    refine j_iincN (b := 1) C dX1_carry_31 rfl (by decide +kernel) (by decide) ?_
    refine j_goto (tgt := 2) C dX1_carry_34 (by decide) ?_
    refine j_nmS (fun t5 et5 => ?_)
    refine j_at [(1, .ref (zad (wX D kc ad n) a)), (2, .int (nI (i1 + 1)))] ⟨rfl, rfl, trivial⟩ ?_
    have e : (fX1_carry_2 a) i1 z2 = t5 := by subst et5; subst et4; subst et3; rfl
    exact Eq.mp (congrArg (fun (z6 : zSt) => zJ κ (wX D kc ad n) 2 (zlof [(1, .ref (zad (wX D kc ad n) a)), (2, .int (nI (i1 + 1)))]) [] z6) e) (k0 trivial)
  · intro hIi1
    refine z_nm (P := fun (z2 : zSt) => zJ κ (wX D kc ad n) 2 (zlof [(1, .ref (zad (wX D kc ad n) a)), (2, .int (nI 9))]) [] z2) (fun u7 eu7 => ?_)
    refine j_iload_n C dX1_carry_2 rfl rfl ?_
    refine j_bipush (v := nI 9) C dX1_carry_3 (by decide +kernel) ?_
    refine j_icmp_geN (tgt := 37) C dX1_carry_5 (by decide) (by omega) (by omega) (fun _ => ?_) (fun q => absurd q (by omega))
    refine j_aload_n C dX1_carry_37 rfl rfl ?_
    refine j_bipush (v := nI 9) C dX1_carry_38 (by decide +kernel) ?_
    refine x_lald C dX1_carry_40 ha.1 (by omega) ?_
    refine j_bipush (v := nI 21) C dX1_carry_41 (by decide +kernel) ?_
    refine j_lshr C dX1_carry_43 (by omega) ?_
    refine j_nmL (fun x8 ex8 => ?_)
    refine j_lstore_n C dX1_carry_44 rfl (by decide) ?_
    refine j_aload_n C dX1_carry_45 rfl rfl ?_
    refine j_bipush (v := nI 9) C dX1_carry_46 (by decide +kernel) ?_
    refine j_dup2 C dX1_carry_48 rfl rfl ?_
    refine x_lald C dX1_carry_49 ha.1 (by omega) ?_
    refine j_ldc2 C dX1_carry_50 mw_4_9 ?_
    refine j_land C dX1_carry_53 ?_
    refine x_last C dX1_carry_54 ha (by omega) ?_
    refine j_nmS (fun t9 et9 => ?_)
    refine j_aload_n C dX1_carry_55 rfl rfl ?_
    refine j_iconst (v := nI 0) C dX1_carry_56 (by decide +kernel) ?_
    refine j_dup2 C dX1_carry_57 rfl rfl ?_
    refine x_lald C dX1_carry_58 ha.1 (by omega) ?_
    refine j_ldc2 C dX1_carry_59 mw_7_7 ?_
    refine j_lload_n C dX1_carry_62 rfl rfl ?_
    refine j_lmul C dX1_carry_63 ?_
    refine j_ladd C dX1_carry_64 ?_
    refine x_last C dX1_carry_65 ha (by omega) ?_
    refine j_nmS (fun t10 et10 => ?_)
    exact j_vret (st := []) C R0 dX1_carry_66 ⟨rfl, (by subst et10; subst et9; subst ex8; subst eu7; rfl)⟩

def fX1_fold_2  (i1 : Nat) (z2 : zSt) : zSt :=
    let t3 := zW z2 40 (i1 + 1) ((z2.1 40 (i1 + 1)) + (zsr (z2.1 40 i1) 26))
    let t4 := zW t3 40 i1 ((t3.1 40 i1) &&& ((67108863 : Int64)))
    t4
def fX1_fold_48 (out : Nat) (i8 : Nat) (z9 : zSt) : zSt :=
    let t10 := zW z9 out i8 ((z9.1 40 i8) + (((608 : Int64)) * (z9.1 40 (i8 + 10))))
    t10
def fX1_fold (out : Nat) (s0 : zSt) : zSt :=
    let u7 := ziter fX1_fold_2 0 19 s0
    let u13 := ziter (fX1_fold_48 out) 0 10 u7
    u13
set_option maxHeartbeats 4000000 in
set_option maxRecDepth 100000 in
theorem k_X1_fold (l : Launch) (D : va_G) (kc : Nat → ClassId) (ad : Nat → Nat) (n : Nat) (hn : 63 ≤ n) (out : Nat) (hout : wa n 10 out) (s0 : zSt) : zM l yX1_fold cX1_fold 3 none rX1_fold (wX D kc ad n) [.ref (zad (wX D kc ad n) 62), .ref (zad (wX D kc ad n) out)] s0 (zV0 (fX1_fold out s0)) := by
  refine z_of (own := RX1) (by decide +kernel) rfl (Nat.le_of_ble_eq_true rfl) ?_
  intro κ C R0
  refine j_at [(0, .ref (zad (wX D kc ad n) 62)), (1, .ref (zad (wX D kc ad n) out))] ⟨rfl, rfl, trivial⟩ ?_
  refine j_iconst (v := nI 0) C dX1_fold_0 (by decide +kernel) ?_
  refine j_istore_n C dX1_fold_1 rfl (by decide) ?_
  refine j_at [(0, .ref (zad (wX D kc ad n) 62)), (1, .ref (zad (wX D kc ad n) out)), (2, .int (nI (0)))] ⟨rfl, rfl, rfl, trivial⟩ ?_
  refine z_up (α := zSt) (fun (i1 : Nat) (z2 : zSt) => zJ κ (wX D kc ad n) 2 (zlof [(0, .ref (zad (wX D kc ad n) 62)), (1, .ref (zad (wX D kc ad n) out)), (2, .int (nI i1))]) [] z2) fX1_fold_2 (fun _ _ => True) 19 ?_ (fun _ _ _ _ => trivial) 19 0 s0 (by omega) trivial ?_
  · intro i1 z2 hi1 hIi1 k0
    refine j_iload_n C dX1_fold_2 rfl rfl ?_
    refine j_bipush (v := nI 19) C dX1_fold_3 (by decide +kernel) ?_
    refine j_icmp_geN (tgt := 46) C dX1_fold_5 (by decide) (by omega) (by omega) (fun q => absurd q (by omega)) (fun _ => ?_)
    refine j_aload_n C dX1_fold_8 rfl rfl ?_
    refine j_getR C dX1_fold_9 (fx_RX1_16 D kc ad n) (show 11 ≤ 62 by decide) (show 62 < n by omega) ?_
    refine j_iload_n C dX1_fold_12 rfl rfl ?_
    refine j_iconst (v := nI 1) C dX1_fold_13 (by decide +kernel) ?_
    refine j_iaddN C dX1_fold_14 ?_
    refine j_dup2 C dX1_fold_15 rfl rfl ?_
    refine x_lald C dX1_fold_16 (⟨⟨rfl, rfl, by omega, by decide⟩, by decide⟩ : wa n 20 40).1 (by omega) ?_
    refine j_aload_n C dX1_fold_17 rfl rfl ?_
    refine j_getR C dX1_fold_18 (fx_RX1_16 D kc ad n) (show 11 ≤ 62 by decide) (show 62 < n by omega) ?_
    refine j_iload_n C dX1_fold_21 rfl rfl ?_
    refine x_lald C dX1_fold_22 (⟨⟨rfl, rfl, by omega, by decide⟩, by decide⟩ : wa n 20 40).1 (by omega) ?_
    refine j_bipush (v := nI 26) C dX1_fold_23 (by decide +kernel) ?_
    refine j_lshr C dX1_fold_25 (by omega) ?_
    refine j_ladd C dX1_fold_26 ?_
    refine x_last C dX1_fold_27 (⟨⟨rfl, rfl, by omega, by decide⟩, by decide⟩ : wa n 20 40) (by omega) ?_
    refine j_nmS (fun t3 et3 => ?_)
    refine j_aload_n C dX1_fold_28 rfl rfl ?_
    refine j_getR C dX1_fold_29 (fx_RX1_16 D kc ad n) (show 11 ≤ 62 by decide) (show 62 < n by omega) ?_
    refine j_iload_n C dX1_fold_32 rfl rfl ?_
    refine j_dup2 C dX1_fold_33 rfl rfl ?_
    refine x_lald C dX1_fold_34 (⟨⟨rfl, rfl, by omega, by decide⟩, by decide⟩ : wa n 20 40).1 (by omega) ?_
    refine j_ldc2 C dX1_fold_35 mw_4_8 ?_
    refine j_land C dX1_fold_38 ?_
    refine x_last C dX1_fold_39 (⟨⟨rfl, rfl, by omega, by decide⟩, by decide⟩ : wa n 20 40) (by omega) ?_
    refine j_nmS (fun t4 et4 => ?_)
    refine j_iincN (b := 1) C dX1_fold_40 rfl (by decide +kernel) (by decide) ?_
    refine j_goto (tgt := 2) C dX1_fold_43 (by decide) ?_
    refine j_nmS (fun t5 et5 => ?_)
    refine j_at [(0, .ref (zad (wX D kc ad n) 62)), (1, .ref (zad (wX D kc ad n) out)), (2, .int (nI (i1 + 1)))] ⟨rfl, rfl, rfl, trivial⟩ ?_
    have e : fX1_fold_2 i1 z2 = t5 := by subst et5; subst et4; subst et3; rfl
    exact Eq.mp (congrArg (fun (z6 : zSt) => zJ κ (wX D kc ad n) 2 (zlof [(0, .ref (zad (wX D kc ad n) 62)), (1, .ref (zad (wX D kc ad n) out)), (2, .int (nI (i1 + 1)))]) [] z6) e) (k0 trivial)
  · intro hIi1
    refine z_nm (P := fun (z2 : zSt) => zJ κ (wX D kc ad n) 2 (zlof [(0, .ref (zad (wX D kc ad n) 62)), (1, .ref (zad (wX D kc ad n) out)), (2, .int (nI 19))]) [] z2) (fun u7 eu7 => ?_)
    refine j_iload_n C dX1_fold_2 rfl rfl ?_
    refine j_bipush (v := nI 19) C dX1_fold_3 (by decide +kernel) ?_
    refine j_icmp_geN (tgt := 46) C dX1_fold_5 (by decide) (by omega) (by omega) (fun _ => ?_) (fun q => absurd q (by omega))
    refine j_iconst (v := nI 0) C dX1_fold_46 (by decide +kernel) ?_
    refine j_istore_n C dX1_fold_47 rfl (by decide) ?_
    refine j_at [(0, .ref (zad (wX D kc ad n) 62)), (1, .ref (zad (wX D kc ad n) out)), (2, .int (nI (0)))] ⟨rfl, rfl, rfl, trivial⟩ ?_
    refine z_up (α := zSt) (fun (i8 : Nat) (z9 : zSt) => zJ κ (wX D kc ad n) 48 (zlof [(0, .ref (zad (wX D kc ad n) 62)), (1, .ref (zad (wX D kc ad n) out)), (2, .int (nI i8))]) [] z9) (fX1_fold_48 out) (fun _ _ => True) 10 ?_ (fun _ _ _ _ => trivial) 10 0 u7 (by omega) trivial ?_
    · intro i8 z9 hi8 hIi8 k0
      refine j_iload_n C dX1_fold_48 rfl rfl ?_
      refine j_bipush (v := nI 10) C dX1_fold_49 (by decide +kernel) ?_
      refine j_icmp_geN (tgt := 83) C dX1_fold_51 (by decide) (by omega) (by omega) (fun q => absurd q (by omega)) (fun _ => ?_)
      refine j_aload_n C dX1_fold_54 rfl rfl ?_
      refine j_iload_n C dX1_fold_55 rfl rfl ?_
      refine j_aload_n C dX1_fold_56 rfl rfl ?_
      refine j_getR C dX1_fold_57 (fx_RX1_16 D kc ad n) (show 11 ≤ 62 by decide) (show 62 < n by omega) ?_
      refine j_iload_n C dX1_fold_60 rfl rfl ?_
      refine x_lald C dX1_fold_61 (⟨⟨rfl, rfl, by omega, by decide⟩, by decide⟩ : wa n 20 40).1 (by omega) ?_
      refine j_ldc2 C dX1_fold_62 mw_7_2 ?_
      refine j_aload_n C dX1_fold_65 rfl rfl ?_
      refine j_getR C dX1_fold_66 (fx_RX1_16 D kc ad n) (show 11 ≤ 62 by decide) (show 62 < n by omega) ?_
      refine j_iload_n C dX1_fold_69 rfl rfl ?_
      refine j_bipush (v := nI 10) C dX1_fold_70 (by decide +kernel) ?_
      refine j_iaddN C dX1_fold_72 ?_
      refine x_lald C dX1_fold_73 (⟨⟨rfl, rfl, by omega, by decide⟩, by decide⟩ : wa n 20 40).1 (by omega) ?_
      refine j_lmul C dX1_fold_74 ?_
      refine j_ladd C dX1_fold_75 ?_
      refine x_last C dX1_fold_76 hout (by omega) ?_
      refine j_nmS (fun t10 et10 => ?_)
      refine j_iincN (b := 1) C dX1_fold_77 rfl (by decide +kernel) (by decide) ?_
      refine j_goto (tgt := 48) C dX1_fold_80 (by decide) ?_
      refine j_nmS (fun t11 et11 => ?_)
      refine j_at [(0, .ref (zad (wX D kc ad n) 62)), (1, .ref (zad (wX D kc ad n) out)), (2, .int (nI (i8 + 1)))] ⟨rfl, rfl, rfl, trivial⟩ ?_
      have e : (fX1_fold_48 out) i8 z9 = t11 := by subst et11; subst et10; rfl
      exact Eq.mp (congrArg (fun (z12 : zSt) => zJ κ (wX D kc ad n) 48 (zlof [(0, .ref (zad (wX D kc ad n) 62)), (1, .ref (zad (wX D kc ad n) out)), (2, .int (nI (i8 + 1)))]) [] z12) e) (k0 trivial)
    · intro hIi8
      refine z_nm (P := fun (z9 : zSt) => zJ κ (wX D kc ad n) 48 (zlof [(0, .ref (zad (wX D kc ad n) 62)), (1, .ref (zad (wX D kc ad n) out)), (2, .int (nI 10))]) [] z9) (fun u13 eu13 => ?_)
      refine j_iload_n C dX1_fold_48 rfl rfl ?_
      refine j_bipush (v := nI 10) C dX1_fold_49 (by decide +kernel) ?_
      refine j_icmp_geN (tgt := 83) C dX1_fold_51 (by decide) (by omega) (by omega) (fun _ => ?_) (fun q => absurd q (by omega))
      exact j_vret (st := []) C R0 dX1_fold_83 ⟨rfl, (by subst eu13; subst eu7; rfl)⟩

def fX1_load_2 (ws : Nat) (out : Nat) (i1 : Nat) (z2 : zSt) : zSt :=
    let x3 := (26 * i1) / 2 ^ 6
    let x4 := (26 * i1) % 2 ^ 6
    let x5 := zus (z2.1 ws x3) x4
    if x4 + 26 ≤ 64 then
      let t6 := zW z2 out i1 (x5 &&& ((67108863 : Int64)))
      t6
    else
      if 4 ≤ x3 + 1 then
        let t9 := zW z2 out i1 (x5 &&& ((67108863 : Int64)))
        t9
      else
        let x12 := x5 ||| (zsl (z2.1 ws (x3 + 1)) (64 - x4))
        let t13 := zW z2 out i1 (x12 &&& ((67108863 : Int64)))
        t13
def fX1_load (ws : Nat) (out : Nat) (s0 : zSt) : zSt :=
    let u16 := ziter (fX1_load_2 ws out) 0 10 s0
    let t17 := zW u16 out 9 ((u16.1 out 9) &&& ((2097151 : Int64)))
    t17
set_option maxHeartbeats 4000000 in
set_option maxRecDepth 100000 in
theorem k_X1_load (l : Launch) (D : va_G) (kc : Nat → ClassId) (ad : Nat → Nat) (n : Nat) (hn : 63 ≤ n) (ws : Nat) (hws : ra n 4 ws) (out : Nat) (hout : wa n 10 out) (s0 : zSt) : zM l yX1_load cX1_load 8 none rX1_load (wX D kc ad n) [.ref (zad (wX D kc ad n) 62), .ref (zad (wX D kc ad n) ws), .ref (zad (wX D kc ad n) out)] s0 (zV0 (fX1_load ws out s0)) := by
  refine z_of (own := RX1) (by decide +kernel) rfl (Nat.le_of_ble_eq_true rfl) ?_
  intro κ C R0
  refine j_at [(0, .ref (zad (wX D kc ad n) 62)), (1, .ref (zad (wX D kc ad n) ws)), (2, .ref (zad (wX D kc ad n) out))] ⟨rfl, rfl, rfl, trivial⟩ ?_
  refine j_iconst (v := nI 0) C dX1_load_0 (by decide +kernel) ?_
  refine j_istore_n C dX1_load_1 rfl (by decide) ?_
  refine j_at [(1, .ref (zad (wX D kc ad n) ws)), (2, .ref (zad (wX D kc ad n) out)), (3, .int (nI (0)))] ⟨rfl, rfl, rfl, trivial⟩ ?_
  refine z_up (α := zSt) (fun (i1 : Nat) (z2 : zSt) => zJ κ (wX D kc ad n) 2 (zlof [(1, .ref (zad (wX D kc ad n) ws)), (2, .ref (zad (wX D kc ad n) out)), (3, .int (nI i1))]) [] z2) (fX1_load_2 ws out) (fun _ _ => True) 10 ?_ (fun _ _ _ _ => trivial) 10 0 s0 (by omega) trivial ?_
  · intro i1 z2 hi1 hIi1 k0
    refine j_iload_n C dX1_load_2 rfl rfl ?_
    refine j_bipush (v := nI 10) C dX1_load_3 (by decide +kernel) ?_
    refine j_icmp_geN (tgt := 85) C dX1_load_5 (by decide) (by omega) (by omega) (fun q => absurd q (by omega)) (fun _ => ?_)
    refine j_bipush (v := nI 26) C dX1_load_8 (by decide +kernel) ?_
    refine j_iload_n C dX1_load_10 rfl rfl ?_
    refine j_imulN C dX1_load_11 ?_
    refine j_bipush (v := nI 6) C dX1_load_12 (by decide +kernel) ?_
    refine j_ishrN C dX1_load_14 (by omega) (by decide +kernel) ?_
    refine j_nmN (fun x3 ex3 => ?_)
    refine j_istore C dX1_load_15 (by decide) ?_
    refine j_bipush (v := nI 26) C dX1_load_17 (by decide +kernel) ?_
    refine j_iload_n C dX1_load_19 rfl rfl ?_
    refine j_imulN C dX1_load_20 ?_
    refine j_bipush (v := nI 63) C dX1_load_21 (by decide +kernel) ?_
    refine j_iandN C 6 dX1_load_23 (by omega) (by decide +kernel) ?_
    refine j_nmN (fun x4 ex4 => ?_)
    refine j_istore C dX1_load_24 (by decide) ?_
    refine j_aload_n C dX1_load_26 rfl rfl ?_
    refine j_iload C dX1_load_27 rfl ?_
    refine x_lald C dX1_load_29 hws (by omega) ?_
    refine j_iload C dX1_load_30 rfl ?_
    refine j_lushr C dX1_load_32 (by omega) ?_
    refine j_nmL (fun x5 ex5 => ?_)
    refine j_lstore C dX1_load_33 (by decide) ?_
    refine j_iload C dX1_load_35 rfl ?_
    refine j_bipush (v := nI 26) C dX1_load_37 (by decide +kernel) ?_
    refine j_iaddN C dX1_load_39 ?_
    refine j_bipush (v := nI 64) C dX1_load_40 (by decide +kernel) ?_
    refine j_icmp_leN (tgt := 70) C dX1_load_42 (by decide) (by omega) (by omega) (fun q42 => ?_) (fun q42 => ?_)
    · refine j_aload_n C dX1_load_70 rfl rfl ?_
      refine j_iload_n C dX1_load_71 rfl rfl ?_
      refine j_lload C dX1_load_72 rfl ?_
      refine j_ldc2 C dX1_load_74 mw_4_8 ?_
      refine j_land C dX1_load_77 ?_
      refine x_last C dX1_load_78 hout (by omega) ?_
      refine j_nmS (fun t6 et6 => ?_)
      refine j_iincN (b := 1) C dX1_load_79 rfl (by decide +kernel) (by decide) ?_
      refine j_goto (tgt := 2) C dX1_load_82 (by decide) ?_
      refine j_nmS (fun t7 et7 => ?_)
      refine j_at [(1, .ref (zad (wX D kc ad n) ws)), (2, .ref (zad (wX D kc ad n) out)), (3, .int (nI (i1 + 1)))] ⟨rfl, rfl, rfl, trivial⟩ ?_
      have e : (fX1_load_2 ws out) i1 z2 = t7 := by subst et7; subst et6; subst ex5; subst ex4; subst ex3; unfold fX1_load_2; (try dsimp only); rw [if_pos q42]; rfl
      exact Eq.mp (congrArg (fun (z8 : zSt) => zJ κ (wX D kc ad n) 2 (zlof [(1, .ref (zad (wX D kc ad n) ws)), (2, .ref (zad (wX D kc ad n) out)), (3, .int (nI (i1 + 1)))]) [] z8) e) (k0 trivial)
    · refine j_iload C dX1_load_45 rfl ?_
      refine j_iconst (v := nI 1) C dX1_load_47 (by decide +kernel) ?_
      refine j_iaddN C dX1_load_48 ?_
      refine j_iconst (v := nI 4) C dX1_load_49 (by decide +kernel) ?_
      refine j_icmp_geN (tgt := 70) C dX1_load_50 (by decide) (by omega) (by omega) (fun q50 => ?_) (fun q50 => ?_)
      · refine j_aload_n C dX1_load_70 rfl rfl ?_
        refine j_iload_n C dX1_load_71 rfl rfl ?_
        refine j_lload C dX1_load_72 rfl ?_
        refine j_ldc2 C dX1_load_74 mw_4_8 ?_
        refine j_land C dX1_load_77 ?_
        refine x_last C dX1_load_78 hout (by omega) ?_
        refine j_nmS (fun t9 et9 => ?_)
        refine j_iincN (b := 1) C dX1_load_79 rfl (by decide +kernel) (by decide) ?_
        refine j_goto (tgt := 2) C dX1_load_82 (by decide) ?_
        refine j_nmS (fun t10 et10 => ?_)
        refine j_at [(1, .ref (zad (wX D kc ad n) ws)), (2, .ref (zad (wX D kc ad n) out)), (3, .int (nI (i1 + 1)))] ⟨rfl, rfl, rfl, trivial⟩ ?_
        have e : (fX1_load_2 ws out) i1 z2 = t10 := by subst et10; subst et9; subst ex5; subst ex4; subst ex3; unfold fX1_load_2; (try dsimp only); rw [if_neg (by omega)]; rw [if_pos q50]; rfl
        exact Eq.mp (congrArg (fun (z11 : zSt) => zJ κ (wX D kc ad n) 2 (zlof [(1, .ref (zad (wX D kc ad n) ws)), (2, .ref (zad (wX D kc ad n) out)), (3, .int (nI (i1 + 1)))]) [] z11) e) (k0 trivial)
      · refine j_lload C dX1_load_53 rfl ?_
        refine j_aload_n C dX1_load_55 rfl rfl ?_
        refine j_iload C dX1_load_56 rfl ?_
        refine j_iconst (v := nI 1) C dX1_load_58 (by decide +kernel) ?_
        refine j_iaddN C dX1_load_59 ?_
        refine x_lald C dX1_load_60 hws (by omega) ?_
        refine j_bipush (v := nI 64) C dX1_load_61 (by decide +kernel) ?_
        refine j_iload C dX1_load_63 rfl ?_
        refine j_isubN C dX1_load_65 (by omega) ?_
        refine j_lshl C dX1_load_66 (by omega) ?_
        refine j_lor C dX1_load_67 ?_
        refine j_nmL (fun x12 ex12 => ?_)
        refine j_lstore C dX1_load_68 (by decide) ?_
        refine j_aload_n C dX1_load_70 rfl rfl ?_
        refine j_iload_n C dX1_load_71 rfl rfl ?_
        refine j_lload C dX1_load_72 rfl ?_
        refine j_ldc2 C dX1_load_74 mw_4_8 ?_
        refine j_land C dX1_load_77 ?_
        refine x_last C dX1_load_78 hout (by omega) ?_
        refine j_nmS (fun t13 et13 => ?_)
        refine j_iincN (b := 1) C dX1_load_79 rfl (by decide +kernel) (by decide) ?_
        refine j_goto (tgt := 2) C dX1_load_82 (by decide) ?_
        refine j_nmS (fun t14 et14 => ?_)
        refine j_at [(1, .ref (zad (wX D kc ad n) ws)), (2, .ref (zad (wX D kc ad n) out)), (3, .int (nI (i1 + 1)))] ⟨rfl, rfl, rfl, trivial⟩ ?_
        have e : (fX1_load_2 ws out) i1 z2 = t14 := by subst et14; subst et13; subst ex12; subst ex5; subst ex4; subst ex3; unfold fX1_load_2; (try dsimp only); rw [if_neg (by omega)]; rw [if_neg (by omega)]; rfl
        exact Eq.mp (congrArg (fun (z15 : zSt) => zJ κ (wX D kc ad n) 2 (zlof [(1, .ref (zad (wX D kc ad n) ws)), (2, .ref (zad (wX D kc ad n) out)), (3, .int (nI (i1 + 1)))]) [] z15) e) (k0 trivial)
  · intro hIi1
    refine z_nm (P := fun (z2 : zSt) => zJ κ (wX D kc ad n) 2 (zlof [(1, .ref (zad (wX D kc ad n) ws)), (2, .ref (zad (wX D kc ad n) out)), (3, .int (nI 10))]) [] z2) (fun u16 eu16 => ?_)
    refine j_iload_n C dX1_load_2 rfl rfl ?_
    refine j_bipush (v := nI 10) C dX1_load_3 (by decide +kernel) ?_
    refine j_icmp_geN (tgt := 85) C dX1_load_5 (by decide) (by omega) (by omega) (fun _ => ?_) (fun q => absurd q (by omega))
    refine j_aload_n C dX1_load_85 rfl rfl ?_
    refine j_bipush (v := nI 9) C dX1_load_86 (by decide +kernel) ?_
    refine j_dup2 C dX1_load_88 rfl rfl ?_
    refine x_lald C dX1_load_89 hout.1 (by omega) ?_
    refine j_ldc2 C dX1_load_90 mw_4_9 ?_
    refine j_land C dX1_load_93 ?_
    refine x_last C dX1_load_94 hout (by omega) ?_
    refine j_nmS (fun t17 et17 => ?_)
    exact j_vret (st := []) C R0 dX1_load_95 ⟨rfl, (by subst et17; subst eu16; rfl)⟩
