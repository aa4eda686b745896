def fX1_load_a1 (out : Nat) (i1 : Nat) (z2 : zSt) (x6 : Int64) : zSt :=
    let t9 := zW z2 out i1 (x6 &&& ((67108863 : Int64)))
    t9
def fX1_load_a2 (out : Nat) (i1 : Nat) (z2 : zSt) (x6 : Int64) : zSt :=
    let t15 := zW z2 out i1 (x6 &&& ((67108863 : Int64)))
    t15
def fX1_load_a3 (ws : Nat) (out : Nat) (i1 : Nat) (z2 : zSt) (x4 : Nat) (x5 : Nat) (x6 : Int64) : zSt :=
    let x19 := x6 ||| (zsl (z2.1 ws (x4 + 1)) (64 - x5))
    let t20 := zW z2 out i1 (x19 &&& ((67108863 : Int64)))
    t20
def fX1_load_a4 (ws : Nat) (out : Nat) (i1 : Nat) (z2 : zSt) (x4 : Nat) (x5 : Nat) (x6 : Int64) : zSt :=
    if 4 ≤ x4 + 1 then
      fX1_load_a2 out i1 z2 x6
    else
      fX1_load_a3 ws out i1 z2 x4 x5 x6
def fX1_load_2 (ws : Nat) (out : Nat) (i1 : Nat) (z2 : zSt) : zSt :=
    let x4 := (26 * i1) / 2 ^ 6
    let x5 := (26 * i1) % 2 ^ 6
    let x6 := zus (z2.1 ws x4) x5
    if x5 + 26 ≤ 64 then
      fX1_load_a1 out i1 z2 x6
    else
      fX1_load_a4 ws out i1 z2 x4 x5 x6
def fX1_load (ws : Nat) (out : Nat) (s0 : zSt) : zSt :=
    let u23 := ziter (fX1_load_2 ws out) 0 10 s0
    let t25 := zW u23 out 9 ((u23.1 out 9) &&& ((2097151 : Int64)))
    t25
set_option maxHeartbeats 4000000 in
set_option maxRecDepth 100000 in
theorem k_X1_load (l : Launch) (D : va_G) (kc : Nat → ClassId) (ad : Nat → Nat) (n : Nat) (hn : 63 ≤ n) (ws : Nat) (hws : ra n 4 ws) (out : Nat) (hout : wa n 10 out) (s0 : zSt) : zM l yX1_load cX1_load 8 none rX1_load (wX D kc ad n) [.ref (zad (wX D kc ad n) 62), .ref (zad (wX D kc ad n) ws), .ref (zad (wX D kc ad n) out)] s0 (zV0 (fX1_load ws out s0)) := by
  refine z_of (own := RX1) (by decide +kernel) rfl (Nat.le_of_ble_eq_true rfl) ?_
  intro κ C R0
  refine j_at [(0, .ref (zad (wX D kc ad n) 62)), (1, .ref (zad (wX D kc ad n) ws)), (2, .ref (zad (wX D kc ad n) out))] ⟨rfl, rfl, rfl, trivial⟩ ?_
  refine j_iconst (v := nI 0) C dX1_load_0 (by decide +kernel) ?_
  refine j_istore_n C dX1_load_1 rfl (by decide) ?_
  refine j_at [(1, .ref (zad (wX D kc ad n) ws)), (2, .ref (zad (wX D kc ad n) out)), (3, .int (nI (0)))] ⟨rfl, rfl, rfl, trivial⟩ ?_
  refine z_up (α := zSt) (fun (i1 : Nat) (z2 : zSt) => zJ κ (wX D kc ad n) 2 (zlof [(1, .ref (zad (wX D kc ad n) ws)), (2, .ref (zad (wX D kc ad n) out)), (3, .int (nI (i1)))]) [] z2) (fX1_load_2 ws out) (fun _ _ => True) 10 ?_ (fun _ _ _ _ => trivial) 10 0 s0 (by omega) trivial ?_
  · intro i1 z2 hi1 hIi1 k0
    refine j_iload_n C dX1_load_2 rfl rfl ?_
    refine j_bipush (v := nI 10) C dX1_load_3 (by decide +kernel) ?_
    refine j_icmp_geN (tgt := 85) C dX1_load_5 (by decide) (by omega) (by omega) (fun q3 => False.elim (by omega)) (fun q3 => ?_)
    refine j_bipush (v := nI 26) C dX1_load_8 (by decide +kernel) ?_
    refine j_iload_n C dX1_load_10 rfl rfl ?_
    refine j_imulN C dX1_load_11 ?_
    refine j_bipush (v := nI 6) C dX1_load_12 (by decide +kernel) ?_
    refine j_ishrN C dX1_load_14 (by omega) (by decide +kernel) ?_
    refine j_nmN (fun x4 ex4 => ?_)
    refine j_istore C dX1_load_15 (by decide) ?_
    refine j_bipush (v := nI 26) C dX1_load_17 (by decide +kernel) ?_
    refine j_iload_n C dX1_load_19 rfl rfl ?_
    refine j_imulN C dX1_load_20 ?_
    refine j_bipush (v := nI 63) C dX1_load_21 (by decide +kernel) ?_
    refine j_iandN C 6 dX1_load_23 (by omega) (by decide +kernel) ?_
    refine j_nmN (fun x5 ex5 => ?_)
    refine j_istore C dX1_load_24 (by decide) ?_
    refine j_aload_n C dX1_load_26 rfl rfl ?_
    refine j_iload C dX1_load_27 rfl ?_
    refine x_lald C dX1_load_29 hws (by omega) ?_
    refine j_iload C dX1_load_30 rfl ?_
    refine j_lushr C dX1_load_32 (by omega) ?_
    refine j_nmL (fun x6 ex6 => ?_)
    refine j_lstore C dX1_load_33 (by decide) ?_
    refine j_iload C dX1_load_35 rfl ?_
    refine j_bipush (v := nI 26) C dX1_load_37 (by decide +kernel) ?_
    refine j_iaddN C dX1_load_39 ?_
    refine j_bipush (v := nI 64) C dX1_load_40 (by decide +kernel) ?_
    refine j_icmp_leN (tgt := 70) C dX1_load_42 (by decide) (by omega) (by omega) (fun q7 => ?_) (fun q7 => ?_)
    · have hA8 : (fX1_load_2 ws out) i1 z2 = fX1_load_a1 out i1 z2 x6 := by (try rw [ex6]); (try rw [ex5]); (try rw [ex4]); have q7z := q7; (try rw [ex6] at q7z); (try rw [ex5] at q7z); (try rw [ex4] at q7z); (try dsimp only at q7z); unfold fX1_load_2; (try dsimp only); rw [if_pos q7z]; (try rfl)
      refine j_aload_n C dX1_load_70 rfl rfl ?_
      refine j_iload_n C dX1_load_71 rfl rfl ?_
      refine j_lload C dX1_load_72 rfl ?_
      refine j_ldc2 C dX1_load_74 mw_4_8 ?_
      refine j_land C dX1_load_77 ?_
      refine x_last C dX1_load_78 hout (by omega) ?_
      refine j_nmS (fun t9 et9 => ?_)
      refine j_iincN (b := 1) C dX1_load_79 rfl (by decide +kernel) (by decide) ?_
      refine j_goto (tgt := 2) C dX1_load_82 (by decide) ?_
      refine j_nmS (fun t10 et10 => ?_)
      refine j_at [(1, .ref (zad (wX D kc ad n) ws)), (2, .ref (zad (wX D kc ad n) out)), (3, .int (nI (i1 + 1)))] ⟨rfl, rfl, rfl, trivial⟩ ?_
      have eF : (fX1_load_2 ws out) i1 z2 = t10 := by rw [hA8]; rw [et10]; (try rw [et9]); unfold fX1_load_a1; first | done | (dsimp only; done) | rfl
      exact Eq.mp (congrArg (fun (z11 : zSt) => zJ κ (wX D kc ad n) 2 (zlof [(1, .ref (zad (wX D kc ad n) ws)), (2, .ref (zad (wX D kc ad n) out)), (3, .int (nI (i1 + 1)))]) [] z11) eF) (k0 trivial)
    · have hA12 : (fX1_load_2 ws out) i1 z2 = fX1_load_a4 ws out i1 z2 x4 x5 x6 := by (try rw [ex6]); (try rw [ex5]); (try rw [ex4]); have q7z : ¬ (x5 + 26 ≤ 64) := (by omega); (try rw [ex6] at q7z); (try rw [ex5] at q7z); (try rw [ex4] at q7z); (try dsimp only at q7z); unfold fX1_load_2; (try dsimp only); rw [if_neg q7z]; (try rfl)
      refine j_iload C dX1_load_45 rfl ?_
      refine j_iconst (v := nI 1) C dX1_load_47 (by decide +kernel) ?_
      refine j_iaddN C dX1_load_48 ?_
      refine j_iconst (v := nI 4) C dX1_load_49 (by decide +kernel) ?_
      refine j_icmp_geN (tgt := 70) C dX1_load_50 (by decide) (by omega) (by omega) (fun q13 => ?_) (fun q13 => ?_)
      · have hA14 : fX1_load_a4 ws out i1 z2 x4 x5 x6 = fX1_load_a2 out i1 z2 x6 := by have q13z := q13; (try dsimp only at q13z); unfold fX1_load_a4; (try dsimp only); rw [if_pos q13z]; (try rfl)
        refine j_aload_n C dX1_load_70 rfl rfl ?_
        refine j_iload_n C dX1_load_71 rfl rfl ?_
        refine j_lload C dX1_load_72 rfl ?_
        refine j_ldc2 C dX1_load_74 mw_4_8 ?_
        refine j_land C dX1_load_77 ?_
        refine x_last C dX1_load_78 hout (by omega) ?_
        refine j_nmS (fun t15 et15 => ?_)
        refine j_iincN (b := 1) C dX1_load_79 rfl (by decide +kernel) (by decide) ?_
        refine j_goto (tgt := 2) C dX1_load_82 (by decide) ?_
        refine j_nmS (fun t16 et16 => ?_)
        refine j_at [(1, .ref (zad (wX D kc ad n) ws)), (2, .ref (zad (wX D kc ad n) out)), (3, .int (nI (i1 + 1)))] ⟨rfl, rfl, rfl, trivial⟩ ?_
        have eF : (fX1_load_2 ws out) i1 z2 = t16 := by rw [hA12, hA14]; rw [et16]; (try rw [et15]); unfold fX1_load_a2; first | done | (dsimp only; done) | rfl
        exact Eq.mp (congrArg (fun (z17 : zSt) => zJ κ (wX D kc ad n) 2 (zlof [(1, .ref (zad (wX D kc ad n) ws)), (2, .ref (zad (wX D kc ad n) out)), (3, .int (nI (i1 + 1)))]) [] z17) eF) (k0 trivial)
      · have hA18 : fX1_load_a4 ws out i1 z2 x4 x5 x6 = fX1_load_a3 ws out i1 z2 x4 x5 x6 := by have q13z : ¬ (4 ≤ x4 + 1) := (by omega); (try dsimp only at q13z); unfold fX1_load_a4; (try dsimp only); rw [if_neg q13z]; (try rfl)
        refine j_lload C dX1_load_53 rfl ?_
        refine j_aload_n C dX1_load_55 rfl rfl ?_
        refine j_iload C dX1_load_56 rfl ?_
        refine j_iconst (v := nI 1) C dX1_load_58 (by decide +kernel) ?_
        refine j_iaddN C dX1_load_59 ?_
        refine x_lald C dX1_load_60 hws (by omega) ?_
        refine j_bipush (v := nI 64) C dX1_load_61 (by decide +kernel) ?_
        refine j_iload C dX1_load_63 rfl ?_
        refine j_isubN C dX1_load_65 (by omega) ?_
        refine j_lshl C dX1_load_66 (by omega) ?_
        refine j_lor C dX1_load_67 ?_
        refine j_nmL (fun x19 ex19 => ?_)
        refine j_lstore C dX1_load_68 (by decide) ?_
        refine j_aload_n C dX1_load_70 rfl rfl ?_
        refine j_iload_n C dX1_load_71 rfl rfl ?_
        refine j_lload C dX1_load_72 rfl ?_
        refine j_ldc2 C dX1_load_74 mw_4_8 ?_
        refine j_land C dX1_load_77 ?_
        refine x_last C dX1_load_78 hout (by omega) ?_
        refine j_nmS (fun t20 et20 => ?_)
        refine j_iincN (b := 1) C dX1_load_79 rfl (by decide +kernel) (by decide) ?_
        refine j_goto (tgt := 2) C dX1_load_82 (by decide) ?_
        refine j_nmS (fun t21 et21 => ?_)
        refine j_at [(1, .ref (zad (wX D kc ad n) ws)), (2, .ref (zad (wX D kc ad n) out)), (3, .int (nI (i1 + 1)))] ⟨rfl, rfl, rfl, trivial⟩ ?_
        have eF : (fX1_load_2 ws out) i1 z2 = t21 := by rw [hA12, hA18]; rw [et21]; (try rw [et20]); (try rw [ex19]); unfold fX1_load_a3; first | done | (dsimp only; done) | rfl
        exact Eq.mp (congrArg (fun (z22 : zSt) => zJ κ (wX D kc ad n) 2 (zlof [(1, .ref (zad (wX D kc ad n) ws)), (2, .ref (zad (wX D kc ad n) out)), (3, .int (nI (i1 + 1)))]) [] z22) eF) (k0 trivial)
  · intro hIi1
    refine z_nm (P := fun (z2 : zSt) => zJ κ (wX D kc ad n) 2 (zlof [(1, .ref (zad (wX D kc ad n) ws)), (2, .ref (zad (wX D kc ad n) out)), (3, .int (nI (10)))]) [] z2) (fun u23 eu23 => ?_)
    refine j_iload_n C dX1_load_2 rfl rfl ?_
    refine j_bipush (v := nI 10) C dX1_load_3 (by decide +kernel) ?_
    refine j_icmp_geN (tgt := 85) C dX1_load_5 (by decide) (by omega) (by omega) (fun q24 => ?_) (fun q24 => False.elim (by omega))
    refine j_aload_n C dX1_load_85 rfl rfl ?_
    refine j_bipush (v := nI 9) C dX1_load_86 (by decide +kernel) ?_
    refine j_dup2 C dX1_load_88 rfl rfl ?_
    refine x_lald C dX1_load_89 hout.1 (by omega) ?_
    refine j_ldc2 C dX1_load_90 mw_4_9 ?_
    refine j_land C dX1_load_93 ?_
    refine x_last C dX1_load_94 hout (by omega) ?_
    refine j_nmS (fun t25 et25 => ?_)
    exact j_vret (st := []) C R0 dX1_load_95 ⟨rfl, (by (try rw [et25]); (try rw [eu23]); unfold fX1_load; (try dsimp only); all_goals ((try simp only [zfst_mk, zsnd_mk]); all_goals rfl))⟩
theorem k2_fX1_load_a1 (out : Nat) (i1 : Nat) (z2 : zSt) (x6 : Int64) : zk2 (fX1_load_a1 out i1 z2 x6) = zk2 z2 := by
  unfold fX1_load_a1
  (try dsimp only)
  all_goals (simp only [zW_2, zL_2]; done)
theorem k2_fX1_load_a2 (out : Nat) (i1 : Nat) (z2 : zSt) (x6 : Int64) : zk2 (fX1_load_a2 out i1 z2 x6) = zk2 z2 := by
  unfold fX1_load_a2
  (try dsimp only)
  all_goals (simp only [zW_2, zL_2]; done)
theorem k2_fX1_load_a3 (ws : Nat) (out : Nat) (i1 : Nat) (z2 : zSt) (x4 : Nat) (x5 : Nat) (x6 : Int64) : zk2 (fX1_load_a3 ws out i1 z2 x4 x5 x6) = zk2 z2 := by
  unfold fX1_load_a3
  (try dsimp only)
  all_goals (simp only [zW_2, zL_2]; done)
theorem k2_fX1_load_a4 (ws : Nat) (out : Nat) (i1 : Nat) (z2 : zSt) (x4 : Nat) (x5 : Nat) (x6 : Int64) : zk2 (fX1_load_a4 ws out i1 z2 x4 x5 x6) = zk2 z2 := by
  unfold fX1_load_a4
  (try dsimp only)
  all_goals (refine ite_keep (fun r : zSt => zk2 r) _ _ ?_ ?_ <;> (simp only [zW_2, zL_2, k2_fX1_load_a2, k2_fX1_load_a3]; done))
theorem k2_fX1_load_2 (ws : Nat) (out : Nat) (i1 : Nat) (z2 : zSt) : zk2 (fX1_load_2 ws out i1 z2) = zk2 z2 := by
  unfold fX1_load_2
  (try dsimp only)
  all_goals (refine ite_keep (fun r : zSt => zk2 r) _ _ ?_ ?_ <;> (simp only [zW_2, zL_2, k2_fX1_load_a1, k2_fX1_load_a4]; done))
theorem k2it_fX1_load_2 (ws : Nat) (out : Nat) (nn ii : Nat) (xx : zSt) : zk2 (ziter (fX1_load_2 ws out) ii nn xx) = zk2 xx := ziter_keep (fun x => zk2 x) _ (k2_fX1_load_2 ws out) nn ii xx
theorem k2_fX1_load (ws : Nat) (out : Nat) (s0 : zSt) : zk2 (fX1_load ws out s0) = zk2 s0 := by
  unfold fX1_load
  (try dsimp only)
  all_goals (simp only [zW_2, zL_2, k2_fX1_load_2, k2it_fX1_load_2]; done)
theorem i2_fX1_load (ws : Nat) (out : Nat) (s0 : zSt) (kk9 : Nat) : (fX1_load ws out s0).2.2 kk9 = s0.2.2 kk9 := z2_I (k2_fX1_load ws out s0) kk9
theorem i3_fX1_load (ws : Nat) (out : Nat) (s0 : zSt) (kk9 : Nat) : zi (fX1_load ws out s0) kk9 = zi s0 kk9 := zi_of (k2_fX1_load ws out s0) kk9

def fX1_move (a : Nat) (b : Nat) (s0 : zSt) : zSt :=
    let t1 := zL s0 b (va_cpy (s0.1 a) (s0.1 b) 0 0 10)
    t1
set_option maxHeartbeats 4000000 in
set_option maxRecDepth 100000 in
theorem k_X1_move (l : Launch) (D : va_G) (kc : Nat → ClassId) (ad : Nat → Nat) (n : Nat) (hn : 63 ≤ n) (a : Nat) (ha : ra n 10 a) (b : Nat) (hb : wa n 10 b) (s0 : zSt) : zM l yX1_move cX1_move 3 none rX1_move (wX D kc ad n) [.ref (zad (wX D kc ad n) 62), .ref (zad (wX D kc ad n) a), .ref (zad (wX D kc ad n) b)] s0 (zV0 (fX1_move a b s0)) := by
  refine z_of (own := RX1) (by decide +kernel) rfl (Nat.le_of_ble_eq_true rfl) ?_
  intro κ C R0
  refine j_at [(0, .ref (zad (wX D kc ad n) 62)), (1, .ref (zad (wX D kc ad n) a)), (2, .ref (zad (wX D kc ad n) b))] ⟨rfl, rfl, rfl, trivial⟩ ?_
  refine j_aload_n C dX1_move_0 rfl rfl ?_
  refine j_iconst (v := nI 0) C dX1_move_1 (by decide +kernel) ?_
  refine j_aload_n C dX1_move_2 rfl rfl ?_
  refine j_iconst (v := nI 0) C dX1_move_3 (by decide +kernel) ?_
  refine j_bipush (v := nI 10) C dX1_move_4 (by decide +kernel) ?_
  refine x_copyl C dX1_move_6 mw_19_7 ha hb (by omega) (by omega) ⟨Nat.le_of_ble_eq_true rfl, Nat.le_of_ble_eq_true rfl⟩ ?_
  refine j_nmS (fun t1 et1 => ?_)
  exact j_vret (st := []) C R0 dX1_move_9 ⟨rfl, (by (try rw [et1]); unfold fX1_move; (try dsimp only); all_goals ((try simp only [zfst_mk, zsnd_mk]); all_goals rfl))⟩
theorem k2_fX1_move (a : Nat) (b : Nat) (s0 : zSt) : zk2 (fX1_move a b s0) = zk2 s0 := by
  unfold fX1_move
  (try dsimp only)
  all_goals (simp only [zW_2, zL_2]; done)
theorem i2_fX1_move (a : Nat) (b : Nat) (s0 : zSt) (kk9 : Nat) : (fX1_move a b s0).2.2 kk9 = s0.2.2 kk9 := z2_I (k2_fX1_move a b s0) kk9
theorem i3_fX1_move (a : Nat) (b : Nat) (s0 : zSt) (kk9 : Nat) : zi (fX1_move a b s0) kk9 = zi s0 kk9 := zi_of (k2_fX1_move a b s0) kk9

def fX1_become (a : Nat) (v : Int64) (s0 : zSt) : zSt :=
    let t1 := fJ7_fill_d0a16 a 10 ((0 : Int64)) s0
    let t2 := zW t1 a 0 v
    t2
set_option maxHeartbeats 4000000 in
set_option maxRecDepth 100000 in
theorem k_X1_become (l : Launch) (D : va_G) (kc : Nat → ClassId) (ad : Nat → Nat) (n : Nat) (hn : 63 ≤ n) (a : Nat) (ha : wa n 10 a) (v : Int64) (s0 : zSt) : zM l yX1_become cX1_become 4 none rX1_become (wX D kc ad n) [.ref (zad (wX D kc ad n) 62), .ref (zad (wX D kc ad n) a), .long v] s0 (zV0 (fX1_become a v s0)) := by
  refine z_of (own := RX1) (by decide +kernel) rfl (Nat.le_of_ble_eq_true rfl) ?_
  intro κ C R0
  refine j_at [(0, .ref (zad (wX D kc ad n) 62)), (1, .ref (zad (wX D kc ad n) a)), (2, .long v)] ⟨rfl, rfl, rfl, trivial⟩ ?_
  refine j_aload_n C dX1_become_0 rfl rfl ?_
  refine j_lconst (v := 0) C dX1_become_1 rfl ?_
  refine j_callS0 C dX1_become_2 (k_J7_fill_d0a16 l D kc ad n (by omega) a 10 ha ((0 : Int64)) _ (by omega)) zy_J7_fill_d0a16 mw_6_3 rfl rfl (Nat.le_of_ble_eq_true rfl) ⟨rfl, rfl, Nat.le_of_ble_eq_true rfl, Nat.le_of_ble_eq_true rfl⟩ ?_
  refine j_nmS (fun t1 et1 => ?_)
  refine j_aload_n C dX1_become_5 rfl rfl ?_
  refine j_iconst (v := nI 0) C dX1_become_6 (by decide +kernel) ?_
  refine j_lload_n C dX1_become_7 rfl rfl ?_
  refine x_last C dX1_become_8 ha (by omega) ?_
  refine j_nmS (fun t2 et2 => ?_)
  exact j_vret (st := []) C R0 dX1_become_9 ⟨rfl, (by (try rw [et2]); (try rw [et1]); unfold fX1_become; (try dsimp only); all_goals ((try simp only [zfst_mk, zsnd_mk]); all_goals rfl))⟩
theorem k2_fX1_become (a : Nat) (v : Int64) (s0 : zSt) : zk2 (fX1_become a v s0) = zk2 s0 := by
  unfold fX1_become
  (try dsimp only)
  all_goals (simp only [zW_2, zL_2, k2_fJ7_fill_d0a16]; done)
theorem i2_fX1_become (a : Nat) (v : Int64) (s0 : zSt) (kk9 : Nat) : (fX1_become a v s0).2.2 kk9 = s0.2.2 kk9 := z2_I (k2_fX1_become a v s0) kk9
theorem i3_fX1_become (a : Nat) (v : Int64) (s0 : zSt) (kk9 : Nat) : zi (fX1_become a v s0) kk9 = zi s0 kk9 := zi_of (k2_fX1_become a v s0) kk9

def fX1_add_3 (a : Nat) (b : Nat) (out : Nat) (i1 : Nat) (z2 : zSt) : zSt :=
    let t4 := zW z2 out i1 ((z2.1 a i1) + (z2.1 b i1))
    t4
def fX1_add (a : Nat) (b : Nat) (out : Nat) (s0 : zSt) : zSt :=
    let u7 := ziter (fX1_add_3 a b out) 0 10 s0
    u7
set_option maxHeartbeats 4000000 in
set_option maxRecDepth 100000 in
theorem k_X1_add (l : Launch) (D : va_G) (kc : Nat → ClassId) (ad : Nat → Nat) (n : Nat) (hn : 63 ≤ n) (a : Nat) (ha : ra n 10 a) (b : Nat) (hb : ra n 10 b) (out : Nat) (hout : wa n 10 out) (s0 : zSt) : zM l yX1_add cX1_add 5 none rX1_add (wX D kc ad n) [.ref (zad (wX D kc ad n) 62), .ref (zad (wX D kc ad n) a), .ref (zad (wX D kc ad n) b), .ref (zad (wX D kc ad n) out)] s0 (zV0 (fX1_add a b out s0)) := by
  refine z_of (own := RX1) (by decide +kernel) rfl (Nat.le_of_ble_eq_true rfl) ?_
  intro κ C R0
  refine j_at [(0, .ref (zad (wX D kc ad n) 62)), (1, .ref (zad (wX D kc ad n) a)), (2, .ref (zad (wX D kc ad n) b)), (3, .ref (zad (wX D kc ad n) out))] ⟨rfl, rfl, rfl, rfl, trivial⟩ ?_
  refine j_iconst (v := nI 0) C dX1_add_0 (by decide +kernel) ?_
  refine j_istore C dX1_add_1 (by decide) ?_
  refine j_at [(1, .ref (zad (wX D kc ad n) a)), (2, .ref (zad (wX D kc ad n) b)), (3, .ref (zad (wX D kc ad n) out)), (4, .int (nI (0)))] ⟨rfl, rfl, rfl, rfl, trivial⟩ ?_
  refine z_up (α := zSt) (fun (i1 : Nat) (z2 : zSt) => zJ κ (wX D kc ad n) 3 (zlof [(1, .ref (zad (wX D kc ad n) a)), (2, .ref (zad (wX D kc ad n) b)), (3, .ref (zad (wX D kc ad n) out)), (4, .int (nI (i1)))]) [] z2) (fX1_add_3 a b out) (fun _ _ => True) 10 ?_ (fun _ _ _ _ => trivial) 10 0 s0 (by omega) trivial ?_
  · intro i1 z2 hi1 hIi1 k0
    refine j_iload C dX1_add_3 rfl ?_
    refine j_bipush (v := nI 10) C dX1_add_5 (by decide +kernel) ?_
    refine j_icmp_geN (tgt := 29) C dX1_add_7 (by decide) (by omega) (by omega) (fun q3 => False.elim (by omega)) (fun q3 => ?_)
    refine j_aload_n C dX1_add_10 rfl rfl ?_
    refine j_iload C dX1_add_11 rfl ?_
    refine j_aload_n C dX1_add_13 rfl rfl ?_
    refine j_iload C dX1_add_14 rfl ?_
    refine x_lald C dX1_add_16 ha (by omega) ?_
    refine j_aload_n C dX1_add_17 rfl rfl ?_
    refine j_iload C dX1_add_18 rfl ?_
    refine x_lald C dX1_add_20 hb (by omega) ?_
    refine j_ladd C dX1_add_21 ?_
    refine x_last C dX1_add_22 hout (by omega) ?_
    refine j_nmS (fun t4 et4 => ?_)
    refine j_iincN (b := 1) C dX1_add_23 rfl (by decide +kernel) (by decide) ?_
    refine j_goto (tgt := 3) C dX1_add_26 (by decide) ?_
    refine j_nmS (fun t5 et5 => ?_)
    refine j_at [(1, .ref (zad (wX D kc ad n) a)), (2, .ref (zad (wX D kc ad n) b)), (3, .ref (zad (wX D kc ad n) out)), (4, .int (nI (i1 + 1)))] ⟨rfl, rfl, rfl, rfl, trivial⟩ ?_
    have eF : (fX1_add_3 a b out) i1 z2 = t5 := by rw [et5]; (try rw [et4]); unfold fX1_add_3; first | done | (dsimp only; done) | rfl
    exact Eq.mp (congrArg (fun (z6 : zSt) => zJ κ (wX D kc ad n) 3 (zlof [(1, .ref (zad (wX D kc ad n) a)), (2, .ref (zad (wX D kc ad n) b)), (3, .ref (zad (wX D kc ad n) out)), (4, .int (nI (i1 + 1)))]) [] z6) eF) (k0 trivial)
  · intro hIi1
    refine z_nm (P := fun (z2 : zSt) => zJ κ (wX D kc ad n) 3 (zlof [(1, .ref (zad (wX D kc ad n) a)), (2, .ref (zad (wX D kc ad n) b)), (3, .ref (zad (wX D kc ad n) out)), (4, .int (nI (10)))]) [] z2) (fun u7 eu7 => ?_)
    refine j_iload C dX1_add_3 rfl ?_
    refine j_bipush (v := nI 10) C dX1_add_5 (by decide +kernel) ?_
    refine j_icmp_geN (tgt := 29) C dX1_add_7 (by decide) (by omega) (by omega) (fun q8 => ?_) (fun q8 => False.elim (by omega))
    exact j_vret (st := []) C R0 dX1_add_29 ⟨rfl, (by (try rw [eu7]); unfold fX1_add; (try dsimp only); all_goals ((try simp only [zfst_mk, zsnd_mk]); all_goals rfl))⟩
theorem k2_fX1_add_3 (a : Nat) (b : Nat) (out : Nat) (i1 : Nat) (z2 : zSt) : zk2 (fX1_add_3 a b out i1 z2) = zk2 z2 := by
  unfold fX1_add_3
  (try dsimp only)
  all_goals (simp only [zW_2, zL_2]; done)
theorem k2it_fX1_add_3 (a : Nat) (b : Nat) (out : Nat) (nn ii : Nat) (xx : zSt) : zk2 (ziter (fX1_add_3 a b out) ii nn xx) = zk2 xx := ziter_keep (fun x => zk2 x) _ (k2_fX1_add_3 a b out) nn ii xx
theorem k2_fX1_add (a : Nat) (b : Nat) (out : Nat) (s0 : zSt) : zk2 (fX1_add a b out s0) = zk2 s0 := by
  unfold fX1_add
  (try dsimp only)
  all_goals (simp only [zW_2, zL_2, k2_fX1_add_3, k2it_fX1_add_3]; done)
theorem i2_fX1_add (a : Nat) (b : Nat) (out : Nat) (s0 : zSt) (kk9 : Nat) : (fX1_add a b out s0).2.2 kk9 = s0.2.2 kk9 := z2_I (k2_fX1_add a b out s0) kk9
theorem i3_fX1_add (a : Nat) (b : Nat) (out : Nat) (s0 : zSt) (kk9 : Nat) : zi (fX1_add a b out s0) kk9 = zi s0 kk9 := zi_of (k2_fX1_add a b out s0) kk9

def fX1_subtract_3 (a : Nat) (b : Nat) (out : Nat) (i1 : Nat) (z2 : zSt) : zSt :=
    let t4 := zW z2 out i1 ((z2.1 a i1) - (z2.1 b i1))
    t4
def fX1_subtract (a : Nat) (b : Nat) (out : Nat) (s0 : zSt) : zSt :=
    let u7 := ziter (fX1_subtract_3 a b out) 0 10 s0
    u7
set_option maxHeartbeats 4000000 in
set_option maxRecDepth 100000 in
theorem k_X1_subtract (l : Launch) (D : va_G) (kc : Nat → ClassId) (ad : Nat → Nat) (n : Nat) (hn : 63 ≤ n) (a : Nat) (ha : ra n 10 a) (b : Nat) (hb : ra n 10 b) (out : Nat) (hout : wa n 10 out) (s0 : zSt) : zM l yX1_subtract cX1_subtract 5 none rX1_subtract (wX D kc ad n) [.ref (zad (wX D kc ad n) 62), .ref (zad (wX D kc ad n) a), .ref (zad (wX D kc ad n) b), .ref (zad (wX D kc ad n) out)] s0 (zV0 (fX1_subtract a b out s0)) := by
  refine z_of (own := RX1) (by decide +kernel) rfl (Nat.le_of_ble_eq_true rfl) ?_
  intro κ C R0
  refine j_at [(0, .ref (zad (wX D kc ad n) 62)), (1, .ref (zad (wX D kc ad n) a)), (2, .ref (zad (wX D kc ad n) b)), (3, .ref (zad (wX D kc ad n) out))] ⟨rfl, rfl, rfl, rfl, trivial⟩ ?_
  refine j_iconst (v := nI 0) C dX1_subtract_0 (by decide +kernel) ?_
  refine j_istore C dX1_subtract_1 (by decide) ?_
  refine j_at [(1, .ref (zad (wX D kc ad n) a)), (2, .ref (zad (wX D kc ad n) b)), (3, .ref (zad (wX D kc ad n) out)), (4, .int (nI (0)))] ⟨rfl, rfl, rfl, rfl, trivial⟩ ?_
  refine z_up (α := zSt) (fun (i1 : Nat) (z2 : zSt) => zJ κ (wX D kc ad n) 3 (zlof [(1, .ref (zad (wX D kc ad n) a)), (2, .ref (zad (wX D kc ad n) b)), (3, .ref (zad (wX D kc ad n) out)), (4, .int (nI (i1)))]) [] z2) (fX1_subtract_3 a b out) (fun _ _ => True) 10 ?_ (fun _ _ _ _ => trivial) 10 0 s0 (by omega) trivial ?_
  · intro i1 z2 hi1 hIi1 k0
    refine j_iload C dX1_subtract_3 rfl ?_
    refine j_bipush (v := nI 10) C dX1_subtract_5 (by decide +kernel) ?_
    refine j_icmp_geN (tgt := 29) C dX1_subtract_7 (by decide) (by omega) (by omega) (fun q3 => False.elim (by omega)) (fun q3 => ?_)
    refine j_aload_n C dX1_subtract_10 rfl rfl ?_
    refine j_iload C dX1_subtract_11 rfl ?_
    refine j_aload_n C dX1_subtract_13 rfl rfl ?_
    refine j_iload C dX1_subtract_14 rfl ?_
    refine x_lald C dX1_subtract_16 ha (by omega) ?_
    refine j_aload_n C dX1_subtract_17 rfl rfl ?_
    refine j_iload C dX1_subtract_18 rfl ?_
    refine x_lald C dX1_subtract_20 hb (by omega) ?_
    refine j_lsub C dX1_subtract_21 ?_
    refine x_last C dX1_subtract_22 hout (by omega) ?_
    refine j_nmS (fun t4 et4 => ?_)
    refine j_iincN (b := 1) C dX1_subtract_23 rfl (by decide +kernel) (by decide) ?_
    refine j_goto (tgt := 3) C dX1_subtract_26 (by decide) ?_
    refine j_nmS (fun t5 et5 => ?_)
    refine j_at [(1, .ref (zad (wX D kc ad n) a)), (2, .ref (zad (wX D kc ad n) b)), (3, .ref (zad (wX D kc ad n) out)), (4, .int (nI (i1 + 1)))] ⟨rfl, rfl, rfl, rfl, trivial⟩ ?_
    have eF : (fX1_subtract_3 a b out) i1 z2 = t5 := by rw [et5]; (try rw [et4]); unfold fX1_subtract_3; first | done | (dsimp only; done) | rfl
    exact Eq.mp (congrArg (fun (z6 : zSt) => zJ κ (wX D kc ad n) 3 (zlof [(1, .ref (zad (wX D kc ad n) a)), (2, .ref (zad (wX D kc ad n) b)), (3, .ref (zad (wX D kc ad n) out)), (4, .int (nI (i1 + 1)))]) [] z6) eF) (k0 trivial)
  · intro hIi1
    refine z_nm (P := fun (z2 : zSt) => zJ κ (wX D kc ad n) 3 (zlof [(1, .ref (zad (wX D kc ad n) a)), (2, .ref (zad (wX D kc ad n) b)), (3, .ref (zad (wX D kc ad n) out)), (4, .int (nI (10)))]) [] z2) (fun u7 eu7 => ?_)
    refine j_iload C dX1_subtract_3 rfl ?_
    refine j_bipush (v := nI 10) C dX1_subtract_5 (by decide +kernel) ?_
    refine j_icmp_geN (tgt := 29) C dX1_subtract_7 (by decide) (by omega) (by omega) (fun q8 => ?_) (fun q8 => False.elim (by omega))
    exact j_vret (st := []) C R0 dX1_subtract_29 ⟨rfl, (by (try rw [eu7]); unfold fX1_subtract; (try dsimp only); all_goals ((try simp only [zfst_mk, zsnd_mk]); all_goals rfl))⟩
theorem k2_fX1_subtract_3 (a : Nat) (b : Nat) (out : Nat) (i1 : Nat) (z2 : zSt) : zk2 (fX1_subtract_3 a b out i1 z2) = zk2 z2 := by
  unfold fX1_subtract_3
  (try dsimp only)
  all_goals (simp only [zW_2, zL_2]; done)
theorem k2it_fX1_subtract_3 (a : Nat) (b : Nat) (out : Nat) (nn ii : Nat) (xx : zSt) : zk2 (ziter (fX1_subtract_3 a b out) ii nn xx) = zk2 xx := ziter_keep (fun x => zk2 x) _ (k2_fX1_subtract_3 a b out) nn ii xx
theorem k2_fX1_subtract (a : Nat) (b : Nat) (out : Nat) (s0 : zSt) : zk2 (fX1_subtract a b out s0) = zk2 s0 := by
  unfold fX1_subtract
  (try dsimp only)
  all_goals (simp only [zW_2, zL_2, k2_fX1_subtract_3, k2it_fX1_subtract_3]; done)
theorem i2_fX1_subtract (a : Nat) (b : Nat) (out : Nat) (s0 : zSt) (kk9 : Nat) : (fX1_subtract a b out s0).2.2 kk9 = s0.2.2 kk9 := z2_I (k2_fX1_subtract a b out s0) kk9
theorem i3_fX1_subtract (a : Nat) (b : Nat) (out : Nat) (s0 : zSt) (kk9 : Nat) : zi (fX1_subtract a b out s0) kk9 = zi s0 kk9 := zi_of (k2_fX1_subtract a b out s0) kk9

def fX1_negate (a : Nat) (out : Nat) (s0 : zSt) : zSt :=
    let t1 := fX1_subtract 38 a out s0
    t1
set_option maxHeartbeats 4000000 in
set_option maxRecDepth 100000 in
theorem k_X1_negate (l : Launch) (D : va_G) (kc : Nat → ClassId) (ad : Nat → Nat) (n : Nat) (hn : 63 ≤ n) (a : Nat) (ha : ra n 10 a) (out : Nat) (hout : wa n 10 out) (s0 : zSt) : zM l yX1_negate cX1_negate 3 none rX1_negate (wX D kc ad n) [.ref (zad (wX D kc ad n) 62), .ref (zad (wX D kc ad n) a), .ref (zad (wX D kc ad n) out)] s0 (zV0 (fX1_negate a out s0)) := by
  refine z_of (own := RX1) (by decide +kernel) rfl (Nat.le_of_ble_eq_true rfl) ?_
  intro κ C R0
  refine j_at [(0, .ref (zad (wX D kc ad n) 62)), (1, .ref (zad (wX D kc ad n) a)), (2, .ref (zad (wX D kc ad n) out))] ⟨rfl, rfl, rfl, trivial⟩ ?_
  refine j_aload_n C dX1_negate_0 rfl rfl ?_
  refine j_aload_n C dX1_negate_1 rfl rfl ?_
  refine j_getR C dX1_negate_2 (fx_RX1_9 D kc ad n) (show 11 ≤ 62 by decide) (show 62 < n by omega) ?_
  refine j_aload_n C dX1_negate_5 rfl rfl ?_
  refine j_aload_n C dX1_negate_6 rfl rfl ?_
  refine j_callV0 (T := TX1) (N := 8) C dX1_negate_7 (k_X1_subtract l D kc ad n (by omega) 38 (⟨⟨rfl, rfl, by omega, by decide⟩, by decide⟩ : wa n 10 38).1 a ha out hout _ ) zy_X1_subtract mw_22_6 rfl rfl (show 11 ≤ 62 by decide) (show 62 < n by omega) rfl rfl (Nat.le_of_ble_eq_true rfl) ⟨rfl, rfl, Nat.le_of_ble_eq_true rfl, Nat.le_of_ble_eq_true rfl⟩ ?_
  refine j_nmS (fun t1 et1 => ?_)
  exact j_vret (st := []) C R0 dX1_negate_10 ⟨rfl, (by (try rw [et1]); unfold fX1_negate; (try dsimp only); all_goals ((try simp only [zfst_mk, zsnd_mk]); all_goals rfl))⟩
theorem k2_fX1_negate (a : Nat) (out : Nat) (s0 : zSt) : zk2 (fX1_negate a out s0) = zk2 s0 := by
  unfold fX1_negate
  (try dsimp only)
  all_goals (simp only [zW_2, zL_2, k2_fX1_subtract]; done)
theorem i2_fX1_negate (a : Nat) (out : Nat) (s0 : zSt) (kk9 : Nat) : (fX1_negate a out s0).2.2 kk9 = s0.2.2 kk9 := z2_I (k2_fX1_negate a out s0) kk9
theorem i3_fX1_negate (a : Nat) (out : Nat) (s0 : zSt) (kk9 : Nat) : zi (fX1_negate a out s0) kk9 = zi s0 kk9 := zi_of (k2_fX1_negate a out s0) kk9

def fX1_carry_2 (a : Nat) (i1 : Nat) (z2 : zSt) : zSt :=
    let t4 := zW z2 a (i1 + 1) ((z2.1 a (i1 + 1)) + (zsr (z2.1 a i1) 26))
    let t5 := zW t4 a i1 ((t4.1 a i1) &&& ((67108863 : Int64)))
    t5
def fX1_carry (a : Nat) (s0 : zSt) : zSt :=
    let u8 := ziter (fX1_carry_2 a) 0 9 s0
    let x10 := zsr (u8.1 a 9) 21
    let t11 := zW u8 a 9 ((u8.1 a 9) &&& ((2097151 : Int64)))
    let t12 := zW t11 a 0 ((t11.1 a 0) + (((19 : Int64)) * x10))
    t12
set_option maxHeartbeats 4000000 in
set_option maxRecDepth 100000 in
theorem k_X1_carry (l : Launch) (D : va_G) (kc : Nat → ClassId) (ad : Nat → Nat) (n : Nat) (hn : 63 ≤ n) (a : Nat) (ha : wa n 10 a) (s0 : zSt) : zM l yX1_carry cX1_carry 4 none rX1_carry (wX D kc ad n) [.ref (zad (wX D kc ad n) 62), .ref (zad (wX D kc ad n) a)] s0 (zV0 (fX1_carry a s0)) := by
  refine z_of (own := RX1) (by decide +kernel) rfl (Nat.le_of_ble_eq_true rfl) ?_
  intro κ C R0
  refine j_at [(0, .ref (zad (wX D kc ad n) 62)), (1, .ref (zad (wX D kc ad n) a))] ⟨rfl, rfl, trivial⟩ ?_
  refine j_iconst (v := nI 0) C dX1_carry_0 (by decide +kernel) ?_
  refine j_istore_n C dX1_carry_1 rfl (by decide) ?_
  refine j_at [(1, .ref (zad (wX D kc ad n) a)), (2, .int (nI (0)))] ⟨rfl, rfl, trivial⟩ ?_
  refine z_up (α := zSt) (fun (i1 : Nat) (z2 : zSt) => zJ κ (wX D kc ad n) 2 (zlof [(1, .ref (zad (wX D kc ad n) a)), (2, .int (nI (i1)))]) [] z2) (fX1_carry_2 a) (fun _ _ => True) 9 ?_ (fun _ _ _ _ => trivial) 9 0 s0 (by omega) trivial ?_
  · intro i1 z2 hi1 hIi1 k0
    refine j_iload_n C dX1_carry_2 rfl rfl ?_
    refine j_bipush (v := nI 9) C dX1_carry_3 (by decide +kernel) ?_
    refine j_icmp_geN (tgt := 37) C dX1_carry_5 (by decide) (by omega) (by omega) (fun q3 => False.elim (by omega)) (fun q3 => ?_)
    refine j_aload_n C dX1_carry_8 rfl rfl ?_
    refine j_iload_n C dX1_carry_9 rfl rfl ?_
    refine j_iconst (v := nI 1) C dX1_carry_10 (by decide +kernel) ?_
    refine j_iaddN C dX1_carry_11 ?_
    refine j_dup2 C dX1_carry_12 rfl rfl ?_
    refine x_lald C dX1_carry_13 ha.1 (by omega) ?_
    refine j_aload_n C dX1_carry_14 rfl rfl ?_
    refine j_iload_n C dX1_carry_15 rfl rfl ?_
    refine x_lald C dX1_carry_16 ha.1 (by omega) ?_
    refine j_bipush (v := nI 26) C dX1_carry_17 (by decide +kernel) ?_
    refine j_lshr C dX1_carry_19 (by omega) ?_
    refine j_ladd C dX1_carry_20 ?_
    refine x_last C dX1_carry_21 ha (by omega) ?_
    refine j_nmS (fun t4 et4 => ?_)
    refine j_aload_n C dX1_carry_22 rfl rfl ?_
    refine j_iload_n C dX1_carry_23 rfl rfl ?_
    refine j_dup2 C dX1_carry_24 rfl rfl ?_
    refine x_lald C dX1_carry_25 ha.1 (by omega) ?_
    refine j_ldc2 C dX1_carry_26 mw_4_8 ?_
    refine j_land C dX1_carry_29 ?_
    refine x_last C dX1_carry_30 ha (by omega) ?_
    refine j_nmS (fun t5 et5 => ?_)
    refine j_iincN (b := 1) C dX1_carry_31 rfl (by decide +kernel) (by decide) ?_
    refine j_goto (tgt := 2) C dX1_carry_34 (by decide) ?_
    refine j_nmS (fun t6 et6 => ?_)
    refine j_at [(1, .ref (zad (wX D kc ad n) a)), (2, .int (nI (i1 + 1)))] ⟨rfl, rfl, trivial⟩ ?_
    have eF : (fX1_carry_2 a) i1 z2 = t6 := by rw [et6]; (try rw [et5]); (try rw [et4]); unfold fX1_carry_2; first | done | (dsimp only; done) | rfl
    exact Eq.mp (congrArg (fun (z7 : zSt) => zJ κ (wX D kc ad n) 2 (zlof [(1, .ref (zad (wX D kc ad n) a)), (2, .int (nI (i1 + 1)))]) [] z7) eF) (k0 trivial)
  · intro hIi1
    refine z_nm (P := fun (z2 : zSt) => zJ κ (wX D kc ad n) 2 (zlof [(1, .ref (zad (wX D kc ad n) a)), (2, .int (nI (9)))]) [] z2) (fun u8 eu8 => ?_)
    refine j_iload_n C dX1_carry_2 rfl rfl ?_
    refine j_bipush (v := nI 9) C dX1_carry_3 (by decide +kernel) ?_
    refine j_icmp_geN (tgt := 37) C dX1_carry_5 (by decide) (by omega) (by omega) (fun q9 => ?_) (fun q9 => False.elim (by omega))
    refine j_aload_n C dX1_carry_37 rfl rfl ?_
    refine j_bipush (v := nI 9) C dX1_carry_38 (by decide +kernel) ?_
    refine x_lald C dX1_carry_40 ha.1 (by omega) ?_
    refine j_bipush (v := nI 21) C dX1_carry_41 (by decide +kernel) ?_
    refine j_lshr C dX1_carry_43 (by omega) ?_
    refine j_nmL (fun x10 ex10 => ?_)
    refine j_lstore_n C dX1_carry_44 rfl (by decide) ?_
    refine j_aload_n C dX1_carry_45 rfl rfl ?_
    refine j_bipush (v := nI 9) C dX1_carry_46 (by decide +kernel) ?_
    refine j_dup2 C dX1_carry_48 rfl rfl ?_
    refine x_lald C dX1_carry_49 ha.1 (by omega) ?_
    refine j_ldc2 C dX1_carry_50 mw_4_9 ?_
    refine j_land C dX1_carry_53 ?_
    refine x_last C dX1_carry_54 ha (by omega) ?_
    refine j_nmS (fun t11 et11 => ?_)
    refine j_aload_n C dX1_carry_55 rfl rfl ?_
    refine j_iconst (v := nI 0) C dX1_carry_56 (by decide +kernel) ?_
    refine j_dup2 C dX1_carry_57 rfl rfl ?_
    refine x_lald C dX1_carry_58 ha.1 (by omega) ?_
    refine j_ldc2 C dX1_carry_59 mw_7_7 ?_
    refine j_lload_n C dX1_carry_62 rfl rfl ?_
    refine j_lmul C dX1_carry_63 ?_
    refine j_ladd C dX1_carry_64 ?_
    refine x_last C dX1_carry_65 ha (by omega) ?_
    refine j_nmS (fun t12 et12 => ?_)
    exact j_vret (st := []) C R0 dX1_carry_66 ⟨rfl, (by (try rw [et12]); (try rw [et11]); (try rw [ex10]); (try rw [eu8]); unfold fX1_carry; (try dsimp only); all_goals ((try simp only [zfst_mk, zsnd_mk]); all_goals rfl))⟩
theorem k2_fX1_carry_2 (a : Nat) (i1 : Nat) (z2 : zSt) : zk2 (fX1_carry_2 a i1 z2) = zk2 z2 := by
  unfold fX1_carry_2
  (try dsimp only)
  all_goals (simp only [zW_2, zL_2]; done)
theorem k2it_fX1_carry_2 (a : Nat) (nn ii : Nat) (xx : zSt) : zk2 (ziter (fX1_carry_2 a) ii nn xx) = zk2 xx := ziter_keep (fun x => zk2 x) _ (k2_fX1_carry_2 a) nn ii xx
theorem k2_fX1_carry (a : Nat) (s0 : zSt) : zk2 (fX1_carry a s0) = zk2 s0 := by
  unfold fX1_carry
  (try dsimp only)
  all_goals (simp only [zW_2, zL_2, k2_fX1_carry_2, k2it_fX1_carry_2]; done)
theorem i2_fX1_carry (a : Nat) (s0 : zSt) (kk9 : Nat) : (fX1_carry a s0).2.2 kk9 = s0.2.2 kk9 := z2_I (k2_fX1_carry a s0) kk9
theorem i3_fX1_carry (a : Nat) (s0 : zSt) (kk9 : Nat) : zi (fX1_carry a s0) kk9 = zi s0 kk9 := zi_of (k2_fX1_carry a s0) kk9

def fX1_fold_2  (i1 : Nat) (z2 : zSt) : zSt :=
    let t4 := zW z2 40 (i1 + 1) ((z2.1 40 (i1 + 1)) + (zsr (z2.1 40 i1) 26))
    let t5 := zW t4 40 i1 ((t4.1 40 i1) &&& ((67108863 : Int64)))
    t5
def fX1_fold_48 (out : Nat) (i10 : Nat) (z11 : zSt) : zSt :=
    let t13 := zW z11 out i10 ((z11.1 40 i10) + (((608 : Int64)) * (z11.1 40 (i10 + 10))))
    t13
def fX1_fold (out : Nat) (s0 : zSt) : zSt :=
    let u8 := ziter fX1_fold_2 0 19 s0
    let u16 := ziter (fX1_fold_48 out) 0 10 u8
    u16
set_option maxHeartbeats 4000000 in
set_option maxRecDepth 100000 in
theorem k_X1_fold (l : Launch) (D : va_G) (kc : Nat → ClassId) (ad : Nat → Nat) (n : Nat) (hn : 63 ≤ n) (out : Nat) (hout : wa n 10 out) (s0 : zSt) : zM l yX1_fold cX1_fold 3 none rX1_fold (wX D kc ad n) [.ref (zad (wX D kc ad n) 62), .ref (zad (wX D kc ad n) out)] s0 (zV0 (fX1_fold out s0)) := by
  refine z_of (own := RX1) (by decide +kernel) rfl (Nat.le_of_ble_eq_true rfl) ?_
  intro κ C R0
  refine j_at [(0, .ref (zad (wX D kc ad n) 62)), (1, .ref (zad (wX D kc ad n) out))] ⟨rfl, rfl, trivial⟩ ?_
  refine j_iconst (v := nI 0) C dX1_fold_0 (by decide +kernel) ?_
  refine j_istore_n C dX1_fold_1 rfl (by decide) ?_
  refine j_at [(0, .ref (zad (wX D kc ad n) 62)), (1, .ref (zad (wX D kc ad n) out)), (2, .int (nI (0)))] ⟨rfl, rfl, rfl, trivial⟩ ?_
  refine z_up (α := zSt) (fun (i1 : Nat) (z2 : zSt) => zJ κ (wX D kc ad n) 2 (zlof [(0, .ref (zad (wX D kc ad n) 62)), (1, .ref (zad (wX D kc ad n) out)), (2, .int (nI (i1)))]) [] z2) fX1_fold_2 (fun _ _ => True) 19 ?_ (fun _ _ _ _ => trivial) 19 0 s0 (by omega) trivial ?_
  · intro i1 z2 hi1 hIi1 k0
    refine j_iload_n C dX1_fold_2 rfl rfl ?_
    refine j_bipush (v := nI 19) C dX1_fold_3 (by decide +kernel) ?_
    refine j_icmp_geN (tgt := 46) C dX1_fold_5 (by decide) (by omega) (by omega) (fun q3 => False.elim (by omega)) (fun q3 => ?_)
    refine j_aload_n C dX1_fold_8 rfl rfl ?_
    refine j_getR C dX1_fold_9 (fx_RX1_16 D kc ad n) (show 11 ≤ 62 by decide) (show 62 < n by omega) ?_
    refine j_iload_n C dX1_fold_12 rfl rfl ?_
    refine j_iconst (v := nI 1) C dX1_fold_13 (by decide +kernel) ?_
    refine j_iaddN C dX1_fold_14 ?_
    refine j_dup2 C dX1_fold_15 rfl rfl ?_
    refine x_lald C dX1_fold_16 (⟨⟨rfl, rfl, by omega, by decide⟩, by decide⟩ : wa n 20 40).1 (by omega) ?_
    refine j_aload_n C dX1_fold_17 rfl rfl ?_
    refine j_getR C dX1_fold_18 (fx_RX1_16 D kc ad n) (show 11 ≤ 62 by decide) (show 62 < n by omega) ?_
    refine j_iload_n C dX1_fold_21 rfl rfl ?_
    refine x_lald C dX1_fold_22 (⟨⟨rfl, rfl, by omega, by decide⟩, by decide⟩ : wa n 20 40).1 (by omega) ?_
    refine j_bipush (v := nI 26) C dX1_fold_23 (by decide +kernel) ?_
    refine j_lshr C dX1_fold_25 (by omega) ?_
    refine j_ladd C dX1_fold_26 ?_
    refine x_last C dX1_fold_27 (⟨⟨rfl, rfl, by omega, by decide⟩, by decide⟩ : wa n 20 40) (by omega) ?_
    refine j_nmS (fun t4 et4 => ?_)
    refine j_aload_n C dX1_fold_28 rfl rfl ?_
    refine j_getR C dX1_fold_29 (fx_RX1_16 D kc ad n) (show 11 ≤ 62 by decide) (show 62 < n by omega) ?_
    refine j_iload_n C dX1_fold_32 rfl rfl ?_
    refine j_dup2 C dX1_fold_33 rfl rfl ?_
    refine x_lald C dX1_fold_34 (⟨⟨rfl, rfl, by omega, by decide⟩, by decide⟩ : wa n 20 40).1 (by omega) ?_
    refine j_ldc2 C dX1_fold_35 mw_4_8 ?_
    refine j_land C dX1_fold_38 ?_
    refine x_last C dX1_fold_39 (⟨⟨rfl, rfl, by omega, by decide⟩, by decide⟩ : wa n 20 40) (by omega) ?_
    refine j_nmS (fun t5 et5 => ?_)
    refine j_iincN (b := 1) C dX1_fold_40 rfl (by decide +kernel) (by decide) ?_
    refine j_goto (tgt := 2) C dX1_fold_43 (by decide) ?_
    refine j_nmS (fun t6 et6 => ?_)
    refine j_at [(0, .ref (zad (wX D kc ad n) 62)), (1, .ref (zad (wX D kc ad n) out)), (2, .int (nI (i1 + 1)))] ⟨rfl, rfl, rfl, trivial⟩ ?_
    have eF : fX1_fold_2 i1 z2 = t6 := by rw [et6]; (try rw [et5]); (try rw [et4]); unfold fX1_fold_2; first | done | (dsimp only; done) | rfl
    exact Eq.mp (congrArg (fun (z7 : zSt) => zJ κ (wX D kc ad n) 2 (zlof [(0, .ref (zad (wX D kc ad n) 62)), (1, .ref (zad (wX D kc ad n) out)), (2, .int (nI (i1 + 1)))]) [] z7) eF) (k0 trivial)
  · intro hIi1
    refine z_nm (P := fun (z2 : zSt) => zJ κ (wX D kc ad n) 2 (zlof [(0, .ref (zad (wX D kc ad n) 62)), (1, .ref (zad (wX D kc ad n) out)), (2, .int (nI (19)))]) [] z2) (fun u8 eu8 => ?_)
    refine j_iload_n C dX1_fold_2 rfl rfl ?_
    refine j_bipush (v := nI 19) C dX1_fold_3 (by decide +kernel) ?_
    refine j_icmp_geN (tgt := 46) C dX1_fold_5 (by decide) (by omega) (by omega) (fun q9 => ?_) (fun q9 => False.elim (by omega))
    refine j_iconst (v := nI 0) C dX1_fold_46 (by decide +kernel) ?_
    refine j_istore_n C dX1_fold_47 rfl (by decide) ?_
    refine j_at [(0, .ref (zad (wX D kc ad n) 62)), (1, .ref (zad (wX D kc ad n) out)), (2, .int (nI (0)))] ⟨rfl, rfl, rfl, trivial⟩ ?_
    refine z_up (α := zSt) (fun (i10 : Nat) (z11 : zSt) => zJ κ (wX D kc ad n) 48 (zlof [(0, .ref (zad (wX D kc ad n) 62)), (1, .ref (zad (wX D kc ad n) out)), (2, .int (nI (i10)))]) [] z11) (fX1_fold_48 out) (fun _ _ => True) 10 ?_ (fun _ _ _ _ => trivial) 10 0 u8 (by omega) trivial ?_
    · intro i10 z11 hi10 hIi10 k0
      refine j_iload_n C dX1_fold_48 rfl rfl ?_
      refine j_bipush (v := nI 10) C dX1_fold_49 (by decide +kernel) ?_
      refine j_icmp_geN (tgt := 83) C dX1_fold_51 (by decide) (by omega) (by omega) (fun q12 => False.elim (by omega)) (fun q12 => ?_)
      refine j_aload_n C dX1_fold_54 rfl rfl ?_
      refine j_iload_n C dX1_fold_55 rfl rfl ?_
      refine j_aload_n C dX1_fold_56 rfl rfl ?_
      refine j_getR C dX1_fold_57 (fx_RX1_16 D kc ad n) (show 11 ≤ 62 by decide) (show 62 < n by omega) ?_
      refine j_iload_n C dX1_fold_60 rfl rfl ?_
      refine x_lald C dX1_fold_61 (⟨⟨rfl, rfl, by omega, by decide⟩, by decide⟩ : wa n 20 40).1 (by omega) ?_
      refine j_ldc2 C dX1_fold_62 mw_7_2 ?_
      refine j_aload_n C dX1_fold_65 rfl rfl ?_
      refine j_getR C dX1_fold_66 (fx_RX1_16 D kc ad n) (show 11 ≤ 62 by decide) (show 62 < n by omega) ?_
      refine j_iload_n C dX1_fold_69 rfl rfl ?_
      refine j_bipush (v := nI 10) C dX1_fold_70 (by decide +kernel) ?_
      refine j_iaddN C dX1_fold_72 ?_
      refine x_lald C dX1_fold_73 (⟨⟨rfl, rfl, by omega, by decide⟩, by decide⟩ : wa n 20 40).1 (by omega) ?_
      refine j_lmul C dX1_fold_74 ?_
      refine j_ladd C dX1_fold_75 ?_
      refine x_last C dX1_fold_76 hout (by omega) ?_
      refine j_nmS (fun t13 et13 => ?_)
      refine j_iincN (b := 1) C dX1_fold_77 rfl (by decide +kernel) (by decide) ?_
      refine j_goto (tgt := 48) C dX1_fold_80 (by decide) ?_
      refine j_nmS (fun t14 et14 => ?_)
      refine j_at [(0, .ref (zad (wX D kc ad n) 62)), (1, .ref (zad (wX D kc ad n) out)), (2, .int (nI (i10 + 1)))] ⟨rfl, rfl, rfl, trivial⟩ ?_
      have eF : (fX1_fold_48 out) i10 z11 = t14 := by rw [et14]; (try rw [et13]); unfold fX1_fold_48; first | done | (dsimp only; done) | rfl
      exact Eq.mp (congrArg (fun (z15 : zSt) => zJ κ (wX D kc ad n) 48 (zlof [(0, .ref (zad (wX D kc ad n) 62)), (1, .ref (zad (wX D kc ad n) out)), (2, .int (nI (i10 + 1)))]) [] z15) eF) (k0 trivial)
    · intro hIi10
      refine z_nm (P := fun (z11 : zSt) => zJ κ (wX D kc ad n) 48 (zlof [(0, .ref (zad (wX D kc ad n) 62)), (1, .ref (zad (wX D kc ad n) out)), (2, .int (nI (10)))]) [] z11) (fun u16 eu16 => ?_)
      refine j_iload_n C dX1_fold_48 rfl rfl ?_
      refine j_bipush (v := nI 10) C dX1_fold_49 (by decide +kernel) ?_
      refine j_icmp_geN (tgt := 83) C dX1_fold_51 (by decide) (by omega) (by omega) (fun q17 => ?_) (fun q17 => False.elim (by omega))
      exact j_vret (st := []) C R0 dX1_fold_83 ⟨rfl, (by (try rw [eu16]); (try rw [eu8]); unfold fX1_fold; (try dsimp only); all_goals ((try simp only [zfst_mk, zsnd_mk]); all_goals rfl))⟩
theorem k2_fX1_fold_2  (i1 : Nat) (z2 : zSt) : zk2 (fX1_fold_2  i1 z2) = zk2 z2 := by
  unfold fX1_fold_2
  (try dsimp only)
  all_goals (simp only [zW_2, zL_2]; done)
theorem k2it_fX1_fold_2  (nn ii : Nat) (xx : zSt) : zk2 (ziter (fX1_fold_2 ) ii nn xx) = zk2 xx := ziter_keep (fun x => zk2 x) _ (k2_fX1_fold_2 ) nn ii xx
theorem k2_fX1_fold_48 (out : Nat) (i10 : Nat) (z11 : zSt) : zk2 (fX1_fold_48 out i10 z11) = zk2 z11 := by
  unfold fX1_fold_48
  (try dsimp only)
  all_goals (simp only [zW_2, zL_2]; done)
theorem k2it_fX1_fold_48 (out : Nat) (nn ii : Nat) (xx : zSt) : zk2 (ziter (fX1_fold_48 out) ii nn xx) = zk2 xx := ziter_keep (fun x => zk2 x) _ (k2_fX1_fold_48 out) nn ii xx
theorem k2_fX1_fold (out : Nat) (s0 : zSt) : zk2 (fX1_fold out s0) = zk2 s0 := by
  unfold fX1_fold
  (try dsimp only)
  all_goals (simp only [zW_2, zL_2, k2_fX1_fold_2, k2_fX1_fold_48, k2it_fX1_fold_2, k2it_fX1_fold_48]; done)
theorem i2_fX1_fold (out : Nat) (s0 : zSt) (kk9 : Nat) : (fX1_fold out s0).2.2 kk9 = s0.2.2 kk9 := z2_I (k2_fX1_fold out s0) kk9
theorem i3_fX1_fold (out : Nat) (s0 : zSt) (kk9 : Nat) : zi (fX1_fold out s0) kk9 = zi s0 kk9 := zi_of (k2_fX1_fold out s0) kk9

def fX1_scale_3 (a : Nat) (v : Int64) (out : Nat) (i1 : Nat) (z2 : zSt) : zSt :=
    let t4 := zW z2 out i1 ((z2.1 a i1) * v)
    t4
def fX1_scale (a : Nat) (v : Int64) (out : Nat) (s0 : zSt) : zSt :=
    let u7 := ziter (fX1_scale_3 a v out) 0 10 s0
    let t9 := fX1_carry out u7
    t9
set_option maxHeartbeats 4000000 in
set_option maxRecDepth 100000 in
theorem k_X1_scale (l : Launch) (D : va_G) (kc : Nat → ClassId) (ad : Nat → Nat) (n : Nat) (hn : 63 ≤ n) (a : Nat) (ha : ra n 10 a) (v : Int64) (out : Nat) (hout : wa n 10 out) (s0 : zSt) : zM l yX1_scale cX1_scale 6 none rX1_scale (wX D kc ad n) [.ref (zad (wX D kc ad n) 62), .ref (zad (wX D kc ad n) a), .long v, .ref (zad (wX D kc ad n) out)] s0 (zV0 (fX1_scale a v out s0)) := by
  refine z_of (own := RX1) (by decide +kernel) rfl (Nat.le_of_ble_eq_true rfl) ?_
  intro κ C R0
  refine j_at [(0, .ref (zad (wX D kc ad n) 62)), (1, .ref (zad (wX D kc ad n) a)), (2, .long v), (4, .ref (zad (wX D kc ad n) out))] ⟨rfl, rfl, rfl, rfl, trivial⟩ ?_
  refine j_iconst (v := nI 0) C dX1_scale_0 (by decide +kernel) ?_
  refine j_istore C dX1_scale_1 (by decide) ?_
  refine j_at [(0, .ref (zad (wX D kc ad n) 62)), (1, .ref (zad (wX D kc ad n) a)), (2, .long v), (4, .ref (zad (wX D kc ad n) out)), (5, .int (nI (0)))] ⟨rfl, rfl, rfl, rfl, rfl, trivial⟩ ?_
  refine z_up (α := zSt) (fun (i1 : Nat) (z2 : zSt) => zJ κ (wX D kc ad n) 3 (zlof [(0, .ref (zad (wX D kc ad n) 62)), (1, .ref (zad (wX D kc ad n) a)), (2, .long v), (4, .ref (zad (wX D kc ad n) out)), (5, .int (nI (i1)))]) [] z2) (fX1_scale_3 a v out) (fun _ _ => True) 10 ?_ (fun _ _ _ _ => trivial) 10 0 s0 (by omega) trivial ?_
  · intro i1 z2 hi1 hIi1 k0
    refine j_iload C dX1_scale_3 rfl ?_
    refine j_bipush (v := nI 10) C dX1_scale_5 (by decide +kernel) ?_
    refine j_icmp_geN (tgt := 27) C dX1_scale_7 (by decide) (by omega) (by omega) (fun q3 => False.elim (by omega)) (fun q3 => ?_)
    refine j_aload C dX1_scale_10 rfl ?_
    refine j_iload C dX1_scale_12 rfl ?_
    refine j_aload_n C dX1_scale_14 rfl rfl ?_
    refine j_iload C dX1_scale_15 rfl ?_
    refine x_lald C dX1_scale_17 ha (by omega) ?_
    refine j_lload_n C dX1_scale_18 rfl rfl ?_
    refine j_lmul C dX1_scale_19 ?_
    refine x_last C dX1_scale_20 hout (by omega) ?_
    refine j_nmS (fun t4 et4 => ?_)
    refine j_iincN (b := 1) C dX1_scale_21 rfl (by decide +kernel) (by decide) ?_
    refine j_goto (tgt := 3) C dX1_scale_24 (by decide) ?_
    refine j_nmS (fun t5 et5 => ?_)
    refine j_at [(0, .ref (zad (wX D kc ad n) 62)), (1, .ref (zad (wX D kc ad n) a)), (2, .long v), (4, .ref (zad (wX D kc ad n) out)), (5, .int (nI (i1 + 1)))] ⟨rfl, rfl, rfl, rfl, rfl, trivial⟩ ?_
    have eF : (fX1_scale_3 a v out) i1 z2 = t5 := by rw [et5]; (try rw [et4]); unfold fX1_scale_3; first | done | (dsimp only; done) | rfl
    exact Eq.mp (congrArg (fun (z6 : zSt) => zJ κ (wX D kc ad n) 3 (zlof [(0, .ref (zad (wX D kc ad n) 62)), (1, .ref (zad (wX D kc ad n) a)), (2, .long v), (4, .ref (zad (wX D kc ad n) out)), (5, .int (nI (i1 + 1)))]) [] z6) eF) (k0 trivial)
  · intro hIi1
    refine z_nm (P := fun (z2 : zSt) => zJ κ (wX D kc ad n) 3 (zlof [(0, .ref (zad (wX D kc ad n) 62)), (1, .ref (zad (wX D kc ad n) a)), (2, .long v), (4, .ref (zad (wX D kc ad n) out)), (5, .int (nI (10)))]) [] z2) (fun u7 eu7 => ?_)
    refine j_iload C dX1_scale_3 rfl ?_
    refine j_bipush (v := nI 10) C dX1_scale_5 (by decide +kernel) ?_
    refine j_icmp_geN (tgt := 27) C dX1_scale_7 (by decide) (by omega) (by omega) (fun q8 => ?_) (fun q8 => False.elim (by omega))
    refine j_aload_n C dX1_scale_27 rfl rfl ?_
    refine j_aload C dX1_scale_28 rfl ?_
    refine j_callV0 (T := TX1) (N := 8) C dX1_scale_30 (k_X1_carry l D kc ad n (by omega) out hout _ ) zy_X1_carry mw_7_3 rfl rfl (show 11 ≤ 62 by decide) (show 62 < n by omega) rfl rfl (Nat.le_of_ble_eq_true rfl) ⟨rfl, rfl, Nat.le_of_ble_eq_true rfl, Nat.le_of_ble_eq_true rfl⟩ ?_
    refine j_nmS (fun t9 et9 => ?_)
    exact j_vret (st := []) C R0 dX1_scale_33 ⟨rfl, (by (try rw [et9]); (try rw [eu7]); unfold fX1_scale; (try dsimp only); all_goals ((try simp only [zfst_mk, zsnd_mk]); all_goals rfl))⟩
theorem k2_fX1_scale_3 (a : Nat) (v : Int64) (out : Nat) (i1 : Nat) (z2 : zSt) : zk2 (fX1_scale_3 a v out i1 z2) = zk2 z2 := by
  unfold fX1_scale_3
  (try dsimp only)
  all_goals (simp only [zW_2, zL_2]; done)
theorem k2it_fX1_scale_3 (a : Nat) (v : Int64) (out : Nat) (nn ii : Nat) (xx : zSt) : zk2 (ziter (fX1_scale_3 a v out) ii nn xx) = zk2 xx := ziter_keep (fun x => zk2 x) _ (k2_fX1_scale_3 a v out) nn ii xx
theorem k2_fX1_scale (a : Nat) (v : Int64) (out : Nat) (s0 : zSt) : zk2 (fX1_scale a v out s0) = zk2 s0 := by
  unfold fX1_scale
  (try dsimp only)
  all_goals (simp only [zW_2, zL_2, k2_fX1_carry, k2_fX1_scale_3, k2it_fX1_scale_3]; done)
theorem i2_fX1_scale (a : Nat) (v : Int64) (out : Nat) (s0 : zSt) (kk9 : Nat) : (fX1_scale a v out s0).2.2 kk9 = s0.2.2 kk9 := z2_I (k2_fX1_scale a v out s0) kk9
theorem i3_fX1_scale (a : Nat) (v : Int64) (out : Nat) (s0 : zSt) (kk9 : Nat) : zi (fX1_scale a v out s0) kk9 = zi s0 kk9 := zi_of (k2_fX1_scale a v out s0) kk9

def fX1_multiply_27 (b : Nat) (i2 : Nat) (x5 : Int64) (i6 : Nat) (z7 : zSt) : zSt :=
    let t9 := zW z7 40 (i2 + i6) ((z7.1 40 (i2 + i6)) + (x5 * (z7.1 b i6)))
    t9
def fX1_multiply_11 (a : Nat) (b : Nat) (i2 : Nat) (z3 : zSt) : zSt :=
    let x5 := z3.1 a i2
    let u12 := ziter (fX1_multiply_27 b i2 x5) 0 10 z3
    u12
def fX1_multiply (a : Nat) (b : Nat) (out : Nat) (s0 : zSt) : zSt :=
    let t1 := fJ7_fill_d0a16 40 20 ((0 : Int64)) s0
    let u16 := ziter (fX1_multiply_11 a b) 0 10 t1
    let t18 := fX1_fold out u16
    let t19 := fX1_carry out t18
    t19
set_option maxHeartbeats 4000000 in
set_option maxRecDepth 100000 in
theorem k_X1_multiply (l : Launch) (D : va_G) (kc : Nat → ClassId) (ad : Nat → Nat) (n : Nat) (hn : 63 ≤ n) (a : Nat) (ha : ra n 10 a) (b : Nat) (hb : ra n 10 b) (out : Nat) (hout : wa n 10 out) (s0 : zSt) : zM l yX1_multiply cX1_multiply 8 none rX1_multiply (wX D kc ad n) [.ref (zad (wX D kc ad n) 62), .ref (zad (wX D kc ad n) a), .ref (zad (wX D kc ad n) b), .ref (zad (wX D kc ad n) out)] s0 (zV0 (fX1_multiply a b out s0)) := by
  refine z_of (own := RX1) (by decide +kernel) rfl (Nat.le_of_ble_eq_true rfl) ?_
  intro κ C R0
  refine j_at [(0, .ref (zad (wX D kc ad n) 62)), (1, .ref (zad (wX D kc ad n) a)), (2, .ref (zad (wX D kc ad n) b)), (3, .ref (zad (wX D kc ad n) out))] ⟨rfl, rfl, rfl, rfl, trivial⟩ ?_
  refine j_aload_n C dX1_multiply_0 rfl rfl ?_
  refine j_getR C dX1_multiply_1 (fx_RX1_16 D kc ad n) (show 11 ≤ 62 by decide) (show 62 < n by omega) ?_
  refine j_lconst (v := 0) C dX1_multiply_4 rfl ?_
  refine j_callS0 C dX1_multiply_5 (k_J7_fill_d0a16 l D kc ad n (by omega) 40 20 (⟨⟨rfl, rfl, by omega, by decide⟩, by decide⟩ : wa n 20 40) ((0 : Int64)) _ (by omega)) zy_J7_fill_d0a16 mw_6_3 rfl rfl (Nat.le_of_ble_eq_true rfl) ⟨rfl, rfl, Nat.le_of_ble_eq_true rfl, Nat.le_of_ble_eq_true rfl⟩ ?_
  refine j_nmS (fun t1 et1 => ?_)
  refine j_iconst (v := nI 0) C dX1_multiply_8 (by decide +kernel) ?_
  refine j_istore C dX1_multiply_9 (by decide) ?_
  refine j_at [(0, .ref (zad (wX D kc ad n) 62)), (1, .ref (zad (wX D kc ad n) a)), (2, .ref (zad (wX D kc ad n) b)), (3, .ref (zad (wX D kc ad n) out)), (4, .int (nI (0)))] ⟨rfl, rfl, rfl, rfl, rfl, trivial⟩ ?_
  refine z_up (α := zSt) (fun (i2 : Nat) (z3 : zSt) => zJ κ (wX D kc ad n) 11 (zlof [(0, .ref (zad (wX D kc ad n) 62)), (1, .ref (zad (wX D kc ad n) a)), (2, .ref (zad (wX D kc ad n) b)), (3, .ref (zad (wX D kc ad n) out)), (4, .int (nI (i2)))]) [] z3) (fX1_multiply_11 a b) (fun _ _ => True) 10 ?_ (fun _ _ _ _ => trivial) 10 0 t1 (by omega) trivial ?_
  · intro i2 z3 hi2 hIi2 k0
    refine j_iload C dX1_multiply_11 rfl ?_
    refine j_bipush (v := nI 10) C dX1_multiply_13 (by decide +kernel) ?_
    refine j_icmp_geN (tgt := 66) C dX1_multiply_15 (by decide) (by omega) (by omega) (fun q4 => False.elim (by omega)) (fun q4 => ?_)
    refine j_aload_n C dX1_multiply_18 rfl rfl ?_
    refine j_iload C dX1_multiply_19 rfl ?_
    refine x_lald C dX1_multiply_21 ha (by omega) ?_
    refine j_nmL (fun x5 ex5 => ?_)
    refine j_lstore C dX1_multiply_22 (by decide) ?_
    refine j_iconst (v := nI 0) C dX1_multiply_24 (by decide +kernel) ?_
    refine j_istore C dX1_multiply_25 (by decide) ?_
    refine j_at [(0, .ref (zad (wX D kc ad n) 62)), (1, .ref (zad (wX D kc ad n) a)), (2, .ref (zad (wX D kc ad n) b)), (3, .ref (zad (wX D kc ad n) out)), (4, .int (nI (i2))), (5, .long x5), (7, .int (nI (0)))] ⟨rfl, rfl, rfl, rfl, rfl, rfl, rfl, trivial⟩ ?_
    refine z_up (α := zSt) (fun (i6 : Nat) (z7 : zSt) => zJ κ (wX D kc ad n) 27 (zlof [(0, .ref (zad (wX D kc ad n) 62)), (1, .ref (zad (wX D kc ad n) a)), (2, .ref (zad (wX D kc ad n) b)), (3, .ref (zad (wX D kc ad n) out)), (4, .int (nI (i2))), (5, .long x5), (7, .int (nI (i6)))]) [] z7) (fX1_multiply_27 b i2 x5) (fun _ _ => True) 10 ?_ (fun _ _ _ _ => trivial) 10 0 z3 (by omega) trivial ?_
    · intro i6 z7 hi6 hIi6 k0
      refine j_iload C dX1_multiply_27 rfl ?_
      refine j_bipush (v := nI 10) C dX1_multiply_29 (by decide +kernel) ?_
      refine j_icmp_geN (tgt := 60) C dX1_multiply_31 (by decide) (by omega) (by omega) (fun q8 => False.elim (by omega)) (fun q8 => ?_)
      refine j_aload_n C dX1_multiply_34 rfl rfl ?_
      refine j_getR C dX1_multiply_35 (fx_RX1_16 D kc ad n) (show 11 ≤ 62 by decide) (show 62 < n by omega) ?_
      refine j_iload C dX1_multiply_38 rfl ?_
      refine j_iload C dX1_multiply_40 rfl ?_
      refine j_iaddN C dX1_multiply_42 ?_
      refine j_dup2 C dX1_multiply_43 rfl rfl ?_
      refine x_lald C dX1_multiply_44 (⟨⟨rfl, rfl, by omega, by decide⟩, by decide⟩ : wa n 20 40).1 (by omega) ?_
      refine j_lload C dX1_multiply_45 rfl ?_
      refine j_aload_n C dX1_multiply_47 rfl rfl ?_
      refine j_iload C dX1_multiply_48 rfl ?_
      refine x_lald C dX1_multiply_50 hb (by omega) ?_
      refine j_lmul C dX1_multiply_51 ?_
      refine j_ladd C dX1_multiply_52 ?_
      refine x_last C dX1_multiply_53 (⟨⟨rfl, rfl, by omega, by decide⟩, by decide⟩ : wa n 20 40) (by omega) ?_
      refine j_nmS (fun t9 et9 => ?_)
      refine j_iincN (b := 1) C dX1_multiply_54 rfl (by decide +kernel) (by decide) ?_
      refine j_goto (tgt := 27) C dX1_multiply_57 (by decide) ?_
      refine j_nmS (fun t10 et10 => ?_)
      refine j_at [(0, .ref (zad (wX D kc ad n) 62)), (1, .ref (zad (wX D kc ad n) a)), (2, .ref (zad (wX D kc ad n) b)), (3, .ref (zad (wX D kc ad n) out)), (4, .int (nI (i2))), (5, .long x5), (7, .int (nI (i6 + 1)))] ⟨rfl, rfl, rfl, rfl, rfl, rfl, rfl, trivial⟩ ?_
      have eF : (fX1_multiply_27 b i2 x5) i6 z7 = t10 := by rw [et10]; (try rw [et9]); unfold fX1_multiply_27; first | done | (dsimp only; done) | rfl
      exact Eq.mp (congrArg (fun (z11 : zSt) => zJ κ (wX D kc ad n) 27 (zlof [(0, .ref (zad (wX D kc ad n) 62)), (1, .ref (zad (wX D kc ad n) a)), (2, .ref (zad (wX D kc ad n) b)), (3, .ref (zad (wX D kc ad n) out)), (4, .int (nI (i2))), (5, .long x5), (7, .int (nI (i6 + 1)))]) [] z11) eF) (k0 trivial)
    · intro hIi6
      refine z_nm (P := fun (z7 : zSt) => zJ κ (wX D kc ad n) 27 (zlof [(0, .ref (zad (wX D kc ad n) 62)), (1, .ref (zad (wX D kc ad n) a)), (2, .ref (zad (wX D kc ad n) b)), (3, .ref (zad (wX D kc ad n) out)), (4, .int (nI (i2))), (5, .long x5), (7, .int (nI (10)))]) [] z7) (fun u12 eu12 => ?_)
      refine j_iload C dX1_multiply_27 rfl ?_
      refine j_bipush (v := nI 10) C dX1_multiply_29 (by decide +kernel) ?_
      refine j_icmp_geN (tgt := 60) C dX1_multiply_31 (by decide) (by omega) (by omega) (fun q13 => ?_) (fun q13 => False.elim (by omega))
      refine j_iincN (b := 1) C dX1_multiply_60 rfl (by decide +kernel) (by decide) ?_
      refine j_goto (tgt := 11) C dX1_multiply_63 (by decide) ?_
      refine j_nmS (fun t14 et14 => ?_)
      refine j_at [(0, .ref (zad (wX D kc ad n) 62)), (1, .ref (zad (wX D kc ad n) a)), (2, .ref (zad (wX D kc ad n) b)), (3, .ref (zad (wX D kc ad n) out)), (4, .int (nI (i2 + 1)))] ⟨rfl, rfl, rfl, rfl, rfl, trivial⟩ ?_
      have eF : (fX1_multiply_11 a b) i2 z3 = t14 := by rw [et14]; (try rw [eu12]); (try rw [ex5]); unfold fX1_multiply_11; first | done | (dsimp only; done) | rfl
      exact Eq.mp (congrArg (fun (z15 : zSt) => zJ κ (wX D kc ad n) 11 (zlof [(0, .ref (zad (wX D kc ad n) 62)), (1, .ref (zad (wX D kc ad n) a)), (2, .ref (zad (wX D kc ad n) b)), (3, .ref (zad (wX D kc ad n) out)), (4, .int (nI (i2 + 1)))]) [] z15) eF) (k0 trivial)
  · intro hIi2
    refine z_nm (P := fun (z3 : zSt) => zJ κ (wX D kc ad n) 11 (zlof [(0, .ref (zad (wX D kc ad n) 62)), (1, .ref (zad (wX D kc ad n) a)), (2, .ref (zad (wX D kc ad n) b)), (3, .ref (zad (wX D kc ad n) out)), (4, .int (nI (10)))]) [] z3) (fun u16 eu16 => ?_)
    refine j_iload C dX1_multiply_11 rfl ?_
    refine j_bipush (v := nI 10) C dX1_multiply_13 (by decide +kernel) ?_
    refine j_icmp_geN (tgt := 66) C dX1_multiply_15 (by decide) (by omega) (by omega) (fun q17 => ?_) (fun q17 => False.elim (by omega))
    refine j_aload_n C dX1_multiply_66 rfl rfl ?_
    refine j_aload_n C dX1_multiply_67 rfl rfl ?_
    refine j_callV0 (T := TX1) (N := 8) C dX1_multiply_68 (k_X1_fold l D kc ad n (by omega) out hout _ ) zy_X1_fold mw_6_22 rfl rfl (show 11 ≤ 62 by decide) (show 62 < n by omega) rfl rfl (Nat.le_of_ble_eq_true rfl) ⟨rfl, rfl, Nat.le_of_ble_eq_true rfl, Nat.le_of_ble_eq_true rfl⟩ ?_
    refine j_nmS (fun t18 et18 => ?_)
    refine j_aload_n C dX1_multiply_71 rfl rfl ?_
    refine j_aload_n C dX1_multiply_72 rfl rfl ?_
    refine j_callV0 (T := TX1) (N := 8) C dX1_multiply_73 (k_X1_carry l D kc ad n (by omega) out hout _ ) zy_X1_carry mw_7_3 rfl rfl (show 11 ≤ 62 by decide) (show 62 < n by omega) rfl rfl (Nat.le_of_ble_eq_true rfl) ⟨rfl, rfl, Nat.le_of_ble_eq_true rfl, Nat.le_of_ble_eq_true rfl⟩ ?_
    refine j_nmS (fun t19 et19 => ?_)
    exact j_vret (st := []) C R0 dX1_multiply_76 ⟨rfl, (by (try rw [et19]); (try rw [et18]); (try rw [eu16]); (try rw [et1]); unfold fX1_multiply; (try dsimp only); all_goals ((try simp only [zfst_mk, zsnd_mk]); all_goals rfl))⟩
theorem k2_fX1_multiply_27 (b : Nat) (i2 : Nat) (x5 : Int64) (i6 : Nat) (z7 : zSt) : zk2 (fX1_multiply_27 b i2 x5 i6 z7) = zk2 z7 := by
  unfold fX1_multiply_27
  (try dsimp only)
  all_goals (simp only [zW_2, zL_2]; done)
theorem k2it_fX1_multiply_27 (b : Nat) (i2 : Nat) (x5 : Int64) (nn ii : Nat) (xx : zSt) : zk2 (ziter (fX1_multiply_27 b i2 x5) ii nn xx) = zk2 xx := ziter_keep (fun x => zk2 x) _ (k2_fX1_multiply_27 b i2 x5) nn ii xx
theorem k2_fX1_multiply_11 (a : Nat) (b : Nat) (i2 : Nat) (z3 : zSt) : zk2 (fX1_multiply_11 a b i2 z3) = zk2 z3 := by
  unfold fX1_multiply_11
  (try dsimp only)
  all_goals (simp only [zW_2, zL_2, k2_fX1_multiply_27, k2it_fX1_multiply_27]; done)
theorem k2it_fX1_multiply_11 (a : Nat) (b : Nat) (nn ii : Nat) (xx : zSt) : zk2 (ziter (fX1_multiply_11 a b) ii nn xx) = zk2 xx := ziter_keep (fun x => zk2 x) _ (k2_fX1_multiply_11 a b) nn ii xx
theorem k2_fX1_multiply (a : Nat) (b : Nat) (out : Nat) (s0 : zSt) : zk2 (fX1_multiply a b out s0) = zk2 s0 := by
  unfold fX1_multiply
  (try dsimp only)
  all_goals (simp only [zW_2, zL_2, k2_fJ7_fill_d0a16, k2_fX1_carry, k2_fX1_fold, k2_fX1_multiply_11, k2it_fX1_multiply_11]; done)
theorem i2_fX1_multiply (a : Nat) (b : Nat) (out : Nat) (s0 : zSt) (kk9 : Nat) : (fX1_multiply a b out s0).2.2 kk9 = s0.2.2 kk9 := z2_I (k2_fX1_multiply a b out s0) kk9
theorem i3_fX1_multiply (a : Nat) (b : Nat) (out : Nat) (s0 : zSt) (kk9 : Nat) : zi (fX1_multiply a b out s0) kk9 = zi s0 kk9 := zi_of (k2_fX1_multiply a b out s0) kk9

def fX1_square_42 (a : Nat) (i2 : Nat) (x5 : Int64) (i8 : Nat) (z9 : zSt) : zSt :=
    let t11 := zW z9 40 (i2 + i8) ((z9.1 40 (i2 + i8)) + ((((2 : Int64)) * x5) * (z9.1 a i8)))
    t11
def fX1_square_10 (a : Nat) (i2 : Nat) (z3 : zSt) : zSt :=
    let x5 := z3.1 a i2
    let t6 := zW z3 40 (2 * i2) ((z3.1 40 (2 * i2)) + (x5 * x5))
    let x7 := i2 + 1
    let u14 := ziter (fX1_square_42 a i2 x5) x7 (10 - x7) t6
    u14
def fX1_square (a : Nat) (out : Nat) (s0 : zSt) : zSt :=
    let t1 := fJ7_fill_d0a16 40 20 ((0 : Int64)) s0
    let u18 := ziter (fX1_square_10 a) 0 10 t1
    let t20 := fX1_fold out u18
    let t21 := fX1_carry out t20
    t21
set_option maxHeartbeats 4000000 in
set_option maxRecDepth 100000 in
theorem k_X1_square (l : Launch) (D : va_G) (kc : Nat → ClassId) (ad : Nat → Nat) (n : Nat) (hn : 63 ≤ n) (a : Nat) (ha : ra n 10 a) (out : Nat) (hout : wa n 10 out) (s0 : zSt) : zM l yX1_square cX1_square 7 none rX1_square (wX D kc ad n) [.ref (zad (wX D kc ad n) 62), .ref (zad (wX D kc ad n) a), .ref (zad (wX D kc ad n) out)] s0 (zV0 (fX1_square a out s0)) := by
  refine z_of (own := RX1) (by decide +kernel) rfl (Nat.le_of_ble_eq_true rfl) ?_
  intro κ C R0
  refine j_at [(0, .ref (zad (wX D kc ad n) 62)), (1, .ref (zad (wX D kc ad n) a)), (2, .ref (zad (wX D kc ad n) out))] ⟨rfl, rfl, rfl, trivial⟩ ?_
  refine j_aload_n C dX1_square_0 rfl rfl ?_
  refine j_getR C dX1_square_1 (fx_RX1_16 D kc ad n) (show 11 ≤ 62 by decide) (show 62 < n by omega) ?_
  refine j_lconst (v := 0) C dX1_square_4 rfl ?_
  refine j_callS0 C dX1_square_5 (k_J7_fill_d0a16 l D kc ad n (by omega) 40 20 (⟨⟨rfl, rfl, by omega, by decide⟩, by decide⟩ : wa n 20 40) ((0 : Int64)) _ (by omega)) zy_J7_fill_d0a16 mw_6_3 rfl rfl (Nat.le_of_ble_eq_true rfl) ⟨rfl, rfl, Nat.le_of_ble_eq_true rfl, Nat.le_of_ble_eq_true rfl⟩ ?_
  refine j_nmS (fun t1 et1 => ?_)
  refine j_iconst (v := nI 0) C dX1_square_8 (by decide +kernel) ?_
  refine j_istore_n C dX1_square_9 rfl (by decide) ?_
  refine j_at [(0, .ref (zad (wX D kc ad n) 62)), (1, .ref (zad (wX D kc ad n) a)), (2, .ref (zad (wX D kc ad n) out)), (3, .int (nI (0)))] ⟨rfl, rfl, rfl, rfl, trivial⟩ ?_
  refine z_up (α := zSt) (fun (i2 : Nat) (z3 : zSt) => zJ κ (wX D kc ad n) 10 (zlof [(0, .ref (zad (wX D kc ad n) 62)), (1, .ref (zad (wX D kc ad n) a)), (2, .ref (zad (wX D kc ad n) out)), (3, .int (nI (i2)))]) [] z3) (fX1_square_10 a) (fun _ _ => True) 10 ?_ (fun _ _ _ _ => trivial) 10 0 t1 (by omega) trivial ?_
  · intro i2 z3 hi2 hIi2 k0
    refine j_iload_n C dX1_square_10 rfl rfl ?_
    refine j_bipush (v := nI 10) C dX1_square_11 (by decide +kernel) ?_
    refine j_icmp_geN (tgt := 84) C dX1_square_13 (by decide) (by omega) (by omega) (fun q4 => False.elim (by omega)) (fun q4 => ?_)
    refine j_aload_n C dX1_square_16 rfl rfl ?_
    refine j_iload_n C dX1_square_17 rfl rfl ?_
    refine x_lald C dX1_square_18 ha (by omega) ?_
    refine j_nmL (fun x5 ex5 => ?_)
    refine j_lstore C dX1_square_19 (by decide) ?_
    refine j_aload_n C dX1_square_21 rfl rfl ?_
    refine j_getR C dX1_square_22 (fx_RX1_16 D kc ad n) (show 11 ≤ 62 by decide) (show 62 < n by omega) ?_
    refine j_iconst (v := nI 2) C dX1_square_25 (by decide +kernel) ?_
    refine j_iload_n C dX1_square_26 rfl rfl ?_
    refine j_imulN C dX1_square_27 ?_
    refine j_dup2 C dX1_square_28 rfl rfl ?_
    refine x_lald C dX1_square_29 (⟨⟨rfl, rfl, by omega, by decide⟩, by decide⟩ : wa n 20 40).1 (by omega) ?_
    refine j_lload C dX1_square_30 rfl ?_
    refine j_lload C dX1_square_32 rfl ?_
    refine j_lmul C dX1_square_34 ?_
    refine j_ladd C dX1_square_35 ?_
    refine x_last C dX1_square_36 (⟨⟨rfl, rfl, by omega, by decide⟩, by decide⟩ : wa n 20 40) (by omega) ?_
    refine j_nmS (fun t6 et6 => ?_)
    refine j_iload_n C dX1_square_37 rfl rfl ?_
    refine j_iconst (v := nI 1) C dX1_square_38 (by decide +kernel) ?_
    refine j_iaddN C dX1_square_39 ?_
    refine j_nmN (fun x7 ex7 => ?_)
    refine j_istore C dX1_square_40 (by decide) ?_
    refine j_at [(0, .ref (zad (wX D kc ad n) 62)), (1, .ref (zad (wX D kc ad n) a)), (2, .ref (zad (wX D kc ad n) out)), (3, .int (nI (i2))), (4, .long x5), (6, .int (nI (x7)))] ⟨rfl, rfl, rfl, rfl, rfl, rfl, trivial⟩ ?_
    refine z_up (α := zSt) (fun (i8 : Nat) (z9 : zSt) => zJ κ (wX D kc ad n) 42 (zlof [(0, .ref (zad (wX D kc ad n) 62)), (1, .ref (zad (wX D kc ad n) a)), (2, .ref (zad (wX D kc ad n) out)), (3, .int (nI (i2))), (4, .long x5), (6, .int (nI (i8)))]) [] z9) (fX1_square_42 a i2 x5) (fun i8 z9 => x7 ≤ i8) 10 ?_ (fun _ _ _ h => by omega) (10 - x7) x7 t6 (by omega) ((Nat.le_refl _)) ?_
    · intro i8 z9 hi8 hIi8 k0
      refine j_iload C dX1_square_42 rfl ?_
      refine j_bipush (v := nI 10) C dX1_square_44 (by decide +kernel) ?_
      refine j_icmp_geN (tgt := 78) C dX1_square_46 (by decide) (by omega) (by omega) (fun q10 => False.elim (by omega)) (fun q10 => ?_)
      refine j_aload_n C dX1_square_49 rfl rfl ?_
      refine j_getR C dX1_square_50 (fx_RX1_16 D kc ad n) (show 11 ≤ 62 by decide) (show 62 < n by omega) ?_
      refine j_iload_n C dX1_square_53 rfl rfl ?_
      refine j_iload C dX1_square_54 rfl ?_
      refine j_iaddN C dX1_square_56 ?_
      refine j_dup2 C dX1_square_57 rfl rfl ?_
      refine x_lald C dX1_square_58 (⟨⟨rfl, rfl, by omega, by decide⟩, by decide⟩ : wa n 20 40).1 (by omega) ?_
      refine j_ldc2 C dX1_square_59 mw_20_12 ?_
      refine j_lload C dX1_square_62 rfl ?_
      refine j_lmul C dX1_square_64 ?_
      refine j_aload_n C dX1_square_65 rfl rfl ?_
      refine j_iload C dX1_square_66 rfl ?_
      refine x_lald C dX1_square_68 ha (by omega) ?_
      refine j_lmul C dX1_square_69 ?_
      refine j_ladd C dX1_square_70 ?_
      refine x_last C dX1_square_71 (⟨⟨rfl, rfl, by omega, by decide⟩, by decide⟩ : wa n 20 40) (by omega) ?_
      refine j_nmS (fun t11 et11 => ?_)
      refine j_iincN (b := 1) C dX1_square_72 rfl (by decide +kernel) (by decide) ?_
      refine j_goto (tgt := 42) C dX1_square_75 (by decide) ?_
      refine j_nmS (fun t12 et12 => ?_)
      refine j_at [(0, .ref (zad (wX D kc ad n) 62)), (1, .ref (zad (wX D kc ad n) a)), (2, .ref (zad (wX D kc ad n) out)), (3, .int (nI (i2))), (4, .long x5), (6, .int (nI (i8 + 1)))] ⟨rfl, rfl, rfl, rfl, rfl, rfl, trivial⟩ ?_
      have eF : (fX1_square_42 a i2 x5) i8 z9 = t12 := by rw [et12]; (try rw [et11]); unfold fX1_square_42; first | done | (dsimp only; done) | rfl
      exact Eq.mp (congrArg (fun (z13 : zSt) => zJ κ (wX D kc ad n) 42 (zlof [(0, .ref (zad (wX D kc ad n) 62)), (1, .ref (zad (wX D kc ad n) a)), (2, .ref (zad (wX D kc ad n) out)), (3, .int (nI (i2))), (4, .long x5), (6, .int (nI (i8 + 1)))]) [] z13) eF) (k0 ((by omega)))
    · intro hIi8
      revert hIi8
      refine z_nm (P := fun (z9 : zSt) => (fun i8 z9 => x7 ≤ i8) 10 z9 → zJ κ (wX D kc ad n) 42 (zlof [(0, .ref (zad (wX D kc ad n) 62)), (1, .ref (zad (wX D kc ad n) a)), (2, .ref (zad (wX D kc ad n) out)), (3, .int (nI (i2))), (4, .long x5), (6, .int (nI (10)))]) [] z9) (fun u14 eu14 => ?_)
      intro hIi8
      refine j_iload C dX1_square_42 rfl ?_
      refine j_bipush (v := nI 10) C dX1_square_44 (by decide +kernel) ?_
      refine j_icmp_geN (tgt := 78) C dX1_square_46 (by decide) (by omega) (by omega) (fun q15 => ?_) (fun q15 => False.elim (by omega))
      refine j_iincN (b := 1) C dX1_square_78 rfl (by decide +kernel) (by decide) ?_
      refine j_goto (tgt := 10) C dX1_square_81 (by decide) ?_
      refine j_nmS (fun t16 et16 => ?_)
      refine j_at [(0, .ref (zad (wX D kc ad n) 62)), (1, .ref (zad (wX D kc ad n) a)), (2, .ref (zad (wX D kc ad n) out)), (3, .int (nI (i2 + 1)))] ⟨rfl, rfl, rfl, rfl, trivial⟩ ?_
      have eF : (fX1_square_10 a) i2 z3 = t16 := by rw [et16]; (try rw [eu14]); (try rw [ex7]); (try rw [et6]); (try rw [ex5]); unfold fX1_square_10; first | done | (dsimp only; done) | rfl
      exact Eq.mp (congrArg (fun (z17 : zSt) => zJ κ (wX D kc ad n) 10 (zlof [(0, .ref (zad (wX D kc ad n) 62)), (1, .ref (zad (wX D kc ad n) a)), (2, .ref (zad (wX D kc ad n) out)), (3, .int (nI (i2 + 1)))]) [] z17) eF) (k0 trivial)
  · intro hIi2
    refine z_nm (P := fun (z3 : zSt) => zJ κ (wX D kc ad n) 10 (zlof [(0, .ref (zad (wX D kc ad n) 62)), (1, .ref (zad (wX D kc ad n) a)), (2, .ref (zad (wX D kc ad n) out)), (3, .int (nI (10)))]) [] z3) (fun u18 eu18 => ?_)
    refine j_iload_n C dX1_square_10 rfl rfl ?_
    refine j_bipush (v := nI 10) C dX1_square_11 (by decide +kernel) ?_
    refine j_icmp_geN (tgt := 84) C dX1_square_13 (by decide) (by omega) (by omega) (fun q19 => ?_) (fun q19 => False.elim (by omega))
    refine j_aload_n C dX1_square_84 rfl rfl ?_
    refine j_aload_n C dX1_square_85 rfl rfl ?_
    refine j_callV0 (T := TX1) (N := 8) C dX1_square_86 (k_X1_fold l D kc ad n (by omega) out hout _ ) zy_X1_fold mw_6_22 rfl rfl (show 11 ≤ 62 by decide) (show 62 < n by omega) rfl rfl (Nat.le_of_ble_eq_true rfl) ⟨rfl, rfl, Nat.le_of_ble_eq_true rfl, Nat.le_of_ble_eq_true rfl⟩ ?_
    refine j_nmS (fun t20 et20 => ?_)
    refine j_aload_n C dX1_square_89 rfl rfl ?_
    refine j_aload_n C dX1_square_90 rfl rfl ?_
    refine j_callV0 (T := TX1) (N := 8) C dX1_square_91 (k_X1_carry l D kc ad n (by omega) out hout _ ) zy_X1_carry mw_7_3 rfl rfl (show 11 ≤ 62 by decide) (show 62 < n by omega) rfl rfl (Nat.le_of_ble_eq_true rfl) ⟨rfl, rfl, Nat.le_of_ble_eq_true rfl, Nat.le_of_ble_eq_true rfl⟩ ?_
    refine j_nmS (fun t21 et21 => ?_)
    exact j_vret (st := []) C R0 dX1_square_94 ⟨rfl, (by (try rw [et21]); (try rw [et20]); (try rw [eu18]); (try rw [et1]); unfold fX1_square; (try dsimp only); all_goals ((try simp only [zfst_mk, zsnd_mk]); all_goals rfl))⟩
theorem k2_fX1_square_42 (a : Nat) (i2 : Nat) (x5 : Int64) (i8 : Nat) (z9 : zSt) : zk2 (fX1_square_42 a i2 x5 i8 z9) = zk2 z9 := by
  unfold fX1_square_42
  (try dsimp only)
  all_goals (simp only [zW_2, zL_2]; done)
theorem k2it_fX1_square_42 (a : Nat) (i2 : Nat) (x5 : Int64) (nn ii : Nat) (xx : zSt) : zk2 (ziter (fX1_square_42 a i2 x5) ii nn xx) = zk2 xx := ziter_keep (fun x => zk2 x) _ (k2_fX1_square_42 a i2 x5) nn ii xx
theorem k2_fX1_square_10 (a : Nat) (i2 : Nat) (z3 : zSt) : zk2 (fX1_square_10 a i2 z3) = zk2 z3 := by
  unfold fX1_square_10
  (try dsimp only)
  all_goals (simp only [zW_2, zL_2, k2_fX1_square_42, k2it_fX1_square_42]; done)
theorem k2it_fX1_square_10 (a : Nat) (nn ii : Nat) (xx : zSt) : zk2 (ziter (fX1_square_10 a) ii nn xx) = zk2 xx := ziter_keep (fun x => zk2 x) _ (k2_fX1_square_10 a) nn ii xx
theorem k2_fX1_square (a : Nat) (out : Nat) (s0 : zSt) : zk2 (fX1_square a out s0) = zk2 s0 := by
  unfold fX1_square
  (try dsimp only)
  all_goals (simp only [zW_2, zL_2, k2_fJ7_fill_d0a16, k2_fX1_carry, k2_fX1_fold, k2_fX1_square_10, k2it_fX1_square_10]; done)
theorem i2_fX1_square (a : Nat) (out : Nat) (s0 : zSt) (kk9 : Nat) : (fX1_square a out s0).2.2 kk9 = s0.2.2 kk9 := z2_I (k2_fX1_square a out s0) kk9
theorem i3_fX1_square (a : Nat) (out : Nat) (s0 : zSt) (kk9 : Nat) : zi (fX1_square a out s0) kk9 = zi s0 kk9 := zi_of (k2_fX1_square a out s0) kk9

def fX1_makeExact (a : Nat) (s0 : zSt) : zSt :=
    let t1 := fX1_move a 41 s0
    let t2 := fX1_carry 41 t1
    let t3 := zW t2 41 0 ((t2.1 41 0) + ((19 : Int64)))
    let t4 := fX1_carry 41 t3
    let t5 := zW t4 41 0 ((t4.1 41 0) - ((19 : Int64)))
    let t6 := fX1_carry 41 t5
    t6
set_option maxHeartbeats 4000000 in
set_option maxRecDepth 100000 in
theorem k_X1_makeExact (l : Launch) (D : va_G) (kc : Nat → ClassId) (ad : Nat → Nat) (n : Nat) (hn : 63 ≤ n) (a : Nat) (ha : ra n 10 a) (s0 : zSt) : zM l yX1_makeExact cX1_makeExact 2 none rX1_makeExact (wX D kc ad n) [.ref (zad (wX D kc ad n) 62), .ref (zad (wX D kc ad n) a)] s0 (zV0 (fX1_makeExact a s0)) := by
  refine z_of (own := RX1) (by decide +kernel) rfl (Nat.le_of_ble_eq_true rfl) ?_
  intro κ C R0
  refine j_at [(0, .ref (zad (wX D kc ad n) 62)), (1, .ref (zad (wX D kc ad n) a))] ⟨rfl, rfl, trivial⟩ ?_
  refine j_aload_n C dX1_makeExact_0 rfl rfl ?_
  refine j_aload_n C dX1_makeExact_1 rfl rfl ?_
  refine j_aload_n C dX1_makeExact_2 rfl rfl ?_
  refine j_getR C dX1_makeExact_3 (fx_RX1_19 D kc ad n) (show 11 ≤ 62 by decide) (show 62 < n by omega) ?_
  refine j_callV0 (T := TX1) (N := 8) C dX1_makeExact_6 (k_X1_move l D kc ad n (by omega) a ha 41 (⟨⟨rfl, rfl, by omega, by decide⟩, by decide⟩ : wa n 10 41) _ ) zy_X1_move mw_19_3 rfl rfl (show 11 ≤ 62 by decide) (show 62 < n by omega) rfl rfl (Nat.le_of_ble_eq_true rfl) ⟨rfl, rfl, Nat.le_of_ble_eq_true rfl, Nat.le_of_ble_eq_true rfl⟩ ?_
  refine j_nmS (fun t1 et1 => ?_)
  refine j_aload_n C dX1_makeExact_9 rfl rfl ?_
  refine j_aload_n C dX1_makeExact_10 rfl rfl ?_
  refine j_getR C dX1_makeExact_11 (fx_RX1_19 D kc ad n) (show 11 ≤ 62 by decide) (show 62 < n by omega) ?_
  refine j_callV0 (T := TX1) (N := 8) C dX1_makeExact_14 (k_X1_carry l D kc ad n (by omega) 41 (⟨⟨rfl, rfl, by omega, by decide⟩, by decide⟩ : wa n 10 41) _ ) zy_X1_carry mw_7_3 rfl rfl (show 11 ≤ 62 by decide) (show 62 < n by omega) rfl rfl (Nat.le_of_ble_eq_true rfl) ⟨rfl, rfl, Nat.le_of_ble_eq_true rfl, Nat.le_of_ble_eq_true rfl⟩ ?_
  refine j_nmS (fun t2 et2 => ?_)
  refine j_aload_n C dX1_makeExact_17 rfl rfl ?_
  refine j_getR C dX1_makeExact_18 (fx_RX1_19 D kc ad n) (show 11 ≤ 62 by decide) (show 62 < n by omega) ?_
  refine j_iconst (v := nI 0) C dX1_makeExact_21 (by decide +kernel) ?_
  refine j_dup2 C dX1_makeExact_22 rfl rfl ?_
  refine x_lald C dX1_makeExact_23 (⟨⟨rfl, rfl, by omega, by decide⟩, by decide⟩ : wa n 10 41).1 (by omega) ?_
  refine j_ldc2 C dX1_makeExact_24 mw_7_7 ?_
  refine j_ladd C dX1_makeExact_27 ?_
  refine x_last C dX1_makeExact_28 (⟨⟨rfl, rfl, by omega, by decide⟩, by decide⟩ : wa n 10 41) (by omega) ?_
  refine j_nmS (fun t3 et3 => ?_)
  refine j_aload_n C dX1_makeExact_29 rfl rfl ?_
  refine j_aload_n C dX1_makeExact_30 rfl rfl ?_
  refine j_getR C dX1_makeExact_31 (fx_RX1_19 D kc ad n) (show 11 ≤ 62 by decide) (show 62 < n by omega) ?_
  refine j_callV0 (T := TX1) (N := 8) C dX1_makeExact_34 (k_X1_carry l D kc ad n (by omega) 41 (⟨⟨rfl, rfl, by omega, by decide⟩, by decide⟩ : wa n 10 41) _ ) zy_X1_carry mw_7_3 rfl rfl (show 11 ≤ 62 by decide) (show 62 < n by omega) rfl rfl (Nat.le_of_ble_eq_true rfl) ⟨rfl, rfl, Nat.le_of_ble_eq_true rfl, Nat.le_of_ble_eq_true rfl⟩ ?_
  refine j_nmS (fun t4 et4 => ?_)
  refine j_aload_n C dX1_makeExact_37 rfl rfl ?_
  refine j_getR C dX1_makeExact_38 (fx_RX1_19 D kc ad n) (show 11 ≤ 62 by decide) (show 62 < n by omega) ?_
  refine j_iconst (v := nI 0) C dX1_makeExact_41 (by decide +kernel) ?_
  refine j_dup2 C dX1_makeExact_42 rfl rfl ?_
  refine x_lald C dX1_makeExact_43 (⟨⟨rfl, rfl, by omega, by decide⟩, by decide⟩ : wa n 10 41).1 (by omega) ?_
  refine j_ldc2 C dX1_makeExact_44 mw_7_7 ?_
  refine j_lsub C dX1_makeExact_47 ?_
  refine x_last C dX1_makeExact_48 (⟨⟨rfl, rfl, by omega, by decide⟩, by decide⟩ : wa n 10 41) (by omega) ?_
  refine j_nmS (fun t5 et5 => ?_)
  refine j_aload_n C dX1_makeExact_49 rfl rfl ?_
  refine j_aload_n C dX1_makeExact_50 rfl rfl ?_
  refine j_getR C dX1_makeExact_51 (fx_RX1_19 D kc ad n) (show 11 ≤ 62 by decide) (show 62 < n by omega) ?_
  refine j_callV0 (T := TX1) (N := 8) C dX1_makeExact_54 (k_X1_carry l D kc ad n (by omega) 41 (⟨⟨rfl, rfl, by omega, by decide⟩, by decide⟩ : wa n 10 41) _ ) zy_X1_carry mw_7_3 rfl rfl (show 11 ≤ 62 by decide) (show 62 < n by omega) rfl rfl (Nat.le_of_ble_eq_true rfl) ⟨rfl, rfl, Nat.le_of_ble_eq_true rfl, Nat.le_of_ble_eq_true rfl⟩ ?_
  refine j_nmS (fun t6 et6 => ?_)
  exact j_vret (st := []) C R0 dX1_makeExact_57 ⟨rfl, (by (try rw [et6]); (try rw [et5]); (try rw [et4]); (try rw [et3]); (try rw [et2]); (try rw [et1]); unfold fX1_makeExact; (try dsimp only); all_goals ((try simp only [zfst_mk, zsnd_mk]); all_goals rfl))⟩
theorem k2_fX1_makeExact (a : Nat) (s0 : zSt) : zk2 (fX1_makeExact a s0) = zk2 s0 := by
  unfold fX1_makeExact
  (try dsimp only)
  all_goals (simp only [zW_2, zL_2, k2_fX1_carry, k2_fX1_move]; done)
theorem i2_fX1_makeExact (a : Nat) (s0 : zSt) (kk9 : Nat) : (fX1_makeExact a s0).2.2 kk9 = s0.2.2 kk9 := z2_I (k2_fX1_makeExact a s0) kk9
theorem i3_fX1_makeExact (a : Nat) (s0 : zSt) (kk9 : Nat) : zi (fX1_makeExact a s0) kk9 = zi s0 kk9 := zi_of (k2_fX1_makeExact a s0) kk9

def fX1_store_a1 (t8 : zSt) : zSt :=
    t8
def fX1_store_a2 (t8 : zSt) : zSt :=
    t8
def fX1_store_a3 (ws : Nat) (i3 : Nat) (x6 : Nat) (x7 : Nat) (t8 : zSt) : zSt :=
    let t19 := zW t8 ws (x6 + 1) ((t8.1 ws (x6 + 1)) ||| (zus (t8.1 41 i3) (64 - x7)))
    t19
def fX1_store_a4 (ws : Nat) (i3 : Nat) (x6 : Nat) (x7 : Nat) (t8 : zSt) : zSt :=
    if 4 ≤ x6 + 1 then
      fX1_store_a2 t8
    else
      fX1_store_a3 ws i3 x6 x7 t8
def fX1_store_12 (ws : Nat) (i3 : Nat) (z4 : zSt) : zSt :=
    let x6 := (26 * i3) / 2 ^ 6
    let x7 := (26 * i3) % 2 ^ 6
    let t8 := zW z4 ws x6 ((z4.1 ws x6) ||| (zsl (z4.1 41 i3) x7))
    if x7 + 26 ≤ 64 then
      fX1_store_a1 t8
    else
      fX1_store_a4 ws i3 x6 x7 t8
def fX1_store (a : Nat) (ws : Nat) (s0 : zSt) : zSt :=
    let t1 := fX1_makeExact a s0
    let t2 := fJ7_fill_d0a16 ws 4 ((0 : Int64)) t1
    let u22 := ziter (fX1_store_12 ws) 0 10 t2
    u22
set_option maxHeartbeats 4000000 in
set_option maxRecDepth 100000 in
theorem k_X1_store (l : Launch) (D : va_G) (kc : Nat → ClassId) (ad : Nat → Nat) (n : Nat) (hn : 63 ≤ n) (a : Nat) (ha : ra n 10 a) (ws : Nat) (hws : wa n 4 ws) (s0 : zSt) : zM l yX1_store cX1_store 6 none rX1_store (wX D kc ad n) [.ref (zad (wX D kc ad n) 62), .ref (zad (wX D kc ad n) a), .ref (zad (wX D kc ad n) ws)] s0 (zV0 (fX1_store a ws s0)) := by
  refine z_of (own := RX1) (by decide +kernel) rfl (Nat.le_of_ble_eq_true rfl) ?_
  intro κ C R0
  refine j_at [(0, .ref (zad (wX D kc ad n) 62)), (1, .ref (zad (wX D kc ad n) a)), (2, .ref (zad (wX D kc ad n) ws))] ⟨rfl, rfl, rfl, trivial⟩ ?_
  refine j_aload_n C dX1_store_0 rfl rfl ?_
  refine j_aload_n C dX1_store_1 rfl rfl ?_
  refine j_callV0 (T := TX1) (N := 8) C dX1_store_2 (k_X1_makeExact l D kc ad n (by omega) a ha _ ) zy_X1_makeExact mw_18_23 rfl rfl (show 11 ≤ 62 by decide) (show 62 < n by omega) rfl rfl (Nat.le_of_ble_eq_true rfl) ⟨rfl, rfl, Nat.le_of_ble_eq_true rfl, Nat.le_of_ble_eq_true rfl⟩ ?_
  refine j_nmS (fun t1 et1 => ?_)
  refine j_aload_n C dX1_store_5 rfl rfl ?_
  refine j_lconst (v := 0) C dX1_store_6 rfl ?_
  refine j_callS0 C dX1_store_7 (k_J7_fill_d0a16 l D kc ad n (by omega) ws 4 hws ((0 : Int64)) _ (by omega)) zy_J7_fill_d0a16 mw_6_3 rfl rfl (Nat.le_of_ble_eq_true rfl) ⟨rfl, rfl, Nat.le_of_ble_eq_true rfl, Nat.le_of_ble_eq_true rfl⟩ ?_
  refine j_nmS (fun t2 et2 => ?_)
  refine j_iconst (v := nI 0) C dX1_store_10 (by decide +kernel) ?_
  refine j_istore_n C dX1_store_11 rfl (by decide) ?_
  refine j_at [(0, .ref (zad (wX D kc ad n) 62)), (2, .ref (zad (wX D kc ad n) ws)), (3, .int (nI (0)))] ⟨rfl, rfl, rfl, trivial⟩ ?_
  refine z_up (α := zSt) (fun (i3 : Nat) (z4 : zSt) => zJ κ (wX D kc ad n) 12 (zlof [(0, .ref (zad (wX D kc ad n) 62)), (2, .ref (zad (wX D kc ad n) ws)), (3, .int (nI (i3)))]) [] z4) (fX1_store_12 ws) (fun _ _ => True) 10 ?_ (fun _ _ _ _ => trivial) 10 0 t2 (by omega) trivial ?_
  · intro i3 z4 hi3 hIi3 k0
    refine j_iload_n C dX1_store_12 rfl rfl ?_
    refine j_bipush (v := nI 10) C dX1_store_13 (by decide +kernel) ?_
    refine j_icmp_geN (tgt := 97) C dX1_store_15 (by decide) (by omega) (by omega) (fun q5 => False.elim (by omega)) (fun q5 => ?_)
    refine j_bipush (v := nI 26) C dX1_store_18 (by decide +kernel) ?_
    refine j_iload_n C dX1_store_20 rfl rfl ?_
    refine j_imulN C dX1_store_21 ?_
    refine j_bipush (v := nI 6) C dX1_store_22 (by decide +kernel) ?_
    refine j_ishrN C dX1_store_24 (by omega) (by decide +kernel) ?_
    refine j_nmN (fun x6 ex6 => ?_)
    refine j_istore C dX1_store_25 (by decide) ?_
    refine j_bipush (v := nI 26) C dX1_store_27 (by decide +kernel) ?_
    refine j_iload_n C dX1_store_29 rfl rfl ?_
    refine j_imulN C dX1_store_30 ?_
    refine j_bipush (v := nI 63) C dX1_store_31 (by decide +kernel) ?_
    refine j_iandN C 6 dX1_store_33 (by omega) (by decide +kernel) ?_
    refine j_nmN (fun x7 ex7 => ?_)
    refine j_istore C dX1_store_34 (by decide) ?_
    refine j_aload_n C dX1_store_36 rfl rfl ?_
    refine j_iload C dX1_store_37 rfl ?_
    refine j_dup2 C dX1_store_39 rfl rfl ?_
    refine x_lald C dX1_store_40 hws.1 (by omega) ?_
    refine j_aload_n C dX1_store_41 rfl rfl ?_
    refine j_getR C dX1_store_42 (fx_RX1_19 D kc ad n) (show 11 ≤ 62 by decide) (show 62 < n by omega) ?_
    refine j_iload_n C dX1_store_45 rfl rfl ?_
    refine x_lald C dX1_store_46 (⟨⟨rfl, rfl, by omega, by decide⟩, by decide⟩ : wa n 10 41).1 (by omega) ?_
    refine j_iload C dX1_store_47 rfl ?_
    refine j_lshl C dX1_store_49 (by omega) ?_
    refine j_lor C dX1_store_50 ?_
    refine x_last C dX1_store_51 hws (by omega) ?_
    refine j_nmS (fun t8 et8 => ?_)
    refine j_iload C dX1_store_52 rfl ?_
    refine j_bipush (v := nI 26) C dX1_store_54 (by decide +kernel) ?_
    refine j_iaddN C dX1_store_56 ?_
    refine j_bipush (v := nI 64) C dX1_store_57 (by decide +kernel) ?_
    refine j_icmp_leN (tgt := 91) C dX1_store_59 (by decide) (by omega) (by omega) (fun q9 => ?_) (fun q9 => ?_)
    · have hA10 : (fX1_store_12 ws) i3 z4 = fX1_store_a1 t8 := by (try rw [et8]); (try rw [ex7]); (try rw [ex6]); have q9z := q9; (try rw [et8] at q9z); (try rw [ex7] at q9z); (try rw [ex6] at q9z); (try dsimp only at q9z); unfold fX1_store_12; (try dsimp only); rw [if_pos q9z]; (try rfl)
      refine j_iincN (b := 1) C dX1_store_91 rfl (by decide +kernel) (by decide) ?_
      refine j_goto (tgt := 12) C dX1_store_94 (by decide) ?_
      refine j_nmS (fun t11 et11 => ?_)
      refine j_at [(0, .ref (zad (wX D kc ad n) 62)), (2, .ref (zad (wX D kc ad n) ws)), (3, .int (nI (i3 + 1)))] ⟨rfl, rfl, rfl, trivial⟩ ?_
      have eF : (fX1_store_12 ws) i3 z4 = t11 := by rw [hA10]; rw [et11]; unfold fX1_store_a1; first | done | (dsimp only; done) | rfl
      exact Eq.mp (congrArg (fun (z12 : zSt) => zJ κ (wX D kc ad n) 12 (zlof [(0, .ref (zad (wX D kc ad n) 62)), (2, .ref (zad (wX D kc ad n) ws)), (3, .int (nI (i3 + 1)))]) [] z12) eF) (k0 trivial)
    · have hA13 : (fX1_store_12 ws) i3 z4 = fX1_store_a4 ws i3 x6 x7 t8 := by (try rw [et8]); (try rw [ex7]); (try rw [ex6]); have q9z : ¬ (x7 + 26 ≤ 64) := (by omega); (try rw [et8] at q9z); (try rw [ex7] at q9z); (try rw [ex6] at q9z); (try dsimp only at q9z); unfold fX1_store_12; (try dsimp only); rw [if_neg q9z]; (try rfl)
      refine j_iload C dX1_store_62 rfl ?_
      refine j_iconst (v := nI 1) C dX1_store_64 (by decide +kernel) ?_
      refine j_iaddN C dX1_store_65 ?_
      refine j_iconst (v := nI 4) C dX1_store_66 (by decide +kernel) ?_
      refine j_icmp_geN (tgt := 91) C dX1_store_67 (by decide) (by omega) (by omega) (fun q14 => ?_) (fun q14 => ?_)
      · have hA15 : fX1_store_a4 ws i3 x6 x7 t8 = fX1_store_a2 t8 := by have q14z := q14; (try dsimp only at q14z); unfold fX1_store_a4; (try dsimp only); rw [if_pos q14z]; (try rfl)
        refine j_iincN (b := 1) C dX1_store_91 rfl (by decide +kernel) (by decide) ?_
        refine j_goto (tgt := 12) C dX1_store_94 (by decide) ?_
        refine j_nmS (fun t16 et16 => ?_)
        refine j_at [(0, .ref (zad (wX D kc ad n) 62)), (2, .ref (zad (wX D kc ad n) ws)), (3, .int (nI (i3 + 1)))] ⟨rfl, rfl, rfl, trivial⟩ ?_
        have eF : (fX1_store_12 ws) i3 z4 = t16 := by rw [hA13, hA15]; rw [et16]; unfold fX1_store_a2; first | done | (dsimp only; done) | rfl
        exact Eq.mp (congrArg (fun (z17 : zSt) => zJ κ (wX D kc ad n) 12 (zlof [(0, .ref (zad (wX D kc ad n) 62)), (2, .ref (zad (wX D kc ad n) ws)), (3, .int (nI (i3 + 1)))]) [] z17) eF) (k0 trivial)
      · have hA18 : fX1_store_a4 ws i3 x6 x7 t8 = fX1_store_a3 ws i3 x6 x7 t8 := by have q14z : ¬ (4 ≤ x6 + 1) := (by omega); (try dsimp only at q14z); unfold fX1_store_a4; (try dsimp only); rw [if_neg q14z]; (try rfl)
        refine j_aload_n C dX1_store_70 rfl rfl ?_
        refine j_iload C dX1_store_71 rfl ?_
        refine j_iconst (v := nI 1) C dX1_store_73 (by decide +kernel) ?_
        refine j_iaddN C dX1_store_74 ?_
        refine j_dup2 C dX1_store_75 rfl rfl ?_
        refine x_lald C dX1_store_76 hws.1 (by omega) ?_
        refine j_aload_n C dX1_store_77 rfl rfl ?_
        refine j_getR C dX1_store_78 (fx_RX1_19 D kc ad n) (show 11 ≤ 62 by decide) (show 62 < n by omega) ?_
        refine j_iload_n C dX1_store_81 rfl rfl ?_
        refine x_lald C dX1_store_82 (⟨⟨rfl, rfl, by omega, by decide⟩, by decide⟩ : wa n 10 41).1 (by omega) ?_
        refine j_bipush (v := nI 64) C dX1_store_83 (by decide +kernel) ?_
        refine j_iload C dX1_store_85 rfl ?_
        refine j_isubN C dX1_store_87 (by omega) ?_
        refine j_lushr C dX1_store_88 (by omega) ?_
        refine j_lor C dX1_store_89 ?_
        refine x_last C dX1_store_90 hws (by omega) ?_
        refine j_nmS (fun t19 et19 => ?_)
        refine j_iincN (b := 1) C dX1_store_91 rfl (by decide +kernel) (by decide) ?_
        refine j_goto (tgt := 12) C dX1_store_94 (by decide) ?_
        refine j_nmS (fun t20 et20 => ?_)
        refine j_at [(0, .ref (zad (wX D kc ad n) 62)), (2, .ref (zad (wX D kc ad n) ws)), (3, .int (nI (i3 + 1)))] ⟨rfl, rfl, rfl, trivial⟩ ?_
        have eF : (fX1_store_12 ws) i3 z4 = t20 := by rw [hA13, hA18]; rw [et20]; (try rw [et19]); unfold fX1_store_a3; first | done | (dsimp only; done) | rfl
        exact Eq.mp (congrArg (fun (z21 : zSt) => zJ κ (wX D kc ad n) 12 (zlof [(0, .ref (zad (wX D kc ad n) 62)), (2, .ref (zad (wX D kc ad n) ws)), (3, .int (nI (i3 + 1)))]) [] z21) eF) (k0 trivial)
  · intro hIi3
    refine z_nm (P := fun (z4 : zSt) => zJ κ (wX D kc ad n) 12 (zlof [(0, .ref (zad (wX D kc ad n) 62)), (2, .ref (zad (wX D kc ad n) ws)), (3, .int (nI (10)))]) [] z4) (fun u22 eu22 => ?_)
    refine j_iload_n C dX1_store_12 rfl rfl ?_
    refine j_bipush (v := nI 10) C dX1_store_13 (by decide +kernel) ?_
    refine j_icmp_geN (tgt := 97) C dX1_store_15 (by decide) (by omega) (by omega) (fun q23 => ?_) (fun q23 => False.elim (by omega))
    exact j_vret (st := []) C R0 dX1_store_97 ⟨rfl, (by (try rw [eu22]); (try rw [et2]); (try rw [et1]); unfold fX1_store; (try dsimp only); all_goals ((try simp only [zfst_mk, zsnd_mk]); all_goals rfl))⟩
theorem k2_fX1_store_a1 (t8 : zSt) : zk2 (fX1_store_a1 t8) = zk2 t8 := by
  unfold fX1_store_a1
  (try dsimp only)
  all_goals (simp only [zW_2, zL_2]; done)
theorem k2_fX1_store_a2 (t8 : zSt) : zk2 (fX1_store_a2 t8) = zk2 t8 := by
  unfold fX1_store_a2
  (try dsimp only)
  all_goals (simp only [zW_2, zL_2]; done)
theorem k2_fX1_store_a3 (ws : Nat) (i3 : Nat) (x6 : Nat) (x7 : Nat) (t8 : zSt) : zk2 (fX1_store_a3 ws i3 x6 x7 t8) = zk2 t8 := by
  unfold fX1_store_a3
  (try dsimp only)
  all_goals (simp only [zW_2, zL_2]; done)
theorem k2_fX1_store_a4 (ws : Nat) (i3 : Nat) (x6 : Nat) (x7 : Nat) (t8 : zSt) : zk2 (fX1_store_a4 ws i3 x6 x7 t8) = zk2 t8 := by
  unfold fX1_store_a4
  (try dsimp only)
  all_goals (refine ite_keep (fun r : zSt => zk2 r) _ _ ?_ ?_ <;> (simp only [zW_2, zL_2, k2_fX1_store_a2, k2_fX1_store_a3]; done))
theorem k2_fX1_store_12 (ws : Nat) (i3 : Nat) (z4 : zSt) : zk2 (fX1_store_12 ws i3 z4) = zk2 z4 := by
  unfold fX1_store_12
  (try dsimp only)
  all_goals (refine ite_keep (fun r : zSt => zk2 r) _ _ ?_ ?_ <;> (simp only [zW_2, zL_2, k2_fX1_store_a1, k2_fX1_store_a4]; done))
theorem k2it_fX1_store_12 (ws : Nat) (nn ii : Nat) (xx : zSt) : zk2 (ziter (fX1_store_12 ws) ii nn xx) = zk2 xx := ziter_keep (fun x => zk2 x) _ (k2_fX1_store_12 ws) nn ii xx
theorem k2_fX1_store (a : Nat) (ws : Nat) (s0 : zSt) : zk2 (fX1_store a ws s0) = zk2 s0 := by
  unfold fX1_store
  (try dsimp only)
  all_goals (simp only [zW_2, zL_2, k2_fJ7_fill_d0a16, k2_fX1_makeExact, k2_fX1_store_12, k2it_fX1_store_12]; done)
theorem i2_fX1_store (a : Nat) (ws : Nat) (s0 : zSt) (kk9 : Nat) : (fX1_store a ws s0).2.2 kk9 = s0.2.2 kk9 := z2_I (k2_fX1_store a ws s0) kk9
theorem i3_fX1_store (a : Nat) (ws : Nat) (s0 : zSt) (kk9 : Nat) : zi (fX1_store a ws s0) kk9 = zi s0 kk9 := zi_of (k2_fX1_store a ws s0) kk9

def fX1_isNothing_4 (a : Nat) (s0 : zSt) (i2 : Nat) (z3 : Int64) : Int64 :=
    let x5 := z3 ||| (s0.1 a i2)
    x5
def fX1_isNothing_a1 (s0 : zSt) : Bool :=
    false
def fX1_isNothing_a2 (s0 : zSt) : Bool :=
    true
def vX1_isNothing (a : Nat) (s0 : zSt) : Bool :=
    let x1 := (0 : Int64)
    let u8 := ziter (fX1_isNothing_4 a s0) 0 10 x1
    if ¬ lg_cmp u8 ((0 : Int64)) = 0 then
      fX1_isNothing_a1 s0
    else
      fX1_isNothing_a2 s0
set_option maxHeartbeats 4000000 in
set_option maxRecDepth 100000 in
theorem k_X1_isNothing (l : Launch) (D : va_G) (kc : Nat → ClassId) (ad : Nat → Nat) (n : Nat) (hn : 63 ≤ n) (a : Nat) (ha : ra n 10 a) (s0 : zSt) : zM l yX1_isNothing cX1_isNothing 4 (some .boolean) rX1_isNothing (wX D kc ad n) [.ref (zad (wX D kc ad n) a)] s0 (zV1 (.int (bI (vX1_isNothing a s0))) s0) := by
  refine z_of (own := RX1) (by decide +kernel) rfl (Nat.le_of_ble_eq_true rfl) ?_
  intro κ C R0
  refine j_at [(0, .ref (zad (wX D kc ad n) a))] ⟨rfl, trivial⟩ ?_
  refine j_lconst (v := 0) C dX1_isNothing_0 rfl ?_
  refine j_nmL (fun x1 ex1 => ?_)
  refine j_lstore_n C dX1_isNothing_1 rfl (by decide) ?_
  refine j_iconst (v := nI 0) C dX1_isNothing_2 (by decide +kernel) ?_
  refine j_istore_n C dX1_isNothing_3 rfl (by decide) ?_
  refine j_at [(0, .ref (zad (wX D kc ad n) a)), (1, .long x1), (3, .int (nI (0)))] ⟨rfl, rfl, rfl, trivial⟩ ?_
  refine z_up (α := Int64) (fun (i2 : Nat) (z3 : Int64) => zJ κ (wX D kc ad n) 4 (zlof [(0, .ref (zad (wX D kc ad n) a)), (1, .long z3), (3, .int (nI (i2)))]) [] s0) (fX1_isNothing_4 a s0) (fun _ _ => True) 10 ?_ (fun _ _ _ _ => trivial) 10 0 x1 (by omega) trivial ?_
  · intro i2 z3 hi2 hIi2 k0
    refine j_iload_n C dX1_isNothing_4 rfl rfl ?_
    refine j_bipush (v := nI 10) C dX1_isNothing_5 (by decide +kernel) ?_
    refine j_icmp_geN (tgt := 22) C dX1_isNothing_7 (by decide) (by omega) (by omega) (fun q4 => False.elim (by omega)) (fun q4 => ?_)
    refine j_lload_n C dX1_isNothing_10 rfl rfl ?_
    refine j_aload_n C dX1_isNothing_11 rfl rfl ?_
    refine j_iload_n C dX1_isNothing_12 rfl rfl ?_
    refine x_lald C dX1_isNothing_13 ha (by omega) ?_
    refine j_lor C dX1_isNothing_14 ?_
    refine j_nmL (fun x5 ex5 => ?_)
    refine j_lstore_n C dX1_isNothing_15 rfl (by decide) ?_
    refine j_iincN (b := 1) C dX1_isNothing_16 rfl (by decide +kernel) (by decide) ?_
    refine j_goto (tgt := 4) C dX1_isNothing_19 (by decide) ?_
    refine j_at [(0, .ref (zad (wX D kc ad n) a)), (1, .long x5), (3, .int (nI (i2 + 1)))] ⟨rfl, rfl, rfl, trivial⟩ ?_
    have eF : (fX1_isNothing_4 a s0) i2 z3 = x5 := by (try rw [ex5]); unfold fX1_isNothing_4; first | done | (dsimp only; done) | rfl
    exact Eq.mp (congrArg (fun (z7 : Int64) => zJ κ (wX D kc ad n) 4 (zlof [(0, .ref (zad (wX D kc ad n) a)), (1, .long z7), (3, .int (nI (i2 + 1)))]) [] s0) eF) (k0 trivial)
  · intro hIi2
    refine z_nm (P := fun (z3 : Int64) => zJ κ (wX D kc ad n) 4 (zlof [(0, .ref (zad (wX D kc ad n) a)), (1, .long z3), (3, .int (nI (10)))]) [] s0) (fun u8 eu8 => ?_)
    refine j_iload_n C dX1_isNothing_4 rfl rfl ?_
    refine j_bipush (v := nI 10) C dX1_isNothing_5 (by decide +kernel) ?_
    refine j_icmp_geN (tgt := 22) C dX1_isNothing_7 (by decide) (by omega) (by omega) (fun q9 => ?_) (fun q9 => False.elim (by omega))
    refine j_lload_n C dX1_isNothing_22 rfl rfl ?_
    refine j_lconst (v := 0) C dX1_isNothing_23 rfl ?_
    refine j_lcmp C dX1_isNothing_24 ?_
    refine j_if_ne (tgt := 32) C dX1_isNothing_25 (by decide) (fun q10 => ?_) (fun q10 => ?_)
    · have hA11 : vX1_isNothing a s0 = fX1_isNothing_a1 s0 := by (try rw [eu8]); (try rw [ex1]); have q10z := q10; (try rw [eu8] at q10z); (try rw [ex1] at q10z); (try dsimp only at q10z); unfold vX1_isNothing; (try dsimp only); rw [if_pos q10z]; (try rfl)
      refine j_iconst (v := nI 0) C dX1_isNothing_32 (by decide +kernel) ?_
      refine j_top (v := .int (bI false)) (by decide +kernel) ?_
      exact j_zret (st := []) C R0 dX1_isNothing_33 ⟨(by rw [hA11]; unfold fX1_isNothing_a1; (try dsimp only); all_goals ((try simp only [zfst_mk, zsnd_mk]); all_goals rfl)), ((by (try rw [eu8]); (try rw [ex1]); rfl))⟩
    · have hA12 : vX1_isNothing a s0 = fX1_isNothing_a2 s0 := by (try rw [eu8]); (try rw [ex1]); have q10z := q10; (try rw [eu8] at q10z); (try rw [ex1] at q10z); (try dsimp only at q10z); unfold vX1_isNothing; (try dsimp only); rw [if_neg (fun z => z q10z)]; (try rfl)
      refine j_iconst (v := nI 1) C dX1_isNothing_28 (by decide +kernel) ?_
      refine j_goto (tgt := 33) C dX1_isNothing_29 (by decide) ?_
      refine j_top (v := .int (bI true)) (by decide +kernel) ?_
      exact j_zret (st := []) C R0 dX1_isNothing_33 ⟨(by rw [hA12]; unfold fX1_isNothing_a2; (try dsimp only); all_goals ((try simp only [zfst_mk, zsnd_mk]); all_goals rfl)), ((by (try rw [eu8]); (try rw [ex1]); rfl))⟩

def fX1_isZero (a : Nat) (s0 : zSt) : Bool × zSt :=
    let t1 := fX1_makeExact a s0
    (vX1_isNothing 41 t1, t1)
set_option maxHeartbeats 4000000 in
set_option maxRecDepth 100000 in
theorem k_X1_isZero (l : Launch) (D : va_G) (kc : Nat → ClassId) (ad : Nat → Nat) (n : Nat) (hn : 63 ≤ n) (a : Nat) (ha : ra n 10 a) (s0 : zSt) : zM l yX1_isZero cX1_isZero 2 (some .boolean) rX1_isZero (wX D kc ad n) [.ref (zad (wX D kc ad n) 62), .ref (zad (wX D kc ad n) a)] s0 (zV1 (.int (bI (zfst (fX1_isZero a s0)))) (zsnd (fX1_isZero a s0))) := by
  refine z_of (own := RX1) (by decide +kernel) rfl (Nat.le_of_ble_eq_true rfl) ?_
  intro κ C R0
  refine j_at [(0, .ref (zad (wX D kc ad n) 62)), (1, .ref (zad (wX D kc ad n) a))] ⟨rfl, rfl, trivial⟩ ?_
  refine j_aload_n C dX1_isZero_0 rfl rfl ?_
  refine j_aload_n C dX1_isZero_1 rfl rfl ?_
  refine j_callV0 (T := TX1) (N := 8) C dX1_isZero_2 (k_X1_makeExact l D kc ad n (by omega) a ha _ ) zy_X1_makeExact mw_18_23 rfl rfl (show 11 ≤ 62 by decide) (show 62 < n by omega) rfl rfl (Nat.le_of_ble_eq_true rfl) ⟨rfl, rfl, Nat.le_of_ble_eq_true rfl, Nat.le_of_ble_eq_true rfl⟩ ?_
  refine j_nmS (fun t1 et1 => ?_)
  refine j_aload_n C dX1_isZero_5 rfl rfl ?_
  refine j_getR C dX1_isZero_6 (fx_RX1_19 D kc ad n) (show 11 ≤ 62 by decide) (show 62 < n by omega) ?_
  refine j_callS1 C dX1_isZero_9 (k_X1_isNothing l D kc ad n (by omega) 41 (⟨⟨rfl, rfl, by omega, by decide⟩, by decide⟩ : wa n 10 41).1 _ ) zy_X1_isNothing mw_19_8 rfl rfl (Nat.le_of_ble_eq_true rfl) ⟨rfl, rfl, Nat.le_of_ble_eq_true rfl, Nat.le_of_ble_eq_true rfl⟩ ?_
  exact j_zret (st := []) C R0 dX1_isZero_12 ⟨(by (try rw [et1]); unfold fX1_isZero; (try dsimp only); all_goals ((try simp only [zfst_mk, zsnd_mk]); all_goals rfl)), ((by (try rw [et1]); unfold fX1_isZero; (try dsimp only); all_goals ((try simp only [zfst_mk, zsnd_mk]); all_goals rfl)))⟩
theorem k2q_fX1_isZero (a : Nat) (s0 : zSt) : zk2s (fX1_isZero a s0) = zk2 s0 := by
  unfold fX1_isZero
  (try dsimp only)
  all_goals (simp only [zW_2, zL_2, k2_fX1_makeExact, zk2s_mk]; done)
theorem k2_fX1_isZero (a : Nat) (s0 : zSt) : zk2 (zsnd (fX1_isZero a s0)) = zk2 s0 := k2q_fX1_isZero a s0
theorem i2_fX1_isZero (a : Nat) (s0 : zSt) (kk9 : Nat) : (zsnd (fX1_isZero a s0)).2.2 kk9 = s0.2.2 kk9 := z2_I (k2_fX1_isZero a s0) kk9
theorem i3_fX1_isZero (a : Nat) (s0 : zSt) (kk9 : Nat) : zi (zsnd (fX1_isZero a s0)) kk9 = zi s0 kk9 := zi_of (k2_fX1_isZero a s0) kk9

def fX1_areSame (a : Nat) (b : Nat) (s0 : zSt) : Bool × zSt :=
    let t1 := fX1_subtract a b 42 s0
    let t2 := fX1_makeExact 42 t1
    (vX1_isNothing 41 t2, t2)
set_option maxHeartbeats 4000000 in
set_option maxRecDepth 100000 in
theorem k_X1_areSame (l : Launch) (D : va_G) (kc : Nat → ClassId) (ad : Nat → Nat) (n : Nat) (hn : 63 ≤ n) (a : Nat) (ha : ra n 10 a) (b : Nat) (hb : ra n 10 b) (s0 : zSt) : zM l yX1_areSame cX1_areSame 3 (some .boolean) rX1_areSame (wX D kc ad n) [.ref (zad (wX D kc ad n) 62), .ref (zad (wX D kc ad n) a), .ref (zad (wX D kc ad n) b)] s0 (zV1 (.int (bI (zfst (fX1_areSame a b s0)))) (zsnd (fX1_areSame a b s0))) := by
  refine z_of (own := RX1) (by decide +kernel) rfl (Nat.le_of_ble_eq_true rfl) ?_
  intro κ C R0
  refine j_at [(0, .ref (zad (wX D kc ad n) 62)), (1, .ref (zad (wX D kc ad n) a)), (2, .ref (zad (wX D kc ad n) b))] ⟨rfl, rfl, rfl, trivial⟩ ?_
  refine j_aload_n C dX1_areSame_0 rfl rfl ?_
  refine j_aload_n C dX1_areSame_1 rfl rfl ?_
  refine j_aload_n C dX1_areSame_2 rfl rfl ?_
  refine j_aload_n C dX1_areSame_3 rfl rfl ?_
  refine j_getR C dX1_areSame_4 (fx_RX1_22 D kc ad n) (show 11 ≤ 62 by decide) (show 62 < n by omega) ?_
  refine j_callV0 (T := TX1) (N := 8) C dX1_areSame_7 (k_X1_subtract l D kc ad n (by omega) a ha b hb 42 (⟨⟨rfl, rfl, by omega, by decide⟩, by decide⟩ : wa n 10 42) _ ) zy_X1_subtract mw_22_6 rfl rfl (show 11 ≤ 62 by decide) (show 62 < n by omega) rfl rfl (Nat.le_of_ble_eq_true rfl) ⟨rfl, rfl, Nat.le_of_ble_eq_true rfl, Nat.le_of_ble_eq_true rfl⟩ ?_
  refine j_nmS (fun t1 et1 => ?_)
  refine j_aload_n C dX1_areSame_10 rfl rfl ?_
  refine j_aload_n C dX1_areSame_11 rfl rfl ?_
  refine j_getR C dX1_areSame_12 (fx_RX1_22 D kc ad n) (show 11 ≤ 62 by decide) (show 62 < n by omega) ?_
  refine j_callV0 (T := TX1) (N := 8) C dX1_areSame_15 (k_X1_makeExact l D kc ad n (by omega) 42 (⟨⟨rfl, rfl, by omega, by decide⟩, by decide⟩ : wa n 10 42).1 _ ) zy_X1_makeExact mw_18_23 rfl rfl (show 11 ≤ 62 by decide) (show 62 < n by omega) rfl rfl (Nat.le_of_ble_eq_true rfl) ⟨rfl, rfl, Nat.le_of_ble_eq_true rfl, Nat.le_of_ble_eq_true rfl⟩ ?_
  refine j_nmS (fun t2 et2 => ?_)
  refine j_aload_n C dX1_areSame_18 rfl rfl ?_
  refine j_getR C dX1_areSame_19 (fx_RX1_19 D kc ad n) (show 11 ≤ 62 by decide) (show 62 < n by omega) ?_
  refine j_callS1 C dX1_areSame_22 (k_X1_isNothing l D kc ad n (by omega) 41 (⟨⟨rfl, rfl, by omega, by decide⟩, by decide⟩ : wa n 10 41).1 _ ) zy_X1_isNothing mw_19_8 rfl rfl (Nat.le_of_ble_eq_true rfl) ⟨rfl, rfl, Nat.le_of_ble_eq_true rfl, Nat.le_of_ble_eq_true rfl⟩ ?_
  exact j_zret (st := []) C R0 dX1_areSame_25 ⟨(by (try rw [et2]); (try rw [et1]); unfold fX1_areSame; (try dsimp only); all_goals ((try simp only [zfst_mk, zsnd_mk]); all_goals rfl)), ((by (try rw [et2]); (try rw [et1]); unfold fX1_areSame; (try dsimp only); all_goals ((try simp only [zfst_mk, zsnd_mk]); all_goals rfl)))⟩
theorem k2q_fX1_areSame (a : Nat) (b : Nat) (s0 : zSt) : zk2s (fX1_areSame a b s0) = zk2 s0 := by
  unfold fX1_areSame
  (try dsimp only)
  all_goals (simp only [zW_2, zL_2, k2_fX1_makeExact, k2_fX1_subtract, zk2s_mk]; done)
theorem k2_fX1_areSame (a : Nat) (b : Nat) (s0 : zSt) : zk2 (zsnd (fX1_areSame a b s0)) = zk2 s0 := k2q_fX1_areSame a b s0
theorem i2_fX1_areSame (a : Nat) (b : Nat) (s0 : zSt) (kk9 : Nat) : (zsnd (fX1_areSame a b s0)).2.2 kk9 = s0.2.2 kk9 := z2_I (k2_fX1_areSame a b s0) kk9
theorem i3_fX1_areSame (a : Nat) (b : Nat) (s0 : zSt) (kk9 : Nat) : zi (zsnd (fX1_areSame a b s0)) kk9 = zi s0 kk9 := zi_of (k2_fX1_areSame a b s0) kk9

def fX1_isOdd_a1 (t1 : zSt) : Bool × zSt :=
    (false, t1)
def fX1_isOdd_a2 (t1 : zSt) : Bool × zSt :=
    (true, t1)
def fX1_isOdd (a : Nat) (s0 : zSt) : Bool × zSt :=
    let t1 := fX1_makeExact a s0
    if ¬ lg_cmp ((t1.1 41 0) &&& ((1 : Int64))) ((1 : Int64)) = 0 then
      fX1_isOdd_a1 t1
    else
      fX1_isOdd_a2 t1
set_option maxHeartbeats 4000000 in
set_option maxRecDepth 100000 in
theorem k_X1_isOdd (l : Launch) (D : va_G) (kc : Nat → ClassId) (ad : Nat → Nat) (n : Nat) (hn : 63 ≤ n) (a : Nat) (ha : ra n 10 a) (s0 : zSt) : zM l yX1_isOdd cX1_isOdd 2 (some .boolean) rX1_isOdd (wX D kc ad n) [.ref (zad (wX D kc ad n) 62), .ref (zad (wX D kc ad n) a)] s0 (zV1 (.int (bI (zfst (fX1_isOdd a s0)))) (zsnd (fX1_isOdd a s0))) := by
  refine z_of (own := RX1) (by decide +kernel) rfl (Nat.le_of_ble_eq_true rfl) ?_
  intro κ C R0
  refine j_at [(0, .ref (zad (wX D kc ad n) 62)), (1, .ref (zad (wX D kc ad n) a))] ⟨rfl, rfl, trivial⟩ ?_
  refine j_aload_n C dX1_isOdd_0 rfl rfl ?_
  refine j_aload_n C dX1_isOdd_1 rfl rfl ?_
  refine j_callV0 (T := TX1) (N := 8) C dX1_isOdd_2 (k_X1_makeExact l D kc ad n (by omega) a ha _ ) zy_X1_makeExact mw_18_23 rfl rfl (show 11 ≤ 62 by decide) (show 62 < n by omega) rfl rfl (Nat.le_of_ble_eq_true rfl) ⟨rfl, rfl, Nat.le_of_ble_eq_true rfl, Nat.le_of_ble_eq_true rfl⟩ ?_
  refine j_nmS (fun t1 et1 => ?_)
  refine j_aload_n C dX1_isOdd_5 rfl rfl ?_
  refine j_getR C dX1_isOdd_6 (fx_RX1_19 D kc ad n) (show 11 ≤ 62 by decide) (show 62 < n by omega) ?_
  refine j_iconst (v := nI 0) C dX1_isOdd_9 (by decide +kernel) ?_
  refine x_lald C dX1_isOdd_10 (⟨⟨rfl, rfl, by omega, by decide⟩, by decide⟩ : wa n 10 41).1 (by omega) ?_
  refine j_lconst (v := 1) C dX1_isOdd_11 rfl ?_
  refine j_land C dX1_isOdd_12 ?_
  refine j_lconst (v := 1) C dX1_isOdd_13 rfl ?_
  refine j_lcmp C dX1_isOdd_14 ?_
  refine j_if_ne (tgt := 22) C dX1_isOdd_15 (by decide) (fun q2 => ?_) (fun q2 => ?_)
  · have hA3 : fX1_isOdd a s0 = fX1_isOdd_a1 t1 := by (try rw [et1]); have q2z := q2; (try rw [et1] at q2z); (try dsimp only at q2z); unfold fX1_isOdd; (try dsimp only); rw [if_pos q2z]; (try rfl)
    refine j_iconst (v := nI 0) C dX1_isOdd_22 (by decide +kernel) ?_
    refine j_top (v := .int (bI false)) (by decide +kernel) ?_
    exact j_zret (st := []) C R0 dX1_isOdd_23 ⟨(by rw [hA3]; unfold fX1_isOdd_a1; (try dsimp only); all_goals ((try simp only [zfst_mk, zsnd_mk]); all_goals rfl)), ((by rw [hA3]; unfold fX1_isOdd_a1; (try dsimp only); all_goals ((try simp only [zfst_mk, zsnd_mk]); all_goals rfl)))⟩
  · have hA4 : fX1_isOdd a s0 = fX1_isOdd_a2 t1 := by (try rw [et1]); have q2z := q2; (try rw [et1] at q2z); (try dsimp only at q2z); unfold fX1_isOdd; (try dsimp only); rw [if_neg (fun z => z q2z)]; (try rfl)
    refine j_iconst (v := nI 1) C dX1_isOdd_18 (by decide +kernel) ?_
    refine j_goto (tgt := 23) C dX1_isOdd_19 (by decide) ?_
    refine j_top (v := .int (bI true)) (by decide +kernel) ?_
    exact j_zret (st := []) C R0 dX1_isOdd_23 ⟨(by rw [hA4]; unfold fX1_isOdd_a2; (try dsimp only); all_goals ((try simp only [zfst_mk, zsnd_mk]); all_goals rfl)), ((by rw [hA4]; unfold fX1_isOdd_a2; (try dsimp only); all_goals ((try simp only [zfst_mk, zsnd_mk]); all_goals rfl)))⟩
theorem k2q_fX1_isOdd_a1 (t1 : zSt) : zk2s (fX1_isOdd_a1 t1) = zk2 t1 := by
  unfold fX1_isOdd_a1
  (try dsimp only)
  all_goals (simp only [zW_2, zL_2, zk2s_mk]; done)
theorem k2_fX1_isOdd_a1 (t1 : zSt) : zk2 (zsnd (fX1_isOdd_a1 t1)) = zk2 t1 := k2q_fX1_isOdd_a1 t1
theorem k2q_fX1_isOdd_a2 (t1 : zSt) : zk2s (fX1_isOdd_a2 t1) = zk2 t1 := by
  unfold fX1_isOdd_a2
  (try dsimp only)
  all_goals (simp only [zW_2, zL_2, zk2s_mk]; done)
theorem k2_fX1_isOdd_a2 (t1 : zSt) : zk2 (zsnd (fX1_isOdd_a2 t1)) = zk2 t1 := k2q_fX1_isOdd_a2 t1
theorem k2q_fX1_isOdd (a : Nat) (s0 : zSt) : zk2s (fX1_isOdd a s0) = zk2 s0 := by
  unfold fX1_isOdd
  (try dsimp only)
  all_goals (refine ite_keep (fun r : Bool × zSt => zk2s r) _ _ ?_ ?_ <;> (simp only [zW_2, zL_2, k2_fX1_isOdd_a1, k2_fX1_isOdd_a2, k2_fX1_makeExact, k2q_fX1_isOdd_a1, k2q_fX1_isOdd_a2, zk2s_mk]; done))
theorem k2_fX1_isOdd (a : Nat) (s0 : zSt) : zk2 (zsnd (fX1_isOdd a s0)) = zk2 s0 := k2q_fX1_isOdd a s0
theorem i2_fX1_isOdd (a : Nat) (s0 : zSt) (kk9 : Nat) : (zsnd (fX1_isOdd a s0)).2.2 kk9 = s0.2.2 kk9 := z2_I (k2_fX1_isOdd a s0) kk9
theorem i3_fX1_isOdd (a : Nat) (s0 : zSt) (kk9 : Nat) : zi (zsnd (fX1_isOdd a s0)) kk9 = zi s0 kk9 := zi_of (k2_fX1_isOdd a s0) kk9

def fX1_raise_25  (i3 : Nat) (z4 : zSt) : zSt :=
    let t6 := fX1_multiply (45 + (i3 - 1)) (45 + 1) (45 + i3) z4
    t6
def fX1_raise_85 (out : Nat) (i15 : Nat) (z16 : zSt) : zSt :=
    let t18 := fX1_square out out z16
    t18
def fX1_raise_77 (e : Nat) (out : Nat) (i12 : Nat) (z13 : zSt) : zSt :=
    let u21 := ziter (fX1_raise_85 out) 0 4 z13
    let x23 := vX8_nibble e i12 u21
    let t24 := fX1_multiply out (45 + x23) out u21
    t24
def fX1_raise (a : Nat) (e : Nat) (out : Nat) (s0 : zSt) : zSt :=
    let t1 := fX1_become (45 + 0) ((1 : Int64)) s0
    let t2 := fX1_move a (45 + 1) t1
    let u9 := ziter fX1_raise_25 2 14 t2
    let t11 := fX1_become out ((1 : Int64)) u9
    let u27 := zdown (fX1_raise_77 e out) 64 t11
    u27
set_option maxHeartbeats 4000000 in
set_option maxRecDepth 100000 in
theorem k_X1_raise (l : Launch) (D : va_G) (kc : Nat → ClassId) (ad : Nat → Nat) (n : Nat) (hn : 63 ≤ n) (a : Nat) (ha : ra n 10 a) (e : Nat) (he : ra n 4 e) (out : Nat) (hout : wa n 10 out) (s0 : zSt) : zM l yX1_raise cX1_raise 6 none rX1_raise (wX D kc ad n) [.ref (zad (wX D kc ad n) 62), .ref (zad (wX D kc ad n) a), .ref (zad (wX D kc ad n) e), .ref (zad (wX D kc ad n) out)] s0 (zV0 (fX1_raise a e out s0)) := by
  refine z_of (own := RX1) (by decide +kernel) rfl (Nat.le_of_ble_eq_true rfl) ?_
  intro κ C R0
  refine j_at [(0, .ref (zad (wX D kc ad n) 62)), (1, .ref (zad (wX D kc ad n) a)), (2, .ref (zad (wX D kc ad n) e)), (3, .ref (zad (wX D kc ad n) out))] ⟨rfl, rfl, rfl, rfl, trivial⟩ ?_
  refine j_aload_n C dX1_raise_0 rfl rfl ?_
  refine j_aload_n C dX1_raise_1 rfl rfl ?_
  refine j_getR C dX1_raise_2 (fx_RX1_33 D kc ad n) (show 11 ≤ 62 by decide) (show 62 < n by omega) ?_
  refine j_iconst (v := nI 0) C dX1_raise_5 (by decide +kernel) ?_
  refine x_aald61 C dX1_raise_6 (by omega) (by omega) ?_
  refine j_lconst (v := 1) C dX1_raise_7 rfl ?_
  refine j_callV0 (T := TX1) (N := 8) C dX1_raise_8 (k_X1_become l D kc ad n (by omega) (45 + 0) (pw_wa (n := n) 0 (by omega) (by omega)) ((1 : Int64)) _ ) zy_X1_become mw_20_6 rfl rfl (show 11 ≤ 62 by decide) (show 62 < n by omega) rfl rfl (Nat.le_of_ble_eq_true rfl) ⟨rfl, rfl, Nat.le_of_ble_eq_true rfl, Nat.le_of_ble_eq_true rfl⟩ ?_
  refine j_nmS (fun t1 et1 => ?_)
  refine j_aload_n C dX1_raise_11 rfl rfl ?_
  refine j_aload_n C dX1_raise_12 rfl rfl ?_
  refine j_aload_n C dX1_raise_13 rfl rfl ?_
  refine j_getR C dX1_raise_14 (fx_RX1_33 D kc ad n) (show 11 ≤ 62 by decide) (show 62 < n by omega) ?_
  refine j_iconst (v := nI 1) C dX1_raise_17 (by decide +kernel) ?_
  refine x_aald61 C dX1_raise_18 (by omega) (by omega) ?_
  refine j_callV0 (T := TX1) (N := 8) C dX1_raise_19 (k_X1_move l D kc ad n (by omega) a ha (45 + 1) (pw_wa (n := n) 1 (by omega) (by omega)) _ ) zy_X1_move mw_19_3 rfl rfl (show 11 ≤ 62 by decide) (show 62 < n by omega) rfl rfl (Nat.le_of_ble_eq_true rfl) ⟨rfl, rfl, Nat.le_of_ble_eq_true rfl, Nat.le_of_ble_eq_true rfl⟩ ?_
  refine j_nmS (fun t2 et2 => ?_)
  refine j_iconst (v := nI 2) C dX1_raise_22 (by decide +kernel) ?_
  refine j_istore C dX1_raise_23 (by decide) ?_
  refine j_at [(0, .ref (zad (wX D kc ad n) 62)), (2, .ref (zad (wX D kc ad n) e)), (3, .ref (zad (wX D kc ad n) out)), (4, .int (nI (2)))] ⟨rfl, rfl, rfl, rfl, trivial⟩ ?_
  refine z_up (α := zSt) (fun (i3 : Nat) (z4 : zSt) => zJ κ (wX D kc ad n) 25 (zlof [(0, .ref (zad (wX D kc ad n) 62)), (2, .ref (zad (wX D kc ad n) e)), (3, .ref (zad (wX D kc ad n) out)), (4, .int (nI (i3)))]) [] z4) fX1_raise_25 (fun i3 z4 => 2 ≤ i3) 16 ?_ (fun _ _ _ h => by omega) 14 2 t2 (by omega) ((by omega)) ?_
  · intro i3 z4 hi3 hIi3 k0
    refine j_iload C dX1_raise_25 rfl ?_
    refine j_aload_n C dX1_raise_27 rfl rfl ?_
    refine j_getR C dX1_raise_28 (fx_RX1_33 D kc ad n) (show 11 ≤ 62 by decide) (show 62 < n by omega) ?_
    refine x_alen61 C dX1_raise_31 (by omega) ?_
    refine j_icmp_geN (tgt := 67) C dX1_raise_32 (by decide) (by omega) (by omega) (fun q5 => False.elim (by omega)) (fun q5 => ?_)
    refine j_aload_n C dX1_raise_35 rfl rfl ?_
    refine j_aload_n C dX1_raise_36 rfl rfl ?_
    refine j_getR C dX1_raise_37 (fx_RX1_33 D kc ad n) (show 11 ≤ 62 by decide) (show 62 < n by omega) ?_
    refine j_iload C dX1_raise_40 rfl ?_
    refine j_iconst (v := nI 1) C dX1_raise_42 (by decide +kernel) ?_
    refine j_isubN C dX1_raise_43 (by omega) ?_
    refine x_aald61 C dX1_raise_44 (by omega) (by omega) ?_
    refine j_aload_n C dX1_raise_45 rfl rfl ?_
    refine j_getR C dX1_raise_46 (fx_RX1_33 D kc ad n) (show 11 ≤ 62 by decide) (show 62 < n by omega) ?_
    refine j_iconst (v := nI 1) C dX1_raise_49 (by decide +kernel) ?_
    refine x_aald61 C dX1_raise_50 (by omega) (by omega) ?_
    refine j_aload_n C dX1_raise_51 rfl rfl ?_
    refine j_getR C dX1_raise_52 (fx_RX1_33 D kc ad n) (show 11 ≤ 62 by decide) (show 62 < n by omega) ?_
    refine j_iload C dX1_raise_55 rfl ?_
    refine x_aald61 C dX1_raise_57 (by omega) (by omega) ?_
    refine j_callV0 (T := TX1) (N := 8) C dX1_raise_58 (k_X1_multiply l D kc ad n (by omega) (45 + (i3 - 1)) (pw_wa (n := n) (i3 - 1) (by omega) (by omega)).1 (45 + 1) (pw_wa (n := n) 1 (by omega) (by omega)).1 (45 + i3) (pw_wa (n := n) i3 (by omega) (by omega)) _ ) zy_X1_multiply mw_20_7 rfl rfl (show 11 ≤ 62 by decide) (show 62 < n by omega) rfl rfl (Nat.le_of_ble_eq_true rfl) ⟨rfl, rfl, Nat.le_of_ble_eq_true rfl, Nat.le_of_ble_eq_true rfl⟩ ?_
    refine j_nmS (fun t6 et6 => ?_)
    refine j_iincN (b := 1) C dX1_raise_61 rfl (by decide +kernel) (by decide) ?_
    refine j_goto (tgt := 25) C dX1_raise_64 (by decide) ?_
    refine j_nmS (fun t7 et7 => ?_)
    refine j_at [(0, .ref (zad (wX D kc ad n) 62)), (2, .ref (zad (wX D kc ad n) e)), (3, .ref (zad (wX D kc ad n) out)), (4, .int (nI (i3 + 1)))] ⟨rfl, rfl, rfl, rfl, trivial⟩ ?_
    have eF : fX1_raise_25 i3 z4 = t7 := by rw [et7]; (try rw [et6]); unfold fX1_raise_25; first | done | (dsimp only; done) | rfl
    exact Eq.mp (congrArg (fun (z8 : zSt) => zJ κ (wX D kc ad n) 25 (zlof [(0, .ref (zad (wX D kc ad n) 62)), (2, .ref (zad (wX D kc ad n) e)), (3, .ref (zad (wX D kc ad n) out)), (4, .int (nI (i3 + 1)))]) [] z8) eF) (k0 ((by omega)))
  · intro hIi3
    revert hIi3
    refine z_nm (P := fun (z4 : zSt) => (fun i3 z4 => 2 ≤ i3) 16 z4 → zJ κ (wX D kc ad n) 25 (zlof [(0, .ref (zad (wX D kc ad n) 62)), (2, .ref (zad (wX D kc ad n) e)), (3, .ref (zad (wX D kc ad n) out)), (4, .int (nI (16)))]) [] z4) (fun u9 eu9 => ?_)
    intro hIi3
    refine j_iload C dX1_raise_25 rfl ?_
    refine j_aload_n C dX1_raise_27 rfl rfl ?_
    refine j_getR C dX1_raise_28 (fx_RX1_33 D kc ad n) (show 11 ≤ 62 by decide) (show 62 < n by omega) ?_
    refine x_alen61 C dX1_raise_31 (by omega) ?_
    refine j_icmp_geN (tgt := 67) C dX1_raise_32 (by decide) (by omega) (by omega) (fun q10 => ?_) (fun q10 => False.elim (by omega))
    refine j_aload_n C dX1_raise_67 rfl rfl ?_
    refine j_aload_n C dX1_raise_68 rfl rfl ?_
    refine j_lconst (v := 1) C dX1_raise_69 rfl ?_
    refine j_callV0 (T := TX1) (N := 8) C dX1_raise_70 (k_X1_become l D kc ad n (by omega) out hout ((1 : Int64)) _ ) zy_X1_become mw_20_6 rfl rfl (show 11 ≤ 62 by decide) (show 62 < n by omega) rfl rfl (Nat.le_of_ble_eq_true rfl) ⟨rfl, rfl, Nat.le_of_ble_eq_true rfl, Nat.le_of_ble_eq_true rfl⟩ ?_
    refine j_nmS (fun t11 et11 => ?_)
    refine j_bipush (v := nI 63) C dX1_raise_73 (by decide +kernel) ?_
    refine j_istore C dX1_raise_75 (by decide) ?_
    refine j_at [(0, .ref (zad (wX D kc ad n) 62)), (2, .ref (zad (wX D kc ad n) e)), (3, .ref (zad (wX D kc ad n) out)), (4, .int (dI 64))] ⟨rfl, rfl, rfl, congrArg (fun q => some (Value.int q)) (dI_succ _).symm, trivial⟩ ?_
    refine z_dn (α := zSt) (fun (i12 : Nat) (z13 : zSt) => zJ κ (wX D kc ad n) 77 (zlof [(0, .ref (zad (wX D kc ad n) 62)), (2, .ref (zad (wX D kc ad n) e)), (3, .ref (zad (wX D kc ad n) out)), (4, .int (dI i12))]) [] z13) (fX1_raise_77 e out) (fun i12 z13 => i12 ≤ 64) ?_ (fun _ _ h => by omega) 64 t11 (Nat.le_refl _) ?_
    · intro i12 z13 hIi12 k0
      refine j_at [(0, .ref (zad (wX D kc ad n) 62)), (2, .ref (zad (wX D kc ad n) e)), (3, .ref (zad (wX D kc ad n) out)), (4, .int (nI (i12)))] ⟨rfl, rfl, rfl, congrArg (fun q => some (Value.int q)) (dI_succ _), trivial⟩ ?_
      refine j_iload C dX1_raise_77 rfl ?_
      refine j_if_lt (tgt := 126) C dX1_raise_79 (by decide) (fun q14 => False.elim (nI_pos (by omega) q14)) (fun q14 => ?_)
      refine j_iconst (v := nI 0) C dX1_raise_82 (by decide +kernel) ?_
      refine j_istore C dX1_raise_83 (by decide) ?_
      refine j_at [(0, .ref (zad (wX D kc ad n) 62)), (2, .ref (zad (wX D kc ad n) e)), (3, .ref (zad (wX D kc ad n) out)), (4, .int (nI (i12))), (5, .int (nI (0)))] ⟨rfl, rfl, rfl, rfl, rfl, trivial⟩ ?_
      refine z_up (α := zSt) (fun (i15 : Nat) (z16 : zSt) => zJ κ (wX D kc ad n) 85 (zlof [(0, .ref (zad (wX D kc ad n) 62)), (2, .ref (zad (wX D kc ad n) e)), (3, .ref (zad (wX D kc ad n) out)), (4, .int (nI (i12))), (5, .int (nI (i15)))]) [] z16) (fX1_raise_85 out) (fun _ _ => True) 4 ?_ (fun _ _ _ _ => trivial) 4 0 z13 (by omega) trivial ?_
      · intro i15 z16 hi15 hIi15 k0
        refine j_iload C dX1_raise_85 rfl ?_
        refine j_iconst (v := nI 4) C dX1_raise_87 (by decide +kernel) ?_
        refine j_icmp_geN (tgt := 103) C dX1_raise_88 (by decide) (by omega) (by omega) (fun q17 => False.elim (by omega)) (fun q17 => ?_)
        refine j_aload_n C dX1_raise_91 rfl rfl ?_
        refine j_aload_n C dX1_raise_92 rfl rfl ?_
        refine j_aload_n C dX1_raise_93 rfl rfl ?_
        refine j_callV0 (T := TX1) (N := 8) C dX1_raise_94 (k_X1_square l D kc ad n (by omega) out hout.1 out hout _ ) zy_X1_square mw_20_8 rfl rfl (show 11 ≤ 62 by decide) (show 62 < n by omega) rfl rfl (Nat.le_of_ble_eq_true rfl) ⟨rfl, rfl, Nat.le_of_ble_eq_true rfl, Nat.le_of_ble_eq_true rfl⟩ ?_
        refine j_nmS (fun t18 et18 => ?_)
        refine j_iincN (b := 1) C dX1_raise_97 rfl (by decide +kernel) (by decide) ?_
        refine j_goto (tgt := 85) C dX1_raise_100 (by decide) ?_
        refine j_nmS (fun t19 et19 => ?_)
        refine j_at [(0, .ref (zad (wX D kc ad n) 62)), (2, .ref (zad (wX D kc ad n) e)), (3, .ref (zad (wX D kc ad n) out)), (4, .int (nI (i12))), (5, .int (nI (i15 + 1)))] ⟨rfl, rfl, rfl, rfl, rfl, trivial⟩ ?_
        have eF : (fX1_raise_85 out) i15 z16 = t19 := by rw [et19]; (try rw [et18]); unfold fX1_raise_85; first | done | (dsimp only; done) | rfl
        exact Eq.mp (congrArg (fun (z20 : zSt) => zJ κ (wX D kc ad n) 85 (zlof [(0, .ref (zad (wX D kc ad n) 62)), (2, .ref (zad (wX D kc ad n) e)), (3, .ref (zad (wX D kc ad n) out)), (4, .int (nI (i12))), (5, .int (nI (i15 + 1)))]) [] z20) eF) (k0 trivial)
      · intro hIi15
        refine z_nm (P := fun (z16 : zSt) => zJ κ (wX D kc ad n) 85 (zlof [(0, .ref (zad (wX D kc ad n) 62)), (2, .ref (zad (wX D kc ad n) e)), (3, .ref (zad (wX D kc ad n) out)), (4, .int (nI (i12))), (5, .int (nI (4)))]) [] z16) (fun u21 eu21 => ?_)
        refine j_iload C dX1_raise_85 rfl ?_
        refine j_iconst (v := nI 4) C dX1_raise_87 (by decide +kernel) ?_
        refine j_icmp_geN (tgt := 103) C dX1_raise_88 (by decide) (by omega) (by omega) (fun q22 => ?_) (fun q22 => False.elim (by omega))
        refine j_aload_n C dX1_raise_103 rfl rfl ?_
        refine j_aload_n C dX1_raise_104 rfl rfl ?_
        refine j_aload_n C dX1_raise_105 rfl rfl ?_
        refine j_getR C dX1_raise_106 (fx_RX1_33 D kc ad n) (show 11 ≤ 62 by decide) (show 62 < n by omega) ?_
        refine j_aload_n C dX1_raise_109 rfl rfl ?_
        refine j_iload C dX1_raise_110 rfl ?_
        refine j_callS1 C dX1_raise_112 (k_X8_nibble l D kc ad n (by omega) e he i12 (by omega) _ ) zy_X8_nibble mw_20_13 rfl rfl (Nat.le_of_ble_eq_true rfl) ⟨rfl, rfl, Nat.le_of_ble_eq_true rfl, Nat.le_of_ble_eq_true rfl⟩ ?_
        refine j_nmN (fun x23 ex23 => ?_)
        have hx23 : x23 < 16 := by rw [ex23]; exact lt_nibble _ _ _
        refine x_aald61 C dX1_raise_115 (by omega) (by omega) ?_
        refine j_aload_n C dX1_raise_116 rfl rfl ?_
        refine j_callV0 (T := TX1) (N := 8) C dX1_raise_117 (k_X1_multiply l D kc ad n (by omega) out hout.1 (45 + x23) (pw_wa (n := n) x23 (by omega) (by omega)).1 out hout _ ) zy_X1_multiply mw_20_7 rfl rfl (show 11 ≤ 62 by decide) (show 62 < n by omega) rfl rfl (Nat.le_of_ble_eq_true rfl) ⟨rfl, rfl, Nat.le_of_ble_eq_true rfl, Nat.le_of_ble_eq_true rfl⟩ ?_
        refine j_nmS (fun t24 et24 => ?_)
        refine j_iincD C dX1_raise_120 rfl (by decide) ?_
        refine j_goto (tgt := 77) C dX1_raise_123 (by decide) ?_
        refine j_nmS (fun t25 et25 => ?_)
        refine j_at [(0, .ref (zad (wX D kc ad n) 62)), (2, .ref (zad (wX D kc ad n) e)), (3, .ref (zad (wX D kc ad n) out)), (4, .int (dI i12))] ⟨rfl, rfl, rfl, rfl, trivial⟩ ?_
        have eF : (fX1_raise_77 e out) i12 z13 = t25 := by rw [et25]; (try rw [et24]); (try rw [ex23]); (try rw [eu21]); unfold fX1_raise_77; first | done | (dsimp only; done) | rfl
        exact Eq.mp (congrArg (fun (z26 : zSt) => zJ κ (wX D kc ad n) 77 (zlof [(0, .ref (zad (wX D kc ad n) 62)), (2, .ref (zad (wX D kc ad n) e)), (3, .ref (zad (wX D kc ad n) out)), (4, .int (dI i12))]) [] z26) eF) (k0 ((by omega)))
    · intro hIi12
      revert hIi12
      refine z_nm (P := fun (z13 : zSt) => (fun i12 z13 => i12 ≤ 64) 0 z13 → zJ κ (wX D kc ad n) 77 (zlof [(0, .ref (zad (wX D kc ad n) 62)), (2, .ref (zad (wX D kc ad n) e)), (3, .ref (zad (wX D kc ad n) out)), (4, .int (dI 0))]) [] z13) (fun u27 eu27 => ?_)
      intro hIi12
      refine j_iload C dX1_raise_77 rfl ?_
      refine j_if_lt (tgt := 126) C dX1_raise_79 (by decide) (fun q28 => ?_) (fun q28 => False.elim (q28 dI_0))
      exact j_vret (st := []) C R0 dX1_raise_126 ⟨rfl, (by (try rw [eu27]); (try rw [et11]); (try rw [eu9]); (try rw [et2]); (try rw [et1]); unfold fX1_raise; (try dsimp only); all_goals ((try simp only [zfst_mk, zsnd_mk]); all_goals rfl))⟩
theorem k2_fX1_raise_25  (i3 : Nat) (z4 : zSt) : zk2 (fX1_raise_25  i3 z4) = zk2 z4 := by
  unfold fX1_raise_25
  (try dsimp only)
  all_goals (simp only [zW_2, zL_2, k2_fX1_multiply]; done)
theorem k2it_fX1_raise_25  (nn ii : Nat) (xx : zSt) : zk2 (ziter (fX1_raise_25 ) ii nn xx) = zk2 xx := ziter_keep (fun x => zk2 x) _ (k2_fX1_raise_25 ) nn ii xx
theorem k2_fX1_raise_85 (out : Nat) (i15 : Nat) (z16 : zSt) : zk2 (fX1_raise_85 out i15 z16) = zk2 z16 := by
  unfold fX1_raise_85
  (try dsimp only)
  all_goals (simp only [zW_2, zL_2, k2_fX1_square]; done)
theorem k2it_fX1_raise_85 (out : Nat) (nn ii : Nat) (xx : zSt) : zk2 (ziter (fX1_raise_85 out) ii nn xx) = zk2 xx := ziter_keep (fun x => zk2 x) _ (k2_fX1_raise_85 out) nn ii xx
theorem k2_fX1_raise_77 (e : Nat) (out : Nat) (i12 : Nat) (z13 : zSt) : zk2 (fX1_raise_77 e out i12 z13) = zk2 z13 := by
  unfold fX1_raise_77
  (try dsimp only)
  all_goals (simp only [zW_2, zL_2, k2_fX1_multiply, k2_fX1_raise_85, k2it_fX1_raise_85]; done)
theorem k2it_fX1_raise_77 (e : Nat) (out : Nat) (nn : Nat) (xx : zSt) : zk2 (zdown (fX1_raise_77 e out) nn xx) = zk2 xx := zdown_keep (fun x => zk2 x) _ (k2_fX1_raise_77 e out) nn xx
theorem k2_fX1_raise (a : Nat) (e : Nat) (out : Nat) (s0 : zSt) : zk2 (fX1_raise a e out s0) = zk2 s0 := by
  unfold fX1_raise
  (try dsimp only)
  all_goals (simp only [zW_2, zL_2, k2_fX1_become, k2_fX1_move, k2_fX1_raise_25, k2_fX1_raise_77, k2it_fX1_raise_25, k2it_fX1_raise_77]; done)
theorem i2_fX1_raise (a : Nat) (e : Nat) (out : Nat) (s0 : zSt) (kk9 : Nat) : (fX1_raise a e out s0).2.2 kk9 = s0.2.2 kk9 := z2_I (k2_fX1_raise a e out s0) kk9
theorem i3_fX1_raise (a : Nat) (e : Nat) (out : Nat) (s0 : zSt) (kk9 : Nat) : zi (fX1_raise a e out s0) kk9 = zi s0 kk9 := zi_of (k2_fX1_raise a e out s0) kk9

def fX1_invert (a : Nat) (out : Nat) (s0 : zSt) : zSt :=
    let t1 := fX1_raise a 1 out s0
    t1
set_option maxHeartbeats 4000000 in
set_option maxRecDepth 100000 in
theorem k_X1_invert (l : Launch) (D : va_G) (kc : Nat → ClassId) (ad : Nat → Nat) (n : Nat) (hn : 63 ≤ n) (a : Nat) (ha : ra n 10 a) (out : Nat) (hout : wa n 10 out) (s0 : zSt) : zM l yX1_invert cX1_invert 3 none rX1_invert (wX D kc ad n) [.ref (zad (wX D kc ad n) 62), .ref (zad (wX D kc ad n) a), .ref (zad (wX D kc ad n) out)] s0 (zV0 (fX1_invert a out s0)) := by
  refine z_of (own := RX1) (by decide +kernel) rfl (Nat.le_of_ble_eq_true rfl) ?_
  intro κ C R0
  refine j_at [(0, .ref (zad (wX D kc ad n) 62)), (1, .ref (zad (wX D kc ad n) a)), (2, .ref (zad (wX D kc ad n) out))] ⟨rfl, rfl, rfl, trivial⟩ ?_
  refine j_aload_n C dX1_invert_0 rfl rfl ?_
  refine j_aload_n C dX1_invert_1 rfl rfl ?_
  refine j_gets (id := 1) C dX1_invert_2 (show 1 < 11 by decide) rfl mw_20_1 ?_
  refine j_aload_n C dX1_invert_5 rfl rfl ?_
  refine j_callV0 (T := TX1) (N := 8) C dX1_invert_6 (k_X1_raise l D kc ad n (by omega) a ha 1 (⟨rfl, rfl, by omega, by decide⟩ : ra n 4 1) out hout _ ) zy_X1_raise mw_20_2 rfl rfl (show 11 ≤ 62 by decide) (show 62 < n by omega) rfl rfl (Nat.le_of_ble_eq_true rfl) ⟨rfl, rfl, Nat.le_of_ble_eq_true rfl, Nat.le_of_ble_eq_true rfl⟩ ?_
  refine j_nmS (fun t1 et1 => ?_)
  exact j_vret (st := []) C R0 dX1_invert_9 ⟨rfl, (by (try rw [et1]); unfold fX1_invert; (try dsimp only); all_goals ((try simp only [zfst_mk, zsnd_mk]); all_goals rfl))⟩
theorem k2_fX1_invert (a : Nat) (out : Nat) (s0 : zSt) : zk2 (fX1_invert a out s0) = zk2 s0 := by
  unfold fX1_invert
  (try dsimp only)
  all_goals (simp only [zW_2, zL_2, k2_fX1_raise]; done)
theorem i2_fX1_invert (a : Nat) (out : Nat) (s0 : zSt) (kk9 : Nat) : (fX1_invert a out s0).2.2 kk9 = s0.2.2 kk9 := z2_I (k2_fX1_invert a out s0) kk9
theorem i3_fX1_invert (a : Nat) (out : Nat) (s0 : zSt) (kk9 : Nat) : zi (fX1_invert a out s0) kk9 = zi s0 kk9 := zi_of (k2_fX1_invert a out s0) kk9

def fX1_findRoot_a1 (out : Nat) (t9 : zSt) : Bool × zSt :=
    let t12 := fX1_move 43 out t9
    (true, t12)
def fX1_findRoot_a2 (out : Nat) (t9 : zSt) : Bool × zSt :=
    let t14 := fX1_negate 43 43 t9
    let t15 := fX1_move 43 out t14
    (true, t15)
def fX1_findRoot_a3 (out : Nat) (t6 : zSt) : Bool × zSt :=
    let t9 := zsnd (fX1_isOdd 43 t6)
    bif (zfst (fX1_isOdd 43 t6)) then
      fX1_findRoot_a2 out t9
    else
      fX1_findRoot_a1 out t9
def fX1_findRoot_a4 (t6 : zSt) : Bool × zSt :=
    (false, t6)
def fX1_findRoot_a5 (a : Nat) (out : Nat) (t3 : zSt) : Bool × zSt :=
    let t6 := zsnd (fX1_areSame 44 a t3)
    bif (zfst (fX1_areSame 44 a t3)) then
      fX1_findRoot_a3 out t6
    else
      fX1_findRoot_a4 t6
def fX1_findRoot_a6 (out : Nat) (t23 : zSt) : Bool × zSt :=
    let t26 := fX1_move 43 out t23
    (true, t26)
def fX1_findRoot_a7 (out : Nat) (t23 : zSt) : Bool × zSt :=
    let t28 := fX1_negate 43 43 t23
    let t29 := fX1_move 43 out t28
    (true, t29)
def fX1_findRoot_a8 (out : Nat) (t20 : zSt) : Bool × zSt :=
    let t23 := zsnd (fX1_isOdd 43 t20)
    bif (zfst (fX1_isOdd 43 t20)) then
      fX1_findRoot_a7 out t23
    else
      fX1_findRoot_a6 out t23
def fX1_findRoot_a9 (t20 : zSt) : Bool × zSt :=
    (false, t20)
def fX1_findRoot_a10 (a : Nat) (out : Nat) (t3 : zSt) : Bool × zSt :=
    let t18 := fX1_multiply 43 39 43 t3
    let t19 := fX1_square 43 44 t18
    let t20 := zsnd (fX1_areSame 44 a t19)
    bif (zfst (fX1_areSame 44 a t19)) then
      fX1_findRoot_a8 out t20
    else
      fX1_findRoot_a9 t20
def fX1_findRoot (a : Nat) (out : Nat) (s0 : zSt) : Bool × zSt :=
    let t1 := fX1_raise a 2 43 s0
    let t2 := fX1_square 43 44 t1
    let t3 := zsnd (fX1_areSame 44 a t2)
    bif (zfst (fX1_areSame 44 a t2)) then
      fX1_findRoot_a5 a out t3
    else
      fX1_findRoot_a10 a out t3
set_option maxHeartbeats 4000000 in
set_option maxRecDepth 100000 in
theorem k_X1_findRoot (l : Launch) (D : va_G) (kc : Nat → ClassId) (ad : Nat → Nat) (n : Nat) (hn : 63 ≤ n) (a : Nat) (ha : ra n 10 a) (out : Nat) (hout : wa n 10 out) (s0 : zSt) : zM l yX1_findRoot cX1_findRoot 3 (some .boolean) rX1_findRoot (wX D kc ad n) [.ref (zad (wX D kc ad n) 62), .ref (zad (wX D kc ad n) a), .ref (zad (wX D kc ad n) out)] s0 (zV1 (.int (bI (zfst (fX1_findRoot a out s0)))) (zsnd (fX1_findRoot a out s0))) := by
  refine z_of (own := RX1) (by decide +kernel) rfl (Nat.le_of_ble_eq_true rfl) ?_
  intro κ C R0
  refine j_at [(0, .ref (zad (wX D kc ad n) 62)), (1, .ref (zad (wX D kc ad n) a)), (2, .ref (zad (wX D kc ad n) out))] ⟨rfl, rfl, rfl, trivial⟩ ?_
  refine j_aload_n C dX1_findRoot_0 rfl rfl ?_
  refine j_aload_n C dX1_findRoot_1 rfl rfl ?_
  refine j_gets (id := 2) C dX1_findRoot_2 (show 2 < 11 by decide) rfl mw_22_1 ?_
  refine j_aload_n C dX1_findRoot_5 rfl rfl ?_
  refine j_getR C dX1_findRoot_6 (fx_RX1_25 D kc ad n) (show 11 ≤ 62 by decide) (show 62 < n by omega) ?_
  refine j_callV0 (T := TX1) (N := 8) C dX1_findRoot_9 (k_X1_raise l D kc ad n (by omega) a ha 2 (⟨rfl, rfl, by omega, by decide⟩ : ra n 4 2) 43 (⟨⟨rfl, rfl, by omega, by decide⟩, by decide⟩ : wa n 10 43) _ ) zy_X1_raise mw_20_2 rfl rfl (show 11 ≤ 62 by decide) (show 62 < n by omega) rfl rfl (Nat.le_of_ble_eq_true rfl) ⟨rfl, rfl, Nat.le_of_ble_eq_true rfl, Nat.le_of_ble_eq_true rfl⟩ ?_
  refine j_nmS (fun t1 et1 => ?_)
  refine j_aload_n C dX1_findRoot_12 rfl rfl ?_
  refine j_aload_n C dX1_findRoot_13 rfl rfl ?_
  refine j_getR C dX1_findRoot_14 (fx_RX1_25 D kc ad n) (show 11 ≤ 62 by decide) (show 62 < n by omega) ?_
  refine j_aload_n C dX1_findRoot_17 rfl rfl ?_
  refine j_getR C dX1_findRoot_18 (fx_RX1_28 D kc ad n) (show 11 ≤ 62 by decide) (show 62 < n by omega) ?_
  refine j_callV0 (T := TX1) (N := 8) C dX1_findRoot_21 (k_X1_square l D kc ad n (by omega) 43 (⟨⟨rfl, rfl, by omega, by decide⟩, by decide⟩ : wa n 10 43).1 44 (⟨⟨rfl, rfl, by omega, by decide⟩, by decide⟩ : wa n 10 44) _ ) zy_X1_square mw_20_8 rfl rfl (show 11 ≤ 62 by decide) (show 62 < n by omega) rfl rfl (Nat.le_of_ble_eq_true rfl) ⟨rfl, rfl, Nat.le_of_ble_eq_true rfl, Nat.le_of_ble_eq_true rfl⟩ ?_
  refine j_nmS (fun t2 et2 => ?_)
  refine j_aload_n C dX1_findRoot_24 rfl rfl ?_
  refine j_aload_n C dX1_findRoot_25 rfl rfl ?_
  refine j_getR C dX1_findRoot_26 (fx_RX1_28 D kc ad n) (show 11 ≤ 62 by decide) (show 62 < n by omega) ?_
  refine j_aload_n C dX1_findRoot_29 rfl rfl ?_
  refine j_callV1 (T := TX1) (N := 8) C dX1_findRoot_30 (k_X1_areSame l D kc ad n (by omega) 44 (⟨⟨rfl, rfl, by omega, by decide⟩, by decide⟩ : wa n 10 44).1 a ha _ ) zy_X1_areSame mw_22_2 rfl rfl (show 11 ≤ 62 by decide) (show 62 < n by omega) rfl rfl (Nat.le_of_ble_eq_true rfl) ⟨rfl, rfl, Nat.le_of_ble_eq_true rfl, Nat.le_of_ble_eq_true rfl⟩ ?_
  refine j_nmS (fun t3 et3 => ?_)
  refine j_if_neB (tgt := 64) C dX1_findRoot_33 (by decide) (fun q4 => ?_) (fun q4 => ?_)
  · have hA5 : fX1_findRoot a out s0 = fX1_findRoot_a5 a out t3 := by (try rw [et3]); (try rw [et2]); (try rw [et1]); have q4z := q4; (try rw [et3] at q4z); (try rw [et2] at q4z); (try rw [et1] at q4z); (try dsimp only at q4z); unfold fX1_findRoot; (try dsimp only); rw [q4z, cond_true]; (try rfl)
    refine j_aload_n C dX1_findRoot_64 rfl rfl ?_
    refine j_aload_n C dX1_findRoot_65 rfl rfl ?_
    refine j_getR C dX1_findRoot_66 (fx_RX1_28 D kc ad n) (show 11 ≤ 62 by decide) (show 62 < n by omega) ?_
    refine j_aload_n C dX1_findRoot_69 rfl rfl ?_
    refine j_callV1 (T := TX1) (N := 8) C dX1_findRoot_70 (k_X1_areSame l D kc ad n (by omega) 44 (⟨⟨rfl, rfl, by omega, by decide⟩, by decide⟩ : wa n 10 44).1 a ha _ ) zy_X1_areSame mw_22_2 rfl rfl (show 11 ≤ 62 by decide) (show 62 < n by omega) rfl rfl (Nat.le_of_ble_eq_true rfl) ⟨rfl, rfl, Nat.le_of_ble_eq_true rfl, Nat.le_of_ble_eq_true rfl⟩ ?_
    refine j_nmS (fun t6 et6 => ?_)
    refine j_if_neB (tgt := 78) C dX1_findRoot_73 (by decide) (fun q7 => ?_) (fun q7 => ?_)
    · have hA8 : fX1_findRoot_a5 a out t3 = fX1_findRoot_a3 out t6 := by (try rw [et6]); have q7z := q7; (try rw [et6] at q7z); (try dsimp only at q7z); unfold fX1_findRoot_a5; (try dsimp only); rw [q7z, cond_true]; (try rfl)
      refine j_aload_n C dX1_findRoot_78 rfl rfl ?_
      refine j_aload_n C dX1_findRoot_79 rfl rfl ?_
      refine j_getR C dX1_findRoot_80 (fx_RX1_25 D kc ad n) (show 11 ≤ 62 by decide) (show 62 < n by omega) ?_
      refine j_callV1 (T := TX1) (N := 8) C dX1_findRoot_83 (k_X1_isOdd l D kc ad n (by omega) 43 (⟨⟨rfl, rfl, by omega, by decide⟩, by decide⟩ : wa n 10 43).1 _ ) zy_X1_isOdd mw_22_7 rfl rfl (show 11 ≤ 62 by decide) (show 62 < n by omega) rfl rfl (Nat.le_of_ble_eq_true rfl) ⟨rfl, rfl, Nat.le_of_ble_eq_true rfl, Nat.le_of_ble_eq_true rfl⟩ ?_
      refine j_nmS (fun t9 et9 => ?_)
      refine j_if_eqB (tgt := 101) C dX1_findRoot_86 (by decide) (fun q10 => ?_) (fun q10 => ?_)
      · have hA11 : fX1_findRoot_a3 out t6 = fX1_findRoot_a1 out t9 := by (try rw [et9]); have q10z := q10; (try rw [et9] at q10z); (try dsimp only at q10z); unfold fX1_findRoot_a3; (try dsimp only); rw [q10z, cond_false]; (try rfl)
        refine j_aload_n C dX1_findRoot_101 rfl rfl ?_
        refine j_aload_n C dX1_findRoot_102 rfl rfl ?_
        refine j_getR C dX1_findRoot_103 (fx_RX1_25 D kc ad n) (show 11 ≤ 62 by decide) (show 62 < n by omega) ?_
        refine j_aload_n C dX1_findRoot_106 rfl rfl ?_
        refine j_callV0 (T := TX1) (N := 8) C dX1_findRoot_107 (k_X1_move l D kc ad n (by omega) 43 (⟨⟨rfl, rfl, by omega, by decide⟩, by decide⟩ : wa n 10 43).1 out hout _ ) zy_X1_move mw_19_3 rfl rfl (show 11 ≤ 62 by decide) (show 62 < n by omega) rfl rfl (Nat.le_of_ble_eq_true rfl) ⟨rfl, rfl, Nat.le_of_ble_eq_true rfl, Nat.le_of_ble_eq_true rfl⟩ ?_
        refine j_nmS (fun t12 et12 => ?_)
        refine j_iconst (v := nI 1) C dX1_findRoot_110 (by decide +kernel) ?_
        refine j_top (v := .int (bI true)) (by decide +kernel) ?_
        exact j_zret (st := []) C R0 dX1_findRoot_111 ⟨(by rw [hA5, hA8, hA11]; (try rw [et12]); unfold fX1_findRoot_a1; (try dsimp only); all_goals ((try simp only [zfst_mk, zsnd_mk]); all_goals rfl)), ((by rw [hA5, hA8, hA11]; (try rw [et12]); unfold fX1_findRoot_a1; (try dsimp only); all_goals ((try simp only [zfst_mk, zsnd_mk]); all_goals rfl)))⟩
      · have hA13 : fX1_findRoot_a3 out t6 = fX1_findRoot_a2 out t9 := by (try rw [et9]); have q10z := q10; (try rw [et9] at q10z); (try dsimp only at q10z); unfold fX1_findRoot_a3; (try dsimp only); rw [q10z, cond_true]; (try rfl)
        refine j_aload_n C dX1_findRoot_89 rfl rfl ?_
        refine j_aload_n C dX1_findRoot_90 rfl rfl ?_
        refine j_getR C dX1_findRoot_91 (fx_RX1_25 D kc ad n) (show 11 ≤ 62 by decide) (show 62 < n by omega) ?_
        refine j_aload_n C dX1_findRoot_94 rfl rfl ?_
        refine j_getR C dX1_findRoot_95 (fx_RX1_25 D kc ad n) (show 11 ≤ 62 by decide) (show 62 < n by omega) ?_
        refine j_callV0 (T := TX1) (N := 8) C dX1_findRoot_98 (k_X1_negate l D kc ad n (by omega) 43 (⟨⟨rfl, rfl, by omega, by decide⟩, by decide⟩ : wa n 10 43).1 43 (⟨⟨rfl, rfl, by omega, by decide⟩, by decide⟩ : wa n 10 43) _ ) zy_X1_negate mw_22_11 rfl rfl (show 11 ≤ 62 by decide) (show 62 < n by omega) rfl rfl (Nat.le_of_ble_eq_true rfl) ⟨rfl, rfl, Nat.le_of_ble_eq_true rfl, Nat.le_of_ble_eq_true rfl⟩ ?_
        refine j_nmS (fun t14 et14 => ?_)
        refine j_aload_n C dX1_findRoot_101 rfl rfl ?_
        refine j_aload_n C dX1_findRoot_102 rfl rfl ?_
        refine j_getR C dX1_findRoot_103 (fx_RX1_25 D kc ad n) (show 11 ≤ 62 by decide) (show 62 < n by omega) ?_
        refine j_aload_n C dX1_findRoot_106 rfl rfl ?_
        refine j_callV0 (T := TX1) (N := 8) C dX1_findRoot_107 (k_X1_move l D kc ad n (by omega) 43 (⟨⟨rfl, rfl, by omega, by decide⟩, by decide⟩ : wa n 10 43).1 out hout _ ) zy_X1_move mw_19_3 rfl rfl (show 11 ≤ 62 by decide) (show 62 < n by omega) rfl rfl (Nat.le_of_ble_eq_true rfl) ⟨rfl, rfl, Nat.le_of_ble_eq_true rfl, Nat.le_of_ble_eq_true rfl⟩ ?_
        refine j_nmS (fun t15 et15 => ?_)
        refine j_iconst (v := nI 1) C dX1_findRoot_110 (by decide +kernel) ?_
        refine j_top (v := .int (bI true)) (by decide +kernel) ?_
        exact j_zret (st := []) C R0 dX1_findRoot_111 ⟨(by rw [hA5, hA8, hA13]; (try rw [et15]); (try rw [et14]); unfold fX1_findRoot_a2; (try dsimp only); all_goals ((try simp only [zfst_mk, zsnd_mk]); all_goals rfl)), ((by rw [hA5, hA8, hA13]; (try rw [et15]); (try rw [et14]); unfold fX1_findRoot_a2; (try dsimp only); all_goals ((try simp only [zfst_mk, zsnd_mk]); all_goals rfl)))⟩
    · have hA16 : fX1_findRoot_a5 a out t3 = fX1_findRoot_a4 t6 := by (try rw [et6]); have q7z := q7; (try rw [et6] at q7z); (try dsimp only at q7z); unfold fX1_findRoot_a5; (try dsimp only); rw [q7z, cond_false]; (try rfl)
      refine j_iconst (v := nI 0) C dX1_findRoot_76 (by decide +kernel) ?_
      refine j_top (v := .int (bI false)) (by decide +kernel) ?_
      exact j_zret (st := []) C R0 dX1_findRoot_77 ⟨(by rw [hA5, hA16]; unfold fX1_findRoot_a4; (try dsimp only); all_goals ((try simp only [zfst_mk, zsnd_mk]); all_goals rfl)), ((by rw [hA5, hA16]; unfold fX1_findRoot_a4; (try dsimp only); all_goals ((try simp only [zfst_mk, zsnd_mk]); all_goals rfl)))⟩
  · have hA17 : fX1_findRoot a out s0 = fX1_findRoot_a10 a out t3 := by (try rw [et3]); (try rw [et2]); (try rw [et1]); have q4z := q4; (try rw [et3] at q4z); (try rw [et2] at q4z); (try rw [et1] at q4z); (try dsimp only at q4z); unfold fX1_findRoot; (try dsimp only); rw [q4z, cond_false]; (try rfl)
    refine j_aload_n C dX1_findRoot_36 rfl rfl ?_
    refine j_aload_n C dX1_findRoot_37 rfl rfl ?_
    refine j_getR C dX1_findRoot_38 (fx_RX1_25 D kc ad n) (show 11 ≤ 62 by decide) (show 62 < n by omega) ?_
    refine j_aload_n C dX1_findRoot_41 rfl rfl ?_
    refine j_getR C dX1_findRoot_42 (fx_RX1_13 D kc ad n) (show 11 ≤ 62 by decide) (show 62 < n by omega) ?_
    refine j_aload_n C dX1_findRoot_45 rfl rfl ?_
    refine j_getR C dX1_findRoot_46 (fx_RX1_25 D kc ad n) (show 11 ≤ 62 by decide) (show 62 < n by omega) ?_
    refine j_callV0 (T := TX1) (N := 8) C dX1_findRoot_49 (k_X1_multiply l D kc ad n (by omega) 43 (⟨⟨rfl, rfl, by omega, by decide⟩, by decide⟩ : wa n 10 43).1 39 (⟨⟨rfl, rfl, by omega, by decide⟩, by decide⟩ : wa n 10 39).1 43 (⟨⟨rfl, rfl, by omega, by decide⟩, by decide⟩ : wa n 10 43) _ ) zy_X1_multiply mw_20_7 rfl rfl (show 11 ≤ 62 by decide) (show 62 < n by omega) rfl rfl (Nat.le_of_ble_eq_true rfl) ⟨rfl, rfl, Nat.le_of_ble_eq_true rfl, Nat.le_of_ble_eq_true rfl⟩ ?_
    refine j_nmS (fun t18 et18 => ?_)
    refine j_aload_n C dX1_findRoot_52 rfl rfl ?_
    refine j_aload_n C dX1_findRoot_53 rfl rfl ?_
    refine j_getR C dX1_findRoot_54 (fx_RX1_25 D kc ad n) (show 11 ≤ 62 by decide) (show 62 < n by omega) ?_
    refine j_aload_n C dX1_findRoot_57 rfl rfl ?_
    refine j_getR C dX1_findRoot_58 (fx_RX1_28 D kc ad n) (show 11 ≤ 62 by decide) (show 62 < n by omega) ?_
    refine j_callV0 (T := TX1) (N := 8) C dX1_findRoot_61 (k_X1_square l D kc ad n (by omega) 43 (⟨⟨rfl, rfl, by omega, by decide⟩, by decide⟩ : wa n 10 43).1 44 (⟨⟨rfl, rfl, by omega, by decide⟩, by decide⟩ : wa n 10 44) _ ) zy_X1_square mw_20_8 rfl rfl (show 11 ≤ 62 by decide) (show 62 < n by omega) rfl rfl (Nat.le_of_ble_eq_true rfl) ⟨rfl, rfl, Nat.le_of_ble_eq_true rfl, Nat.le_of_ble_eq_true rfl⟩ ?_
    refine j_nmS (fun t19 et19 => ?_)
    refine j_aload_n C dX1_findRoot_64 rfl rfl ?_
    refine j_aload_n C dX1_findRoot_65 rfl rfl ?_
    refine j_getR C dX1_findRoot_66 (fx_RX1_28 D kc ad n) (show 11 ≤ 62 by decide) (show 62 < n by omega) ?_
    refine j_aload_n C dX1_findRoot_69 rfl rfl ?_
    refine j_callV1 (T := TX1) (N := 8) C dX1_findRoot_70 (k_X1_areSame l D kc ad n (by omega) 44 (⟨⟨rfl, rfl, by omega, by decide⟩, by decide⟩ : wa n 10 44).1 a ha _ ) zy_X1_areSame mw_22_2 rfl rfl (show 11 ≤ 62 by decide) (show 62 < n by omega) rfl rfl (Nat.le_of_ble_eq_true rfl) ⟨rfl, rfl, Nat.le_of_ble_eq_true rfl, Nat.le_of_ble_eq_true rfl⟩ ?_
    refine j_nmS (fun t20 et20 => ?_)
    refine j_if_neB (tgt := 78) C dX1_findRoot_73 (by decide) (fun q21 => ?_) (fun q21 => ?_)
    · have hA22 : fX1_findRoot_a10 a out t3 = fX1_findRoot_a8 out t20 := by (try rw [et20]); (try rw [et19]); (try rw [et18]); have q21z := q21; (try rw [et20] at q21z); (try rw [et19] at q21z); (try rw [et18] at q21z); (try dsimp only at q21z); unfold fX1_findRoot_a10; (try dsimp only); rw [q21z, cond_true]; (try rfl)
      refine j_aload_n C dX1_findRoot_78 rfl rfl ?_
      refine j_aload_n C dX1_findRoot_79 rfl rfl ?_
      refine j_getR C dX1_findRoot_80 (fx_RX1_25 D kc ad n) (show 11 ≤ 62 by decide) (show 62 < n by omega) ?_
      refine j_callV1 (T := TX1) (N := 8) C dX1_findRoot_83 (k_X1_isOdd l D kc ad n (by omega) 43 (⟨⟨rfl, rfl, by omega, by decide⟩, by decide⟩ : wa n 10 43).1 _ ) zy_X1_isOdd mw_22_7 rfl rfl (show 11 ≤ 62 by decide) (show 62 < n by omega) rfl rfl (Nat.le_of_ble_eq_true rfl) ⟨rfl, rfl, Nat.le_of_ble_eq_true rfl, Nat.le_of_ble_eq_true rfl⟩ ?_
      refine j_nmS (fun t23 et23 => ?_)
      refine j_if_eqB (tgt := 101) C dX1_findRoot_86 (by decide) (fun q24 => ?_) (fun q24 => ?_)
      · have hA25 : fX1_findRoot_a8 out t20 = fX1_findRoot_a6 out t23 := by (try rw [et23]); have q24z := q24; (try rw [et23] at q24z); (try dsimp only at q24z); unfold fX1_findRoot_a8; (try dsimp only); rw [q24z, cond_false]; (try rfl)
        refine j_aload_n C dX1_findRoot_101 rfl rfl ?_
        refine j_aload_n C dX1_findRoot_102 rfl rfl ?_
        refine j_getR C dX1_findRoot_103 (fx_RX1_25 D kc ad n) (show 11 ≤ 62 by decide) (show 62 < n by omega) ?_
        refine j_aload_n C dX1_findRoot_106 rfl rfl ?_
        refine j_callV0 (T := TX1) (N := 8) C dX1_findRoot_107 (k_X1_move l D kc ad n (by omega) 43 (⟨⟨rfl, rfl, by omega, by decide⟩, by decide⟩ : wa n 10 43).1 out hout _ ) zy_X1_move mw_19_3 rfl rfl (show 11 ≤ 62 by decide) (show 62 < n by omega) rfl rfl (Nat.le_of_ble_eq_true rfl) ⟨rfl, rfl, Nat.le_of_ble_eq_true rfl, Nat.le_of_ble_eq_true rfl⟩ ?_
        refine j_nmS (fun t26 et26 => ?_)
        refine j_iconst (v := nI 1) C dX1_findRoot_110 (by decide +kernel) ?_
        refine j_top (v := .int (bI true)) (by decide +kernel) ?_
        exact j_zret (st := []) C R0 dX1_findRoot_111 ⟨(by rw [hA17, hA22, hA25]; (try rw [et26]); unfold fX1_findRoot_a6; (try dsimp only); all_goals ((try simp only [zfst_mk, zsnd_mk]); all_goals rfl)), ((by rw [hA17, hA22, hA25]; (try rw [et26]); unfold fX1_findRoot_a6; (try dsimp only); all_goals ((try simp only [zfst_mk, zsnd_mk]); all_goals rfl)))⟩
      · have hA27 : fX1_findRoot_a8 out t20 = fX1_findRoot_a7 out t23 := by (try rw [et23]); have q24z := q24; (try rw [et23] at q24z); (try dsimp only at q24z); unfold fX1_findRoot_a8; (try dsimp only); rw [q24z, cond_true]; (try rfl)
        refine j_aload_n C dX1_findRoot_89 rfl rfl ?_
        refine j_aload_n C dX1_findRoot_90 rfl rfl ?_
        refine j_getR C dX1_findRoot_91 (fx_RX1_25 D kc ad n) (show 11 ≤ 62 by decide) (show 62 < n by omega) ?_
        refine j_aload_n C dX1_findRoot_94 rfl rfl ?_
        refine j_getR C dX1_findRoot_95 (fx_RX1_25 D kc ad n) (show 11 ≤ 62 by decide) (show 62 < n by omega) ?_
        refine j_callV0 (T := TX1) (N := 8) C dX1_findRoot_98 (k_X1_negate l D kc ad n (by omega) 43 (⟨⟨rfl, rfl, by omega, by decide⟩, by decide⟩ : wa n 10 43).1 43 (⟨⟨rfl, rfl, by omega, by decide⟩, by decide⟩ : wa n 10 43) _ ) zy_X1_negate mw_22_11 rfl rfl (show 11 ≤ 62 by decide) (show 62 < n by omega) rfl rfl (Nat.le_of_ble_eq_true rfl) ⟨rfl, rfl, Nat.le_of_ble_eq_true rfl, Nat.le_of_ble_eq_true rfl⟩ ?_
        refine j_nmS (fun t28 et28 => ?_)
        refine j_aload_n C dX1_findRoot_101 rfl rfl ?_
        refine j_aload_n C dX1_findRoot_102 rfl rfl ?_
        refine j_getR C dX1_findRoot_103 (fx_RX1_25 D kc ad n) (show 11 ≤ 62 by decide) (show 62 < n by omega) ?_
        refine j_aload_n C dX1_findRoot_106 rfl rfl ?_
        refine j_callV0 (T := TX1) (N := 8) C dX1_findRoot_107 (k_X1_move l D kc ad n (by omega) 43 (⟨⟨rfl, rfl, by omega, by decide⟩, by decide⟩ : wa n 10 43).1 out hout _ ) zy_X1_move mw_19_3 rfl rfl (show 11 ≤ 62 by decide) (show 62 < n by omega) rfl rfl (Nat.le_of_ble_eq_true rfl) ⟨rfl, rfl, Nat.le_of_ble_eq_true rfl, Nat.le_of_ble_eq_true rfl⟩ ?_
        refine j_nmS (fun t29 et29 => ?_)
        refine j_iconst (v := nI 1) C dX1_findRoot_110 (by decide +kernel) ?_
        refine j_top (v := .int (bI true)) (by decide +kernel) ?_
        exact j_zret (st := []) C R0 dX1_findRoot_111 ⟨(by rw [hA17, hA22, hA27]; (try rw [et29]); (try rw [et28]); unfold fX1_findRoot_a7; (try dsimp only); all_goals ((try simp only [zfst_mk, zsnd_mk]); all_goals rfl)), ((by rw [hA17, hA22, hA27]; (try rw [et29]); (try rw [et28]); unfold fX1_findRoot_a7; (try dsimp only); all_goals ((try simp only [zfst_mk, zsnd_mk]); all_goals rfl)))⟩
    · have hA30 : fX1_findRoot_a10 a out t3 = fX1_findRoot_a9 t20 := by (try rw [et20]); (try rw [et19]); (try rw [et18]); have q21z := q21; (try rw [et20] at q21z); (try rw [et19] at q21z); (try rw [et18] at q21z); (try dsimp only at q21z); unfold fX1_findRoot_a10; (try dsimp only); rw [q21z, cond_false]; (try rfl)
      refine j_iconst (v := nI 0) C dX1_findRoot_76 (by decide +kernel) ?_
      refine j_top (v := .int (bI false)) (by decide +kernel) ?_
      exact j_zret (st := []) C R0 dX1_findRoot_77 ⟨(by rw [hA17, hA30]; unfold fX1_findRoot_a9; (try dsimp only); all_goals ((try simp only [zfst_mk, zsnd_mk]); all_goals rfl)), ((by rw [hA17, hA30]; unfold fX1_findRoot_a9; (try dsimp only); all_goals ((try simp only [zfst_mk, zsnd_mk]); all_goals rfl)))⟩
theorem k2q_fX1_findRoot_a1 (out : Nat) (t9 : zSt) : zk2s (fX1_findRoot_a1 out t9) = zk2 t9 := by
  unfold fX1_findRoot_a1
  (try dsimp only)
  all_goals (simp only [zW_2, zL_2, k2_fX1_move, zk2s_mk]; done)
theorem k2_fX1_findRoot_a1 (out : Nat) (t9 : zSt) : zk2 (zsnd (fX1_findRoot_a1 out t9)) = zk2 t9 := k2q_fX1_findRoot_a1 out t9
theorem k2q_fX1_findRoot_a2 (out : Nat) (t9 : zSt) : zk2s (fX1_findRoot_a2 out t9) = zk2 t9 := by
  unfold fX1_findRoot_a2
  (try dsimp only)
  all_goals (simp only [zW_2, zL_2, k2_fX1_move, k2_fX1_negate, zk2s_mk]; done)
theorem k2_fX1_findRoot_a2 (out : Nat) (t9 : zSt) : zk2 (zsnd (fX1_findRoot_a2 out t9)) = zk2 t9 := k2q_fX1_findRoot_a2 out t9
theorem k2q_fX1_findRoot_a3 (out : Nat) (t6 : zSt) : zk2s (fX1_findRoot_a3 out t6) = zk2 t6 := by
  unfold fX1_findRoot_a3
  (try dsimp only)
  all_goals (refine cond_keep (fun r : Bool × zSt => zk2s r) _ ?_ ?_ <;> (simp only [zW_2, zL_2, k2_fX1_findRoot_a1, k2_fX1_findRoot_a2, k2_fX1_isOdd, k2q_fX1_findRoot_a1, k2q_fX1_findRoot_a2, k2q_fX1_isOdd, zk2s_mk]; done))
theorem k2_fX1_findRoot_a3 (out : Nat) (t6 : zSt) : zk2 (zsnd (fX1_findRoot_a3 out t6)) = zk2 t6 := k2q_fX1_findRoot_a3 out t6
theorem k2q_fX1_findRoot_a4 (t6 : zSt) : zk2s (fX1_findRoot_a4 t6) = zk2 t6 := by
  unfold fX1_findRoot_a4
  (try dsimp only)
  all_goals (simp only [zW_2, zL_2, zk2s_mk]; done)
theorem k2_fX1_findRoot_a4 (t6 : zSt) : zk2 (zsnd (fX1_findRoot_a4 t6)) = zk2 t6 := k2q_fX1_findRoot_a4 t6
theorem k2q_fX1_findRoot_a5 (a : Nat) (out : Nat) (t3 : zSt) : zk2s (fX1_findRoot_a5 a out t3) = zk2 t3 := by
  unfold fX1_findRoot_a5
  (try dsimp only)
  all_goals (refine cond_keep (fun r : Bool × zSt => zk2s r) _ ?_ ?_ <;> (simp only [zW_2, zL_2, k2_fX1_areSame, k2_fX1_findRoot_a3, k2_fX1_findRoot_a4, k2q_fX1_areSame, k2q_fX1_findRoot_a3, k2q_fX1_findRoot_a4, zk2s_mk]; done))
theorem k2_fX1_findRoot_a5 (a : Nat) (out : Nat) (t3 : zSt) : zk2 (zsnd (fX1_findRoot_a5 a out t3)) = zk2 t3 := k2q_fX1_findRoot_a5 a out t3
theorem k2q_fX1_findRoot_a6 (out : Nat) (t23 : zSt) : zk2s (fX1_findRoot_a6 out t23) = zk2 t23 := by
  unfold fX1_findRoot_a6
  (try dsimp only)
  all_goals (simp only [zW_2, zL_2, k2_fX1_move, zk2s_mk]; done)
theorem k2_fX1_findRoot_a6 (out : Nat) (t23 : zSt) : zk2 (zsnd (fX1_findRoot_a6 out t23)) = zk2 t23 := k2q_fX1_findRoot_a6 out t23
theorem k2q_fX1_findRoot_a7 (out : Nat) (t23 : zSt) : zk2s (fX1_findRoot_a7 out t23) = zk2 t23 := by
  unfold fX1_findRoot_a7
  (try dsimp only)
  all_goals (simp only [zW_2, zL_2, k2_fX1_move, k2_fX1_negate, zk2s_mk]; done)
theorem k2_fX1_findRoot_a7 (out : Nat) (t23 : zSt) : zk2 (zsnd (fX1_findRoot_a7 out t23)) = zk2 t23 := k2q_fX1_findRoot_a7 out t23
theorem k2q_fX1_findRoot_a8 (out : Nat) (t20 : zSt) : zk2s (fX1_findRoot_a8 out t20) = zk2 t20 := by
  unfold fX1_findRoot_a8
  (try dsimp only)
  all_goals (refine cond_keep (fun r : Bool × zSt => zk2s r) _ ?_ ?_ <;> (simp only [zW_2, zL_2, k2_fX1_findRoot_a6, k2_fX1_findRoot_a7, k2_fX1_isOdd, k2q_fX1_findRoot_a6, k2q_fX1_findRoot_a7, k2q_fX1_isOdd, zk2s_mk]; done))
theorem k2_fX1_findRoot_a8 (out : Nat) (t20 : zSt) : zk2 (zsnd (fX1_findRoot_a8 out t20)) = zk2 t20 := k2q_fX1_findRoot_a8 out t20
theorem k2q_fX1_findRoot_a9 (t20 : zSt) : zk2s (fX1_findRoot_a9 t20) = zk2 t20 := by
  unfold fX1_findRoot_a9
  (try dsimp only)
  all_goals (simp only [zW_2, zL_2, zk2s_mk]; done)
theorem k2_fX1_findRoot_a9 (t20 : zSt) : zk2 (zsnd (fX1_findRoot_a9 t20)) = zk2 t20 := k2q_fX1_findRoot_a9 t20
theorem k2q_fX1_findRoot_a10 (a : Nat) (out : Nat) (t3 : zSt) : zk2s (fX1_findRoot_a10 a out t3) = zk2 t3 := by
  unfold fX1_findRoot_a10
  (try dsimp only)
  all_goals (refine cond_keep (fun r : Bool × zSt => zk2s r) _ ?_ ?_ <;> (simp only [zW_2, zL_2, k2_fX1_areSame, k2_fX1_findRoot_a8, k2_fX1_findRoot_a9, k2_fX1_multiply, k2_fX1_square, k2q_fX1_areSame, k2q_fX1_findRoot_a8, k2q_fX1_findRoot_a9, zk2s_mk]; done))
theorem k2_fX1_findRoot_a10 (a : Nat) (out : Nat) (t3 : zSt) : zk2 (zsnd (fX1_findRoot_a10 a out t3)) = zk2 t3 := k2q_fX1_findRoot_a10 a out t3
theorem k2q_fX1_findRoot (a : Nat) (out : Nat) (s0 : zSt) : zk2s (fX1_findRoot a out s0) = zk2 s0 := by
  unfold fX1_findRoot
  (try dsimp only)
  all_goals (refine cond_keep (fun r : Bool × zSt => zk2s r) _ ?_ ?_ <;> (simp only [zW_2, zL_2, k2_fX1_areSame, k2_fX1_findRoot_a10, k2_fX1_findRoot_a5, k2_fX1_raise, k2_fX1_square, k2q_fX1_areSame, k2q_fX1_findRoot_a10, k2q_fX1_findRoot_a5, zk2s_mk]; done))
theorem k2_fX1_findRoot (a : Nat) (out : Nat) (s0 : zSt) : zk2 (zsnd (fX1_findRoot a out s0)) = zk2 s0 := k2q_fX1_findRoot a out s0
theorem i2_fX1_findRoot (a : Nat) (out : Nat) (s0 : zSt) (kk9 : Nat) : (zsnd (fX1_findRoot a out s0)).2.2 kk9 = s0.2.2 kk9 := z2_I (k2_fX1_findRoot a out s0) kk9
theorem i3_fX1_findRoot (a : Nat) (out : Nat) (s0 : zSt) (kk9 : Nat) : zi (zsnd (fX1_findRoot a out s0)) kk9 = zi s0 kk9 := zi_of (k2_fX1_findRoot a out s0) kk9
