def fX5_finish_43  (i4 : Nat) (z5 : zSt) : zSt :=
    let t7 := fX5_fillSchedule (128 * i4) z5
    let t8 := fX5_mix  t7
    t8
def fX5_finish_72 (out : Nat) (i13 : Nat) (z14 : zSt) : zSt :=
    let t16 := zW z14 out i13 (vX5_turned (z14.1 178 i13) z14)
    t16
def fX5_finish (out : Nat) (L0 : Nat) (s0 : zSt) : zSt :=
    let x1 := ((((L0 + 17) + 128) - 1) / 128) * 128
    let t2 := fX5_pad x1 L0 s0
    let t3 := zL t2 178 (va_cpy (t2.1 9) (t2.1 178) 0 0 8)
    let u11 := ziter fX5_finish_43 0 ((((L0 + 17) + 128) - 1) / 128) t3
    let u19 := ziter (fX5_finish_72 out) 0 8 u11
    u19
set_option maxHeartbeats 4000000 in
set_option maxRecDepth 100000 in
theorem k_X5_finish (l : Launch) (D : va_G) (kc : Nat → ClassId) (ad : Nat → Nat) (n : Nat) (hn : 180 ≤ n) (out : Nat) (hout : wa n 8 out) (L0 : Nat) (s0 : zSt) (hlen : s0.2.2 5 = nI L0) (hroom : L0 ≤ 464) : zM l yX5_finish cX5_finish 4 none rX5_finish (wX D kc ad n) [.ref (zad (wX D kc ad n) 179), .ref (zad (wX D kc ad n) out)] s0 (zV0 (fX5_finish out L0 s0)) := by
  refine z_of (own := RX5) (by decide +kernel) rfl (Nat.le_of_ble_eq_true rfl) ?_
  intro κ C R0
  refine j_at [(0, .ref (zad (wX D kc ad n) 179)), (1, .ref (zad (wX D kc ad n) out))] ⟨rfl, rfl, trivial⟩ ?_
  refine j_aload_n C dX5_finish_0 rfl rfl ?_
  refine j_getI C dX5_finish_1 (fx_RX5_15 D kc ad n) (show 11 ≤ 179 by decide) (show 179 < n by omega) ?_
  refine j_top (v := .int (nI (L0))) (congrArg Value.int (by  exact hlen)) ?_
  refine j_bipush (v := nI 17) C dX5_finish_4 (by decide +kernel) ?_
  refine j_iaddN C dX5_finish_6 ?_
  refine j_sipush (v := nI 128) C dX5_finish_7 (by decide +kernel) ?_
  refine j_iaddN C dX5_finish_10 ?_
  refine j_iconst (v := nI 1) C dX5_finish_11 (by decide +kernel) ?_
  refine j_isubN C dX5_finish_12 (by omega) ?_
  refine j_sipush (v := nI 128) C dX5_finish_13 (by decide +kernel) ?_
  refine j_idivN C dX5_finish_16 (by omega) (by decide) (by decide) ?_
  refine j_sipush (v := nI 128) C dX5_finish_17 (by decide +kernel) ?_
  refine j_imulN C dX5_finish_20 ?_
  refine j_nmN (fun x1 ex1 => ?_)
  refine j_istore_n C dX5_finish_21 rfl (by decide) ?_
  refine j_aload_n C dX5_finish_22 rfl rfl ?_
  refine j_iload_n C dX5_finish_23 rfl rfl ?_
  refine j_callV0 (T := TX5) (N := 4) C dX5_finish_24 (k_X5_pad l D kc ad n (by omega) x1 (by omega) L0 _ (by (try rw [ex1]);  exact hlen) (by omega)) zy_X5_pad mw_35_3 rfl rfl (show 11 ≤ 179 by decide) (show 179 < n by omega) rfl rfl (Nat.le_of_ble_eq_true rfl) ⟨rfl, rfl, Nat.le_of_ble_eq_true rfl, Nat.le_of_ble_eq_true rfl⟩ ?_
  refine j_nmS (fun t2 et2 => ?_)
  refine j_gets (id := 9) C dX5_finish_27 (show 9 < 11 by decide) rfl mw_35_1 ?_
  refine j_iconst (v := nI 0) C dX5_finish_30 (by decide +kernel) ?_
  refine j_aload_n C dX5_finish_31 rfl rfl ?_
  refine j_getR C dX5_finish_32 (fx_RX5_23 D kc ad n) (show 11 ≤ 179 by decide) (show 179 < n by omega) ?_
  refine j_iconst (v := nI 0) C dX5_finish_35 (by decide +kernel) ?_
  refine j_bipush (v := nI 8) C dX5_finish_36 (by decide +kernel) ?_
  refine x_copyl C dX5_finish_38 mw_35_2 (⟨rfl, rfl, by omega, by decide⟩ : ra n 8 9) (⟨⟨rfl, rfl, by omega, by decide⟩, by decide⟩ : wa n 8 178) (by omega) (by omega) ⟨Nat.le_of_ble_eq_true rfl, Nat.le_of_ble_eq_true rfl⟩ ?_
  refine j_nmS (fun t3 et3 => ?_)
  refine j_iconst (v := nI 0) C dX5_finish_41 (by decide +kernel) ?_
  refine j_istore_n C dX5_finish_42 rfl (by decide) ?_
  refine j_at [(0, .ref (zad (wX D kc ad n) 179)), (1, .ref (zad (wX D kc ad n) out)), (2, .int (nI (x1))), (3, .int (nI (128 * 0)))] ⟨rfl, rfl, rfl, rfl, trivial⟩ ?_
  refine z_up (α := zSt) (fun (i4 : Nat) (z5 : zSt) => zJ κ (wX D kc ad n) 43 (zlof [(0, .ref (zad (wX D kc ad n) 179)), (1, .ref (zad (wX D kc ad n) out)), (2, .int (nI (x1))), (3, .int (nI (128 * i4)))]) [] z5) fX5_finish_43 (fun _ _ => True) ((((L0 + 17) + 128) - 1) / 128) ?_ (fun _ _ _ _ => trivial) ((((L0 + 17) + 128) - 1) / 128) 0 t3 (by omega) trivial ?_
  · intro i4 z5 hi4 hIi4 k0
    refine j_iload_n C dX5_finish_43 rfl rfl ?_
    refine j_sipush (v := nI 128) C dX5_finish_44 (by decide +kernel) ?_
    refine j_iaddN C dX5_finish_47 ?_
    refine j_iload_n C dX5_finish_48 rfl rfl ?_
    refine j_icmp_gtN (tgt := 70) C dX5_finish_49 (by decide) (by omega) (by omega) (fun q6 => False.elim (by omega)) (fun q6 => ?_)
    refine j_aload_n C dX5_finish_52 rfl rfl ?_
    refine j_iload_n C dX5_finish_53 rfl rfl ?_
    refine j_callV0 (T := TX5) (N := 4) C dX5_finish_54 (k_X5_fillSchedule l D kc ad n (by omega) (128 * i4) (by omega) _ ) zy_X5_fillSchedule mw_35_7 rfl rfl (show 11 ≤ 179 by decide) (show 179 < n by omega) rfl rfl (Nat.le_of_ble_eq_true rfl) ⟨rfl, rfl, Nat.le_of_ble_eq_true rfl, Nat.le_of_ble_eq_true rfl⟩ ?_
    refine j_nmS (fun t7 et7 => ?_)
    refine j_aload_n C dX5_finish_57 rfl rfl ?_
    refine j_callV0 (T := TX5) (N := 4) C dX5_finish_58 (k_X5_mix l D kc ad n (by omega)  _ ) zy_X5_mix mw_35_14 rfl rfl (show 11 ≤ 179 by decide) (show 179 < n by omega) rfl rfl (Nat.le_of_ble_eq_true rfl) ⟨rfl, rfl, Nat.le_of_ble_eq_true rfl, Nat.le_of_ble_eq_true rfl⟩ ?_
    refine j_nmS (fun t8 et8 => ?_)
    refine j_iincW (v := nI ((128 * i4) + 128)) C dX5_finish_61 rfl (by rw [show Int32.ofInt 128 = nI 128 by decide +kernel, nI_add]) (by decide) ?_
    refine j_goto (tgt := 43) C dX5_finish_67 (by decide) ?_
    refine j_nmS (fun t9 et9 => ?_)
    refine j_at [(0, .ref (zad (wX D kc ad n) 179)), (1, .ref (zad (wX D kc ad n) out)), (2, .int (nI (x1))), (3, .int (nI (128 * (i4 + 1))))] ⟨rfl, rfl, rfl, congrArg (fun q => some (Value.int (nI q))) (by omega), trivial⟩ ?_
    have eF : fX5_finish_43 i4 z5 = t9 := by rw [et9]; (try rw [et8]); (try rw [et7]); unfold fX5_finish_43; first | done | (dsimp only; done) | rfl
    exact Eq.mp (congrArg (fun (z10 : zSt) => zJ κ (wX D kc ad n) 43 (zlof [(0, .ref (zad (wX D kc ad n) 179)), (1, .ref (zad (wX D kc ad n) out)), (2, .int (nI (x1))), (3, .int (nI (128 * (i4 + 1))))]) [] z10) eF) (k0 trivial)
  · intro hIi4
    refine z_nm (P := fun (z5 : zSt) => zJ κ (wX D kc ad n) 43 (zlof [(0, .ref (zad (wX D kc ad n) 179)), (1, .ref (zad (wX D kc ad n) out)), (2, .int (nI (x1))), (3, .int (nI (128 * ((((L0 + 17) + 128) - 1) / 128))))]) [] z5) (fun u11 eu11 => ?_)
    refine j_iload_n C dX5_finish_43 rfl rfl ?_
    refine j_sipush (v := nI 128) C dX5_finish_44 (by decide +kernel) ?_
    refine j_iaddN C dX5_finish_47 ?_
    refine j_iload_n C dX5_finish_48 rfl rfl ?_
    refine j_icmp_gtN (tgt := 70) C dX5_finish_49 (by decide) (by omega) (by omega) (fun q12 => ?_) (fun q12 => False.elim (by omega))
    refine j_iconst (v := nI 0) C dX5_finish_70 (by decide +kernel) ?_
    refine j_istore_n C dX5_finish_71 rfl (by decide) ?_
    refine j_at [(0, .ref (zad (wX D kc ad n) 179)), (1, .ref (zad (wX D kc ad n) out)), (3, .int (nI (0)))] ⟨rfl, rfl, rfl, trivial⟩ ?_
    refine z_up (α := zSt) (fun (i13 : Nat) (z14 : zSt) => zJ κ (wX D kc ad n) 72 (zlof [(0, .ref (zad (wX D kc ad n) 179)), (1, .ref (zad (wX D kc ad n) out)), (3, .int (nI (i13)))]) [] z14) (fX5_finish_72 out) (fun _ _ => True) 8 ?_ (fun _ _ _ _ => trivial) 8 0 u11 (by omega) trivial ?_
    · intro i13 z14 hi13 hIi13 k0
      refine j_iload_n C dX5_finish_72 rfl rfl ?_
      refine j_bipush (v := nI 8) C dX5_finish_73 (by decide +kernel) ?_
      refine j_icmp_geN (tgt := 96) C dX5_finish_75 (by decide) (by omega) (by omega) (fun q15 => False.elim (by omega)) (fun q15 => ?_)
      refine j_aload_n C dX5_finish_78 rfl rfl ?_
      refine j_iload_n C dX5_finish_79 rfl rfl ?_
      refine j_aload_n C dX5_finish_80 rfl rfl ?_
      refine j_getR C dX5_finish_81 (fx_RX5_23 D kc ad n) (show 11 ≤ 179 by decide) (show 179 < n by omega) ?_
      refine j_iload_n C dX5_finish_84 rfl rfl ?_
      refine x_lald C dX5_finish_85 (⟨⟨rfl, rfl, by omega, by decide⟩, by decide⟩ : wa n 8 178).1 (by omega) ?_
      refine j_callS1 C dX5_finish_86 (k_X5_turned l D kc ad n (by omega) (z14.1 178 i13) _ ) zy_X5_turned mw_35_20 rfl rfl (Nat.le_of_ble_eq_true rfl) ⟨rfl, rfl, Nat.le_of_ble_eq_true rfl, Nat.le_of_ble_eq_true rfl⟩ ?_
      refine x_last C dX5_finish_89 hout (by omega) ?_
      refine j_nmS (fun t16 et16 => ?_)
      refine j_iincN (b := 1) C dX5_finish_90 rfl (by decide +kernel) (by decide) ?_
      refine j_goto (tgt := 72) C dX5_finish_93 (by decide) ?_
      refine j_nmS (fun t17 et17 => ?_)
      refine j_at [(0, .ref (zad (wX D kc ad n) 179)), (1, .ref (zad (wX D kc ad n) out)), (3, .int (nI (i13 + 1)))] ⟨rfl, rfl, rfl, trivial⟩ ?_
      have eF : (fX5_finish_72 out) i13 z14 = t17 := by rw [et17]; (try rw [et16]); unfold fX5_finish_72; first | done | (dsimp only; done) | rfl
      exact Eq.mp (congrArg (fun (z18 : zSt) => zJ κ (wX D kc ad n) 72 (zlof [(0, .ref (zad (wX D kc ad n) 179)), (1, .ref (zad (wX D kc ad n) out)), (3, .int (nI (i13 + 1)))]) [] z18) eF) (k0 trivial)
    · intro hIi13
      refine z_nm (P := fun (z14 : zSt) => zJ κ (wX D kc ad n) 72 (zlof [(0, .ref (zad (wX D kc ad n) 179)), (1, .ref (zad (wX D kc ad n) out)), (3, .int (nI (8)))]) [] z14) (fun u19 eu19 => ?_)
      refine j_iload_n C dX5_finish_72 rfl rfl ?_
      refine j_bipush (v := nI 8) C dX5_finish_73 (by decide +kernel) ?_
      refine j_icmp_geN (tgt := 96) C dX5_finish_75 (by decide) (by omega) (by omega) (fun q20 => ?_) (fun q20 => False.elim (by omega))
      exact j_vret (st := []) C R0 dX5_finish_96 ⟨rfl, (by (try rw [eu19]); (try rw [eu11]); (try rw [et3]); (try rw [et2]); (try rw [ex1]); unfold fX5_finish; (try dsimp only); all_goals ((try simp only [zfst_mk, zsnd_mk]); all_goals rfl))⟩

theorem pd_oth (en L0 : Nat) (s : zSt) (k : Nat) : (fX5_pad en L0 s).2.2 k = s.2.2 k := by
  unfold fX5_pad
  dsimp only
  exact ziter_keep (fun z : zSt => z.2.2 k) fX5_pad_18 (fun _ _ => rfl) _ _ _
theorem fin_oth (out L0 : Nat) (s : zSt) (k : Nat) : (fX5_finish out L0 s).2.2 k = s.2.2 k := by
  unfold fX5_finish
  dsimp only
  exact (ziter_keep (fun z : zSt => z.2.2 k) (fX5_finish_72 out) (fun _ _ => rfl) 8 0 _).trans ((ziter_keep (fun z : zSt => z.2.2 k) fX5_finish_43 (fun i z => (z2_I (k2_fX5_mix _) k).trans (z2_I (k2_fX5_fillSchedule _ _) k)) _ 0 _).trans (pd_oth _ _ _ k))
theorem tr_4 (ws L0 : Nat) (s : zSt) : (fX5_takeRow ws L0 s).2.2 4 = s.2.2 4 := tr_oth ws L0 s 4 (by decide)
theorem tt_4 (L0 T0 : Nat) (s : zSt) : (fX5_takeText L0 T0 s).2.2 4 = s.2.2 4 := tt_oth L0 T0 s 4 (by decide)
theorem bg_4 (s : zSt) : (fX5_begin s).2.2 4 = s.2.2 4 := bg_oth s 4 (by decide)
theorem zL_I (σ : zSt) (a : Nat) (f : Nat → Int64) (k : Nat) : (zL σ a f).2.2 k = σ.2.2 k := id rfl
theorem zW_I (σ : zSt) (a i : Nat) (v : Int64) (k : Nat) : (zW σ a i v).2.2 k = σ.2.2 k := id rfl