def fX6_unfold (ws : Nat) (s0 : zSt) : zSt :=
    let t1 := fX5_begin  s0
    let t2 := fX5_takeRow ws 0 t1
    let t3 := fX5_finish 180 32 t2
    let t4 := zL t3 181 (va_cpy (t3.1 180) (t3.1 181) 0 0 4)
    let t5 := zL t4 182 (va_cpy (t4.1 180) (t4.1 182) 4 0 4)
    let t6 := fX8_clamp 181 t5
    t6
set_option maxHeartbeats 4000000 in
set_option maxRecDepth 100000 in
theorem k_X6_unfold (l : Launch) (D : va_G) (kc : Nat → ClassId) (ad : Nat → Nat) (n : Nat) (hn : 202 ≤ n) (ws : Nat) (hws : ra n 4 ws) (s0 : zSt) : zM l yX6_unfold cX6_unfold 2 none rX6_unfold (wX D kc ad n) [.ref (zad (wX D kc ad n) 201), .ref (zad (wX D kc ad n) ws)] s0 (zV0 (fX6_unfold ws s0)) := by
  refine z_of (own := RX6) (by decide +kernel) rfl (Nat.le_of_ble_eq_true rfl) ?_
  intro κ C R0
  refine j_at [(0, .ref (zad (wX D kc ad n) 201)), (1, .ref (zad (wX D kc ad n) ws))] ⟨rfl, rfl, trivial⟩ ?_
  refine j_aload_n C dX6_unfold_0 rfl rfl ?_
  refine j_getR C dX6_unfold_1 (fx_RX6_53 D kc ad n) (show 11 ≤ 201 by decide) (show 201 < n by omega) ?_
  refine j_callV0 (T := TX5) (N := 4) C dX6_unfold_4 (k_X5_begin l D kc ad n (by omega)  _ ) zy_X5_begin mw_37_18 rfl rfl (show 11 ≤ 179 by decide) (show 179 < n by omega) rfl rfl (Nat.le_of_ble_eq_true rfl) ⟨rfl, rfl, Nat.le_of_ble_eq_true rfl, Nat.le_of_ble_eq_true rfl⟩ ?_
  refine j_nmS (fun t1 et1 => ?_)
  refine j_aload_n C dX6_unfold_7 rfl rfl ?_
  refine j_getR C dX6_unfold_8 (fx_RX6_53 D kc ad n) (show 11 ≤ 201 by decide) (show 201 < n by omega) ?_
  refine j_aload_n C dX6_unfold_11 rfl rfl ?_
  refine j_callV0 (T := TX5) (N := 4) C dX6_unfold_12 (k_X5_takeRow l D kc ad n (by omega) ws hws 0 _ (by (try rw [et1]);  exact bg_len _) (by omega)) zy_X5_takeRow mw_37_19 rfl rfl (show 11 ≤ 179 by decide) (show 179 < n by omega) rfl rfl (Nat.le_of_ble_eq_true rfl) ⟨rfl, rfl, Nat.le_of_ble_eq_true rfl, Nat.le_of_ble_eq_true rfl⟩ ?_
  refine j_nmS (fun t2 et2 => ?_)
  refine j_aload_n C dX6_unfold_15 rfl rfl ?_
  refine j_getR C dX6_unfold_16 (fx_RX6_53 D kc ad n) (show 11 ≤ 201 by decide) (show 201 < n by omega) ?_
  refine j_aload_n C dX6_unfold_19 rfl rfl ?_
  refine j_getR C dX6_unfold_20 (fx_RX6_9 D kc ad n) (show 11 ≤ 201 by decide) (show 201 < n by omega) ?_
  refine j_callV0 (T := TX5) (N := 4) C dX6_unfold_23 (k_X5_finish l D kc ad n (by omega) 180 (⟨⟨rfl, rfl, by omega, by decide⟩, by decide⟩ : wa n 8 180) 32 _ (by (try rw [et2]); (try rw [et1]);  exact tr_len _ 0 _ (bg_len _)) (by omega)) zy_X5_finish mw_37_23 rfl rfl (show 11 ≤ 179 by decide) (show 179 < n by omega) rfl rfl (Nat.le_of_ble_eq_true rfl) ⟨rfl, rfl, Nat.le_of_ble_eq_true rfl, Nat.le_of_ble_eq_true rfl⟩ ?_
  refine j_nmS (fun t3 et3 => ?_)
  refine j_aload_n C dX6_unfold_26 rfl rfl ?_
  refine j_getR C dX6_unfold_27 (fx_RX6_9 D kc ad n) (show 11 ≤ 201 by decide) (show 201 < n by omega) ?_
  refine j_iconst (v := nI 0) C dX6_unfold_30 (by decide +kernel) ?_
  refine j_aload_n C dX6_unfold_31 rfl rfl ?_
  refine j_getR C dX6_unfold_32 (fx_RX6_17 D kc ad n) (show 11 ≤ 201 by decide) (show 201 < n by omega) ?_
  refine j_iconst (v := nI 0) C dX6_unfold_35 (by decide +kernel) ?_
  refine j_iconst (v := nI 4) C dX6_unfold_36 (by decide +kernel) ?_
  refine x_copyl C dX6_unfold_37 mw_37_17 (⟨⟨rfl, rfl, by omega, by decide⟩, by decide⟩ : wa n 8 180).1 (⟨⟨rfl, rfl, by omega, by decide⟩, by decide⟩ : wa n 4 181) (by omega) (by omega) ⟨Nat.le_of_ble_eq_true rfl, Nat.le_of_ble_eq_true rfl⟩ ?_
  refine j_nmS (fun t4 et4 => ?_)
  refine j_aload_n C dX6_unfold_40 rfl rfl ?_
  refine j_getR C dX6_unfold_41 (fx_RX6_9 D kc ad n) (show 11 ≤ 201 by decide) (show 201 < n by omega) ?_
  refine j_iconst (v := nI 4) C dX6_unfold_44 (by decide +kernel) ?_
  refine j_aload_n C dX6_unfold_45 rfl rfl ?_
  refine j_getR C dX6_unfold_46 (fx_RX6_20 D kc ad n) (show 11 ≤ 201 by decide) (show 201 < n by omega) ?_
  refine j_iconst (v := nI 0) C dX6_unfold_49 (by decide +kernel) ?_
  refine j_iconst (v := nI 4) C dX6_unfold_50 (by decide +kernel) ?_
  refine x_copyl C dX6_unfold_51 mw_37_17 (⟨⟨rfl, rfl, by omega, by decide⟩, by decide⟩ : wa n 8 180).1 (⟨⟨rfl, rfl, by omega, by decide⟩, by decide⟩ : wa n 4 182) (by omega) (by omega) ⟨Nat.le_of_ble_eq_true rfl, Nat.le_of_ble_eq_true rfl⟩ ?_
  refine j_nmS (fun t5 et5 => ?_)
  refine j_aload_n C dX6_unfold_54 rfl rfl ?_
  refine j_getR C dX6_unfold_55 (fx_RX6_17 D kc ad n) (show 11 ≤ 201 by decide) (show 201 < n by omega) ?_
  refine j_callS0 C dX6_unfold_58 (k_X8_clamp l D kc ad n (by omega) 181 (⟨⟨rfl, rfl, by omega, by decide⟩, by decide⟩ : wa n 4 181) _ ) zy_X8_clamp mw_38_0 rfl rfl (Nat.le_of_ble_eq_true rfl) ⟨rfl, rfl, Nat.le_of_ble_eq_true rfl, Nat.le_of_ble_eq_true rfl⟩ ?_
  refine j_nmS (fun t6 et6 => ?_)
  exact j_vret (st := []) C R0 dX6_unfold_61 ⟨rfl, (by (try rw [et6]); (try rw [et5]); (try rw [et4]); (try rw [et3]); (try rw [et2]); (try rw [et1]); unfold fX6_unfold; first | done | (dsimp only; done) | rfl)⟩
