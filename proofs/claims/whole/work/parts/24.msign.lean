def fX10_open_ (v : Nat) (s0 : zSt) : zSt :=
    let t1 := fX10_fromSlot 4 v s0
    let t2 := fX10_tellWords 4 0 t1
    let t3 := fX10_digests 32 t2
    let t4 := fX10_digestWords 20 0 t3
    let t5 := fX10_clamp 20 t4
    let t6 := fX10_digestWords 16 32 t5
    let t7 := fX10_words 48 (t6.1 4 16) (t6.1 4 17) (t6.1 4 18) (t6.1 4 19) t6
    let t8 := fX10_many 18 5 20 t7
    let t9 := fX10_bytes 28 18 t8
    t9
set_option maxHeartbeats 4000000 in
set_option maxRecDepth 100000 in
theorem k_X10_open_ (l : Launch) (D : va_G) (kc : Nat → ClassId) (ad : Nat → Nat) (v : Nat) (hv : v < 24) (s0 : zSt) (hms : s0.2.2 5 = nI 0) : zM l yX10_open_ cX10_open_ 2 none rX10_open_ (wM D kc ad) [.ref (zad (wM D kc ad) 17), .int (nI (v))] s0 (zV0 (fX10_open_ v s0)) := by
  refine z_of (own := RX10) (by decide +kernel) rfl (Nat.le_of_ble_eq_true rfl) ?_
  intro κ C R0
  refine j_at [(0, .ref (zad (wM D kc ad) 17)), (1, .int (nI (v)))] ⟨rfl, rfl, trivial⟩ ?_
  refine j_aload_n C dX10_open__0 rfl rfl ?_
  refine j_iconst (v := nI 4) C dX10_open__1 (by decide +kernel) ?_
  refine j_iload_n C dX10_open__2 rfl rfl ?_
  refine j_callV0 (T := TX10) (N := 23) C dX10_open__3 (k_X10_fromSlot l D kc ad 4 (by omega) v (by omega) _ ) zy_X10_fromSlot mw_16_9 rfl rfl (Nat.zero_le _) (show 17 < 18 by decide) rfl rfl (Nat.le_of_ble_eq_true rfl) ⟨rfl, rfl, Nat.le_of_ble_eq_true rfl, Nat.le_of_ble_eq_true rfl⟩ ?_
  refine j_nmS (fun t1 et1 => ?_)
  refine j_aload_n C dX10_open__6 rfl rfl ?_
  refine j_iconst (v := nI 4) C dX10_open__7 (by decide +kernel) ?_
  refine j_callV0 (T := TX10) (N := 23) C dX10_open__8 (k_X10_tellWords l D kc ad 4 (by omega) 0 _ (by (try rw [et1]); simp (maxDischargeDepth := 12) only [i2_fX10_words, i2_fX10_fromSlot, i2_fX10_many, i2_fX10_bytes, i2_fX10_clamp, i2_fX10_digestWords, tw_len, tx_len, dg_len, tw_0, tx_0, dg_0, hms]) (by omega)) zy_X10_tellWords mw_38_11 rfl rfl (Nat.zero_le _) (show 17 < 18 by decide) rfl rfl (Nat.le_of_ble_eq_true rfl) ⟨rfl, rfl, Nat.le_of_ble_eq_true rfl, Nat.le_of_ble_eq_true rfl⟩ ?_
  refine j_nmS (fun t2 et2 => ?_)
  refine j_aload_n C dX10_open__11 rfl rfl ?_
  refine j_callV0 (T := TX10) (N := 23) C dX10_open__12 (k_X10_digests l D kc ad 32 _ (by (try rw [et2]); (try rw [et1]); simp (maxDischargeDepth := 12) only [i2_fX10_words, i2_fX10_fromSlot, i2_fX10_many, i2_fX10_bytes, i2_fX10_clamp, i2_fX10_digestWords, tw_len, tx_len, dg_len, tw_0, tx_0, dg_0, hms]) (by omega)) zy_X10_digests mw_36_13 rfl rfl (Nat.zero_le _) (show 17 < 18 by decide) rfl rfl (Nat.le_of_ble_eq_true rfl) ⟨rfl, rfl, Nat.le_of_ble_eq_true rfl, Nat.le_of_ble_eq_true rfl⟩ ?_
  refine j_nmS (fun t3 et3 => ?_)
  refine j_aload_n C dX10_open__15 rfl rfl ?_
  refine j_bipush (v := nI 20) C dX10_open__16 (by decide +kernel) ?_
  refine j_iconst (v := nI 0) C dX10_open__18 (by decide +kernel) ?_
  refine j_callV0 (T := TX10) (N := 23) C dX10_open__19 (k_X10_digestWords l D kc ad 20 (by omega) 0 (by omega) _ ) zy_X10_digestWords mw_37_0 rfl rfl (Nat.zero_le _) (show 17 < 18 by decide) rfl rfl (Nat.le_of_ble_eq_true rfl) ⟨rfl, rfl, Nat.le_of_ble_eq_true rfl, Nat.le_of_ble_eq_true rfl⟩ ?_
  refine j_nmS (fun t4 et4 => ?_)
  refine j_aload_n C dX10_open__22 rfl rfl ?_
  refine j_bipush (v := nI 20) C dX10_open__23 (by decide +kernel) ?_
  refine j_callV0 (T := TX10) (N := 23) C dX10_open__25 (k_X10_clamp l D kc ad 20 (by omega) _ ) zy_X10_clamp mw_33_13 rfl rfl (Nat.zero_le _) (show 17 < 18 by decide) rfl rfl (Nat.le_of_ble_eq_true rfl) ⟨rfl, rfl, Nat.le_of_ble_eq_true rfl, Nat.le_of_ble_eq_true rfl⟩ ?_
  refine j_nmS (fun t5 et5 => ?_)
  refine j_aload_n C dX10_open__28 rfl rfl ?_
  refine j_bipush (v := nI 16) C dX10_open__29 (by decide +kernel) ?_
  refine j_bipush (v := nI 32) C dX10_open__31 (by decide +kernel) ?_
  refine j_callV0 (T := TX10) (N := 23) C dX10_open__33 (k_X10_digestWords l D kc ad 16 (by omega) 32 (by omega) _ ) zy_X10_digestWords mw_37_0 rfl rfl (Nat.zero_le _) (show 17 < 18 by decide) rfl rfl (Nat.le_of_ble_eq_true rfl) ⟨rfl, rfl, Nat.le_of_ble_eq_true rfl, Nat.le_of_ble_eq_true rfl⟩ ?_
  refine j_nmS (fun t6 et6 => ?_)
  refine j_aload_n C dX10_open__36 rfl rfl ?_
  refine j_bipush (v := nI 48) C dX10_open__37 (by decide +kernel) ?_
  refine j_aload_n C dX10_open__39 rfl rfl ?_
  refine j_getR C dX10_open__40 (fx_RX10_27 D kc ad) (Nat.zero_le _) (show 17 < 18 by decide) ?_
  refine j_bipush (v := nI 16) C dX10_open__43 (by decide +kernel) ?_
  refine m_lald C dX10_open__45 (⟨rfl, rfl, by decide, by decide⟩ : ma 64 4) (by omega) ?_
  refine j_aload_n C dX10_open__46 rfl rfl ?_
  refine j_getR C dX10_open__47 (fx_RX10_27 D kc ad) (Nat.zero_le _) (show 17 < 18 by decide) ?_
  refine j_bipush (v := nI 17) C dX10_open__50 (by decide +kernel) ?_
  refine m_lald C dX10_open__52 (⟨rfl, rfl, by decide, by decide⟩ : ma 64 4) (by omega) ?_
  refine j_aload_n C dX10_open__53 rfl rfl ?_
  refine j_getR C dX10_open__54 (fx_RX10_27 D kc ad) (Nat.zero_le _) (show 17 < 18 by decide) ?_
  refine j_bipush (v := nI 18) C dX10_open__57 (by decide +kernel) ?_
  refine m_lald C dX10_open__59 (⟨rfl, rfl, by decide, by decide⟩ : ma 64 4) (by omega) ?_
  refine j_aload_n C dX10_open__60 rfl rfl ?_
  refine j_getR C dX10_open__61 (fx_RX10_27 D kc ad) (Nat.zero_le _) (show 17 < 18 by decide) ?_
  refine j_bipush (v := nI 19) C dX10_open__64 (by decide +kernel) ?_
  refine m_lald C dX10_open__66 (⟨rfl, rfl, by decide, by decide⟩ : ma 64 4) (by omega) ?_
  refine j_callV0 (T := TX10) (N := 23) C dX10_open__67 (k_X10_words l D kc ad 48 (by omega) (t6.1 4 16) (t6.1 4 17) (t6.1 4 18) (t6.1 4 19) _ ) zy_X10_words mw_10_11 rfl rfl (Nat.zero_le _) (show 17 < 18 by decide) rfl rfl (Nat.le_of_ble_eq_true rfl) ⟨rfl, rfl, Nat.le_of_ble_eq_true rfl, Nat.le_of_ble_eq_true rfl⟩ ?_
  refine j_nmS (fun t7 et7 => ?_)
  refine j_aload_n C dX10_open__70 rfl rfl ?_
  refine j_bipush (v := nI 18) C dX10_open__71 (by decide +kernel) ?_
  refine j_iconst (v := nI 5) C dX10_open__73 (by decide +kernel) ?_
  refine j_bipush (v := nI 20) C dX10_open__74 (by decide +kernel) ?_
  refine j_callV0 (T := TX10) (N := 23) C dX10_open__76 (k_X10_many l D kc ad 18 (by omega) 5 (by omega) 20 (by omega) _ ) zy_X10_many mw_30_2 rfl rfl (Nat.zero_le _) (show 17 < 18 by decide) rfl rfl (Nat.le_of_ble_eq_true rfl) ⟨rfl, rfl, Nat.le_of_ble_eq_true rfl, Nat.le_of_ble_eq_true rfl⟩ ?_
  refine j_nmS (fun t8 et8 => ?_)
  refine j_aload_n C dX10_open__79 rfl rfl ?_
  refine j_bipush (v := nI 28) C dX10_open__80 (by decide +kernel) ?_
  refine j_bipush (v := nI 18) C dX10_open__82 (by decide +kernel) ?_
  refine j_callV0 (T := TX10) (N := 23) C dX10_open__84 (k_X10_bytes l D kc ad 28 (by omega) 18 (by omega) _ ) zy_X10_bytes mw_29_0 rfl rfl (Nat.zero_le _) (show 17 < 18 by decide) rfl rfl (Nat.le_of_ble_eq_true rfl) ⟨rfl, rfl, Nat.le_of_ble_eq_true rfl, Nat.le_of_ble_eq_true rfl⟩ ?_
  refine j_nmS (fun t9 et9 => ?_)
  exact j_vret (st := []) C R0 dX10_open__87 ⟨rfl, (by (try rw [et9]); (try rw [et8]); (try rw [et7]); (try rw [et6]); (try rw [et5]); (try rw [et4]); (try rw [et3]); (try rw [et2]); (try rw [et1]); unfold fX10_open_; (try dsimp only); all_goals ((try simp only [zfst_mk, zsnd_mk]); all_goals rfl))⟩

theorem tw_zi (p M0 : Nat) (s : zSt) (k : Nat) (h : k ≠ 5) : zi (fX10_tellWords p M0 s) k = zi s k := zi_o (tw_oth p M0 s k h)
theorem tx_zi (M0 T0 : Nat) (s : zSt) (k : Nat) (h : k ≠ 5) : zi (fX10_tellText M0 T0 s) k = zi s k := zi_o (tx_oth M0 T0 s k h)
theorem dgl_zi (M0 : Nat) (s : zSt) : zi (fX10_digests M0 s) 5 = nI 0 := zi_c (dg_len M0 s)
theorem op_zi (v : Nat) (s : zSt) (k : Nat) (h : k ≠ 5) : zi (fX10_open_ v s) k = zi s k := by
  unfold fX10_open_
  dsimp only
  rw [i3_fX10_bytes, i3_fX10_many, i3_fX10_words, i3_fX10_digestWords, i3_fX10_clamp, i3_fX10_digestWords, dg_zi _ _ k h, tw_zi _ _ _ k h, i3_fX10_fromSlot]
theorem opl_zi (v : Nat) (s : zSt) : zi (fX10_open_ v s) 5 = nI 0 := by
  unfold fX10_open_
  dsimp only
  rw [i3_fX10_bytes, i3_fX10_many, i3_fX10_words, i3_fX10_digestWords, i3_fX10_clamp, i3_fX10_digestWords, dgl_zi]
theorem op_len (v : Nat) (s : zSt) : (fX10_open_ v s).2.2 5 = nI 0 := zo_c (opl_zi v s)
theorem op_0 (v : Nat) (s : zSt) : (fX10_open_ v s).2.2 0 = s.2.2 0 := zo_i (op_zi v s 0 (by decide))
def fX10_isRight_a1 (t1 : zSt) : Bool × zSt :=
    (false, t1)
def fX10_isRight_a2 (t5 : zSt) : Bool × zSt :=
    (false, t5)
def fX10_isRight_a3 (a : Nat) (b : Nat) (T0 : Nat) (t9 : zSt) : Bool × zSt :=
    let t12 := fX10_fromSlot 4 b t9
    let t13 := fX10_tellWords 4 0 t12
    let t14 := fX10_fromSlot 4 a t13
    let t15 := fX10_tellWords 4 32 t14
    let t16 := fX10_tellText 64 T0 t15
    let t17 := fX10_digests (64 + T0) t16
    let t18 := fX10_digestScalar 20 t17
    let t19 := fX10_many 18 5 8 t18
    let t20 := fX10_eightTimes 18 t19
    let t21 := fX10_many 22 10 20 t20
    let t22 := fX10_addPoint 22 14 t21
    let t23 := fX10_eightTimes 22 t22
    let t24 := fX10_negate 22 t23
    let t25 := fX10_addPoint 18 22 t24
    let t26 := zsnd (fX10_isNeutral 18 t25)
    (zfst (fX10_isNeutral 18 t25), t26)
def fX10_isRight_a4 (t9 : zSt) : Bool × zSt :=
    (false, t9)
def fX10_isRight_a5 (a : Nat) (b : Nat) (T0 : Nat) (t5 : zSt) : Bool × zSt :=
    let t9 := zsnd (fX10_opens 14 b t5)
    bif (zfst (fX10_opens 14 b t5)) then
      fX10_isRight_a3 a b T0 t9
    else
      fX10_isRight_a4 t9
def fX10_isRight_a6 (a : Nat) (b : Nat) (T0 : Nat) (t1 : zSt) : Bool × zSt :=
    let t5 := zsnd (fX10_opens 10 a t1)
    bif (zfst (fX10_opens 10 a t1)) then
      fX10_isRight_a5 a b T0 t5
    else
      fX10_isRight_a2 t5
def fX10_isRight (a : Nat) (b : Nat) (T0 : Nat) (s0 : zSt) : Bool × zSt :=
    let t1 := fX10_fromSlot 8 (b + 1) s0
    if 0 ≤ vX10_against 8 32 t1 then
      fX10_isRight_a1 t1
    else
      fX10_isRight_a6 a b T0 t1
set_option maxHeartbeats 4000000 in
set_option maxRecDepth 100000 in
theorem k_X10_isRight (l : Launch) (D : va_G) (kc : Nat → ClassId) (ad : Nat → Nat) (a : Nat) (ha : a < 24) (b : Nat) (hb : b < 23) (T0 : Nat) (s0 : zSt) (hms : s0.2.2 5 = nI 0) (htx : s0.2.2 0 = nI T0) (hT0 : T0 ≤ 400) : zM l yX10_isRight cX10_isRight 3 (some .boolean) rX10_isRight (wM D kc ad) [.ref (zad (wM D kc ad) 17), .int (nI (a)), .int (nI (b))] s0 (zV1 (.int (bI (zfst (fX10_isRight a b T0 s0)))) (zsnd (fX10_isRight a b T0 s0))) := by
  refine z_of (own := RX10) (by decide +kernel) rfl (Nat.le_of_ble_eq_true rfl) ?_
  intro κ C R0
  refine j_at [(0, .ref (zad (wM D kc ad) 17)), (1, .int (nI (a))), (2, .int (nI (b)))] ⟨rfl, rfl, rfl, trivial⟩ ?_
  refine j_aload_n C dX10_isRight_0 rfl rfl ?_
  refine j_bipush (v := nI 8) C dX10_isRight_1 (by decide +kernel) ?_
  refine j_iload_n C dX10_isRight_3 rfl rfl ?_
  refine j_iconst (v := nI 1) C dX10_isRight_4 (by decide +kernel) ?_
  refine j_iaddN C dX10_isRight_5 ?_
  refine j_callV0 (T := TX10) (N := 23) C dX10_isRight_6 (k_X10_fromSlot l D kc ad 8 (by omega) (b + 1) (by omega) _ ) zy_X10_fromSlot mw_16_9 rfl rfl (Nat.zero_le _) (show 17 < 18 by decide) rfl rfl (Nat.le_of_ble_eq_true rfl) ⟨rfl, rfl, Nat.le_of_ble_eq_true rfl, Nat.le_of_ble_eq_true rfl⟩ ?_
  refine j_nmS (fun t1 et1 => ?_)
  refine j_aload_n C dX10_isRight_9 rfl rfl ?_
  refine j_bipush (v := nI 8) C dX10_isRight_10 (by decide +kernel) ?_
  refine j_bipush (v := nI 32) C dX10_isRight_12 (by decide +kernel) ?_
  refine j_callV1 (T := TX10) (N := 23) C dX10_isRight_14 (k_X10_against l D kc ad 8 (by omega) 32 (by omega) _ ) zy_X10_against mw_12_20 rfl rfl (Nat.zero_le _) (show 17 < 18 by decide) rfl rfl (Nat.le_of_ble_eq_true rfl) ⟨rfl, rfl, Nat.le_of_ble_eq_true rfl, Nat.le_of_ble_eq_true rfl⟩ ?_
  refine j_if_ge (tgt := 40) C dX10_isRight_17 (by decide) (fun q2 => ?_) (fun q2 => ?_)
  · have hA3 : fX10_isRight a b T0 s0 = fX10_isRight_a1 t1 := by (try rw [et1]); have q2z := q2; (try rw [et1] at q2z); (try dsimp only at q2z); unfold fX10_isRight; (try dsimp only); rw [if_pos q2z]; (try rfl)
    refine j_iconst (v := nI 0) C dX10_isRight_40 (by decide +kernel) ?_
    refine j_top (v := .int (bI false)) (by decide +kernel) ?_
    exact j_zret (st := []) C R0 dX10_isRight_41 ⟨(by rw [hA3]; unfold fX10_isRight_a1; (try dsimp only); all_goals ((try simp only [zfst_mk, zsnd_mk]); all_goals rfl)), ((by rw [hA3]; unfold fX10_isRight_a1; (try dsimp only); all_goals ((try simp only [zfst_mk, zsnd_mk]); all_goals rfl)))⟩
  · have hA4 : fX10_isRight a b T0 s0 = fX10_isRight_a6 a b T0 t1 := by (try rw [et1]); have q2z := q2; (try rw [et1] at q2z); (try dsimp only at q2z); unfold fX10_isRight; (try dsimp only); rw [if_neg q2z]; (try rfl)
    refine j_aload_n C dX10_isRight_20 rfl rfl ?_
    refine j_bipush (v := nI 10) C dX10_isRight_21 (by decide +kernel) ?_
    refine j_iload_n C dX10_isRight_23 rfl rfl ?_
    refine j_callV1 (T := TX10) (N := 23) C dX10_isRight_24 (k_X10_opens l D kc ad 10 (by omega) a (by omega) _ ) zy_X10_opens mw_27_0 rfl rfl (Nat.zero_le _) (show 17 < 18 by decide) rfl rfl (Nat.le_of_ble_eq_true rfl) ⟨rfl, rfl, Nat.le_of_ble_eq_true rfl, Nat.le_of_ble_eq_true rfl⟩ ?_
    refine j_nmS (fun t5 et5 => ?_)
    refine j_if_eqB (tgt := 40) C dX10_isRight_27 (by decide) (fun q6 => ?_) (fun q6 => ?_)
    · have hA7 : fX10_isRight_a6 a b T0 t1 = fX10_isRight_a2 t5 := by (try rw [et5]); have q6z := q6; (try rw [et5] at q6z); (try dsimp only at q6z); unfold fX10_isRight_a6; (try dsimp only); rw [q6z, cond_false]; (try rfl)
      refine j_iconst (v := nI 0) C dX10_isRight_40 (by decide +kernel) ?_
      refine j_top (v := .int (bI false)) (by decide +kernel) ?_
      exact j_zret (st := []) C R0 dX10_isRight_41 ⟨(by rw [hA4, hA7]; unfold fX10_isRight_a2; (try dsimp only); all_goals ((try simp only [zfst_mk, zsnd_mk]); all_goals rfl)), ((by rw [hA4, hA7]; unfold fX10_isRight_a2; (try dsimp only); all_goals ((try simp only [zfst_mk, zsnd_mk]); all_goals rfl)))⟩
    · have hA8 : fX10_isRight_a6 a b T0 t1 = fX10_isRight_a5 a b T0 t5 := by (try rw [et5]); have q6z := q6; (try rw [et5] at q6z); (try dsimp only at q6z); unfold fX10_isRight_a6; (try dsimp only); rw [q6z, cond_true]; (try rfl)
      refine j_aload_n C dX10_isRight_30 rfl rfl ?_
      refine j_bipush (v := nI 14) C dX10_isRight_31 (by decide +kernel) ?_
      refine j_iload_n C dX10_isRight_33 rfl rfl ?_
      refine j_callV1 (T := TX10) (N := 23) C dX10_isRight_34 (k_X10_opens l D kc ad 14 (by omega) b (by omega) _ ) zy_X10_opens mw_27_0 rfl rfl (Nat.zero_le _) (show 17 < 18 by decide) rfl rfl (Nat.le_of_ble_eq_true rfl) ⟨rfl, rfl, Nat.le_of_ble_eq_true rfl, Nat.le_of_ble_eq_true rfl⟩ ?_
      refine j_nmS (fun t9 et9 => ?_)
      refine j_if_neB (tgt := 42) C dX10_isRight_37 (by decide) (fun q10 => ?_) (fun q10 => ?_)
      · have hA11 : fX10_isRight_a5 a b T0 t5 = fX10_isRight_a3 a b T0 t9 := by (try rw [et9]); have q10z := q10; (try rw [et9] at q10z); (try dsimp only at q10z); unfold fX10_isRight_a5; (try dsimp only); rw [q10z, cond_true]; (try rfl)
        refine j_aload_n C dX10_isRight_42 rfl rfl ?_
        refine j_iconst (v := nI 4) C dX10_isRight_43 (by decide +kernel) ?_
        refine j_iload_n C dX10_isRight_44 rfl rfl ?_
        refine j_callV0 (T := TX10) (N := 23) C dX10_isRight_45 (k_X10_fromSlot l D kc ad 4 (by omega) b (by omega) _ ) zy_X10_fromSlot mw_16_9 rfl rfl (Nat.zero_le _) (show 17 < 18 by decide) rfl rfl (Nat.le_of_ble_eq_true rfl) ⟨rfl, rfl, Nat.le_of_ble_eq_true rfl, Nat.le_of_ble_eq_true rfl⟩ ?_
        refine j_nmS (fun t12 et12 => ?_)
        refine j_aload_n C dX10_isRight_48 rfl rfl ?_
        refine j_iconst (v := nI 4) C dX10_isRight_49 (by decide +kernel) ?_
        refine j_callV0 (T := TX10) (N := 23) C dX10_isRight_50 (k_X10_tellWords l D kc ad 4 (by omega) 0 _ (by (try rw [et12]); (try rw [et9]); (try rw [et5]); (try rw [et1]); simp (maxDischargeDepth := 12) only [i2_fX10_fromSlot, i2_fX10_addPoint, i2_fX10_many, i2_fX10_isNeutral, i2_fX10_opens, i2_fX10_negate, i2_fX10_eightTimes, i2_fX10_digestScalar, tw_len, tx_len, dg_len, tw_0, tx_0, dg_0, hms, htx]) (by omega)) zy_X10_tellWords mw_38_11 rfl rfl (Nat.zero_le _) (show 17 < 18 by decide) rfl rfl (Nat.le_of_ble_eq_true rfl) ⟨rfl, rfl, Nat.le_of_ble_eq_true rfl, Nat.le_of_ble_eq_true rfl⟩ ?_
        refine j_nmS (fun t13 et13 => ?_)
        refine j_aload_n C dX10_isRight_53 rfl rfl ?_
        refine j_iconst (v := nI 4) C dX10_isRight_54 (by decide +kernel) ?_
        refine j_iload_n C dX10_isRight_55 rfl rfl ?_
        refine j_callV0 (T := TX10) (N := 23) C dX10_isRight_56 (k_X10_fromSlot l D kc ad 4 (by omega) a (by omega) _ ) zy_X10_fromSlot mw_16_9 rfl rfl (Nat.zero_le _) (show 17 < 18 by decide) rfl rfl (Nat.le_of_ble_eq_true rfl) ⟨rfl, rfl, Nat.le_of_ble_eq_true rfl, Nat.le_of_ble_eq_true rfl⟩ ?_
        refine j_nmS (fun t14 et14 => ?_)
        refine j_aload_n C dX10_isRight_59 rfl rfl ?_
        refine j_iconst (v := nI 4) C dX10_isRight_60 (by decide +kernel) ?_
        refine j_callV0 (T := TX10) (N := 23) C dX10_isRight_61 (k_X10_tellWords l D kc ad 4 (by omega) 32 _ (by (try rw [et14]); (try rw [et13]); (try rw [et12]); (try rw [et9]); (try rw [et5]); (try rw [et1]); simp (maxDischargeDepth := 12) only [i2_fX10_fromSlot, i2_fX10_addPoint, i2_fX10_many, i2_fX10_isNeutral, i2_fX10_opens, i2_fX10_negate, i2_fX10_eightTimes, i2_fX10_digestScalar, tw_len, tx_len, dg_len, tw_0, tx_0, dg_0, hms, htx]) (by omega)) zy_X10_tellWords mw_38_11 rfl rfl (Nat.zero_le _) (show 17 < 18 by decide) rfl rfl (Nat.le_of_ble_eq_true rfl) ⟨rfl, rfl, Nat.le_of_ble_eq_true rfl, Nat.le_of_ble_eq_true rfl⟩ ?_
        refine j_nmS (fun t15 et15 => ?_)
        refine j_aload_n C dX10_isRight_64 rfl rfl ?_
        refine j_callV0 (T := TX10) (N := 23) C dX10_isRight_65 (k_X10_tellText l D kc ad 64 T0 _ (by (try rw [et15]); (try rw [et14]); (try rw [et13]); (try rw [et12]); (try rw [et9]); (try rw [et5]); (try rw [et1]); simp (maxDischargeDepth := 12) only [i2_fX10_fromSlot, i2_fX10_addPoint, i2_fX10_many, i2_fX10_isNeutral, i2_fX10_opens, i2_fX10_negate, i2_fX10_eightTimes, i2_fX10_digestScalar, tw_len, tx_len, dg_len, tw_0, tx_0, dg_0, hms, htx]) (by (try rw [et15]); (try rw [et14]); (try rw [et13]); (try rw [et12]); (try rw [et9]); (try rw [et5]); (try rw [et1]); simp (maxDischargeDepth := 12) only [i2_fX10_fromSlot, i2_fX10_addPoint, i2_fX10_many, i2_fX10_isNeutral, i2_fX10_opens, i2_fX10_negate, i2_fX10_eightTimes, i2_fX10_digestScalar, tw_len, tx_len, dg_len, tw_0, tx_0, dg_0, hms, htx]) (by omega) (by omega)) zy_X10_tellText mw_36_4 rfl rfl (Nat.zero_le _) (show 17 < 18 by decide) rfl rfl (Nat.le_of_ble_eq_true rfl) ⟨rfl, rfl, Nat.le_of_ble_eq_true rfl, Nat.le_of_ble_eq_true rfl⟩ ?_
        refine j_nmS (fun t16 et16 => ?_)
        refine j_aload_n C dX10_isRight_68 rfl rfl ?_
        refine j_callV0 (T := TX10) (N := 23) C dX10_isRight_69 (k_X10_digests l D kc ad (64 + T0) _ (by (try rw [et16]); (try rw [et15]); (try rw [et14]); (try rw [et13]); (try rw [et12]); (try rw [et9]); (try rw [et5]); (try rw [et1]); simp (maxDischargeDepth := 12) only [i2_fX10_fromSlot, i2_fX10_addPoint, i2_fX10_many, i2_fX10_isNeutral, i2_fX10_opens, i2_fX10_negate, i2_fX10_eightTimes, i2_fX10_digestScalar, tw_len, tx_len, dg_len, tw_0, tx_0, dg_0, hms, htx]) (by omega)) zy_X10_digests mw_36_13 rfl rfl (Nat.zero_le _) (show 17 < 18 by decide) rfl rfl (Nat.le_of_ble_eq_true rfl) ⟨rfl, rfl, Nat.le_of_ble_eq_true rfl, Nat.le_of_ble_eq_true rfl⟩ ?_
        refine j_nmS (fun t17 et17 => ?_)
        refine j_aload_n C dX10_isRight_72 rfl rfl ?_
        refine j_bipush (v := nI 20) C dX10_isRight_73 (by decide +kernel) ?_
        refine j_callV0 (T := TX10) (N := 23) C dX10_isRight_75 (k_X10_digestScalar l D kc ad 20 (by omega) _ ) zy_X10_digestScalar mw_39_11 rfl rfl (Nat.zero_le _) (show 17 < 18 by decide) rfl rfl (Nat.le_of_ble_eq_true rfl) ⟨rfl, rfl, Nat.le_of_ble_eq_true rfl, Nat.le_of_ble_eq_true rfl⟩ ?_
        refine j_nmS (fun t18 et18 => ?_)
        refine j_aload_n C dX10_isRight_78 rfl rfl ?_
        refine j_bipush (v := nI 18) C dX10_isRight_79 (by decide +kernel) ?_
        refine j_iconst (v := nI 5) C dX10_isRight_81 (by decide +kernel) ?_
        refine j_bipush (v := nI 8) C dX10_isRight_82 (by decide +kernel) ?_
        refine j_callV0 (T := TX10) (N := 23) C dX10_isRight_84 (k_X10_many l D kc ad 18 (by omega) 5 (by omega) 8 (by omega) _ ) zy_X10_many mw_30_2 rfl rfl (Nat.zero_le _) (show 17 < 18 by decide) rfl rfl (Nat.le_of_ble_eq_true rfl) ⟨rfl, rfl, Nat.le_of_ble_eq_true rfl, Nat.le_of_ble_eq_true rfl⟩ ?_
        refine j_nmS (fun t19 et19 => ?_)
        refine j_aload_n C dX10_isRight_87 rfl rfl ?_
        refine j_bipush (v := nI 18) C dX10_isRight_88 (by decide +kernel) ?_
        refine j_callV0 (T := TX10) (N := 23) C dX10_isRight_90 (k_X10_eightTimes l D kc ad 18 (by omega) _ ) zy_X10_eightTimes mw_40_15 rfl rfl (Nat.zero_le _) (show 17 < 18 by decide) rfl rfl (Nat.le_of_ble_eq_true rfl) ⟨rfl, rfl, Nat.le_of_ble_eq_true rfl, Nat.le_of_ble_eq_true rfl⟩ ?_
        refine j_nmS (fun t20 et20 => ?_)
        refine j_aload_n C dX10_isRight_93 rfl rfl ?_
        refine j_bipush (v := nI 22) C dX10_isRight_94 (by decide +kernel) ?_
        refine j_bipush (v := nI 10) C dX10_isRight_96 (by decide +kernel) ?_
        refine j_bipush (v := nI 20) C dX10_isRight_98 (by decide +kernel) ?_
        refine j_callV0 (T := TX10) (N := 23) C dX10_isRight_100 (k_X10_many l D kc ad 22 (by omega) 10 (by omega) 20 (by omega) _ ) zy_X10_many mw_30_2 rfl rfl (Nat.zero_le _) (show 17 < 18 by decide) rfl rfl (Nat.le_of_ble_eq_true rfl) ⟨rfl, rfl, Nat.le_of_ble_eq_true rfl, Nat.le_of_ble_eq_true rfl⟩ ?_
        refine j_nmS (fun t21 et21 => ?_)
        refine j_aload_n C dX10_isRight_103 rfl rfl ?_
        refine j_bipush (v := nI 22) C dX10_isRight_104 (by decide +kernel) ?_
        refine j_bipush (v := nI 14) C dX10_isRight_106 (by decide +kernel) ?_
        refine j_callV0 (T := TX10) (N := 23) C dX10_isRight_108 (k_X10_addPoint l D kc ad 22 (by omega) 14 (by omega) _ ) zy_X10_addPoint mw_28_16 rfl rfl (Nat.zero_le _) (show 17 < 18 by decide) rfl rfl (Nat.le_of_ble_eq_true rfl) ⟨rfl, rfl, Nat.le_of_ble_eq_true rfl, Nat.le_of_ble_eq_true rfl⟩ ?_
        refine j_nmS (fun t22 et22 => ?_)
        refine j_aload_n C dX10_isRight_111 rfl rfl ?_
        refine j_bipush (v := nI 22) C dX10_isRight_112 (by decide +kernel) ?_
        refine j_callV0 (T := TX10) (N := 23) C dX10_isRight_114 (k_X10_eightTimes l D kc ad 22 (by omega) _ ) zy_X10_eightTimes mw_40_15 rfl rfl (Nat.zero_le _) (show 17 < 18 by decide) rfl rfl (Nat.le_of_ble_eq_true rfl) ⟨rfl, rfl, Nat.le_of_ble_eq_true rfl, Nat.le_of_ble_eq_true rfl⟩ ?_
        refine j_nmS (fun t23 et23 => ?_)
        refine j_aload_n C dX10_isRight_117 rfl rfl ?_
        refine j_bipush (v := nI 22) C dX10_isRight_118 (by decide +kernel) ?_
        refine j_callV0 (T := TX10) (N := 23) C dX10_isRight_120 (k_X10_negate l D kc ad 22 (by omega) _ ) zy_X10_negate mw_28_12 rfl rfl (Nat.zero_le _) (show 17 < 18 by decide) rfl rfl (Nat.le_of_ble_eq_true rfl) ⟨rfl, rfl, Nat.le_of_ble_eq_true rfl, Nat.le_of_ble_eq_true rfl⟩ ?_
        refine j_nmS (fun t24 et24 => ?_)
        refine j_aload_n C dX10_isRight_123 rfl rfl ?_
        refine j_bipush (v := nI 18) C dX10_isRight_124 (by decide +kernel) ?_
        refine j_bipush (v := nI 22) C dX10_isRight_126 (by decide +kernel) ?_
        refine j_callV0 (T := TX10) (N := 23) C dX10_isRight_128 (k_X10_addPoint l D kc ad 18 (by omega) 22 (by omega) _ ) zy_X10_addPoint mw_28_16 rfl rfl (Nat.zero_le _) (show 17 < 18 by decide) rfl rfl (Nat.le_of_ble_eq_true rfl) ⟨rfl, rfl, Nat.le_of_ble_eq_true rfl, Nat.le_of_ble_eq_true rfl⟩ ?_
        refine j_nmS (fun t25 et25 => ?_)
        refine j_aload_n C dX10_isRight_131 rfl rfl ?_
        refine j_bipush (v := nI 18) C dX10_isRight_132 (by decide +kernel) ?_
        refine j_callV1 (T := TX10) (N := 23) C dX10_isRight_134 (k_X10_isNeutral l D kc ad 18 (by omega) _ ) zy_X10_isNeutral mw_31_9 rfl rfl (Nat.zero_le _) (show 17 < 18 by decide) rfl rfl (Nat.le_of_ble_eq_true rfl) ⟨rfl, rfl, Nat.le_of_ble_eq_true rfl, Nat.le_of_ble_eq_true rfl⟩ ?_
        refine j_nmS (fun t26 et26 => ?_)
        exact j_zret (st := []) C R0 dX10_isRight_137 ⟨(by rw [hA4, hA8, hA11]; (try rw [et26]); (try rw [et25]); (try rw [et24]); (try rw [et23]); (try rw [et22]); (try rw [et21]); (try rw [et20]); (try rw [et19]); (try rw [et18]); (try rw [et17]); (try rw [et16]); (try rw [et15]); (try rw [et14]); (try rw [et13]); (try rw [et12]); unfold fX10_isRight_a3; (try dsimp only); all_goals ((try simp only [zfst_mk, zsnd_mk]); all_goals rfl)), ((by rw [hA4, hA8, hA11]; (try rw [et26]); (try rw [et25]); (try rw [et24]); (try rw [et23]); (try rw [et22]); (try rw [et21]); (try rw [et20]); (try rw [et19]); (try rw [et18]); (try rw [et17]); (try rw [et16]); (try rw [et15]); (try rw [et14]); (try rw [et13]); (try rw [et12]); unfold fX10_isRight_a3; (try dsimp only); all_goals ((try simp only [zfst_mk, zsnd_mk]); all_goals rfl)))⟩
      · have hA27 : fX10_isRight_a5 a b T0 t5 = fX10_isRight_a4 t9 := by (try rw [et9]); have q10z := q10; (try rw [et9] at q10z); (try dsimp only at q10z); unfold fX10_isRight_a5; (try dsimp only); rw [q10z, cond_false]; (try rfl)
        refine j_iconst (v := nI 0) C dX10_isRight_40 (by decide +kernel) ?_
        refine j_top (v := .int (bI false)) (by decide +kernel) ?_
        exact j_zret (st := []) C R0 dX10_isRight_41 ⟨(by rw [hA4, hA8, hA27]; unfold fX10_isRight_a4; (try dsimp only); all_goals ((try simp only [zfst_mk, zsnd_mk]); all_goals rfl)), ((by rw [hA4, hA8, hA27]; unfold fX10_isRight_a4; (try dsimp only); all_goals ((try simp only [zfst_mk, zsnd_mk]); all_goals rfl)))⟩
