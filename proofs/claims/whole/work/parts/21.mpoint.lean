def fX10_neutral (p : Nat) (s0 : zSt) : zSt :=
    let t1 := fX10_put p ((0 : Int64)) s0
    let t2 := fX10_put (p + 1) ((1 : Int64)) t1
    let t3 := fX10_put (p + 2) ((1 : Int64)) t2
    let t4 := fX10_put (p + 3) ((0 : Int64)) t3
    t4
set_option maxHeartbeats 4000000 in
set_option maxRecDepth 100000 in
theorem k_X10_neutral (l : Launch) (D : va_G) (kc : Nat → ClassId) (ad : Nat → Nat) (p : Nat) (hp : p + 3 < 48) (s0 : zSt) : zM l yX10_neutral cX10_neutral 2 none rX10_neutral (wM D kc ad) [.ref (zad (wM D kc ad) 17), .int (nI (p))] s0 (zV0 (fX10_neutral p s0)) := by
  refine z_of (own := RX10) (by decide +kernel) rfl (Nat.le_of_ble_eq_true rfl) ?_
  intro κ C R0
  refine j_at [(0, .ref (zad (wM D kc ad) 17)), (1, .int (nI (p)))] ⟨rfl, rfl, trivial⟩ ?_
  refine j_aload_n C dX10_neutral_0 rfl rfl ?_
  refine j_iload_n C dX10_neutral_1 rfl rfl ?_
  refine j_lconst (v := 0) C dX10_neutral_2 rfl ?_
  refine j_callV0 (T := TX10) (N := 23) C dX10_neutral_3 (k_X10_put l D kc ad p (by omega) ((0 : Int64)) _ ) zy_X10_put mw_10_15 rfl rfl (Nat.zero_le _) (show 17 < 18 by decide) rfl rfl (Nat.le_of_ble_eq_true rfl) ⟨rfl, rfl, Nat.le_of_ble_eq_true rfl, Nat.le_of_ble_eq_true rfl⟩ ?_
  refine j_nmS (fun t1 et1 => ?_)
  refine j_aload_n C dX10_neutral_6 rfl rfl ?_
  refine j_iload_n C dX10_neutral_7 rfl rfl ?_
  refine j_iconst (v := nI 1) C dX10_neutral_8 (by decide +kernel) ?_
  refine j_iaddN C dX10_neutral_9 ?_
  refine j_lconst (v := 1) C dX10_neutral_10 rfl ?_
  refine j_callV0 (T := TX10) (N := 23) C dX10_neutral_11 (k_X10_put l D kc ad (p + 1) (by omega) ((1 : Int64)) _ ) zy_X10_put mw_10_15 rfl rfl (Nat.zero_le _) (show 17 < 18 by decide) rfl rfl (Nat.le_of_ble_eq_true rfl) ⟨rfl, rfl, Nat.le_of_ble_eq_true rfl, Nat.le_of_ble_eq_true rfl⟩ ?_
  refine j_nmS (fun t2 et2 => ?_)
  refine j_aload_n C dX10_neutral_14 rfl rfl ?_
  refine j_iload_n C dX10_neutral_15 rfl rfl ?_
  refine j_iconst (v := nI 2) C dX10_neutral_16 (by decide +kernel) ?_
  refine j_iaddN C dX10_neutral_17 ?_
  refine j_lconst (v := 1) C dX10_neutral_18 rfl ?_
  refine j_callV0 (T := TX10) (N := 23) C dX10_neutral_19 (k_X10_put l D kc ad (p + 2) (by omega) ((1 : Int64)) _ ) zy_X10_put mw_10_15 rfl rfl (Nat.zero_le _) (show 17 < 18 by decide) rfl rfl (Nat.le_of_ble_eq_true rfl) ⟨rfl, rfl, Nat.le_of_ble_eq_true rfl, Nat.le_of_ble_eq_true rfl⟩ ?_
  refine j_nmS (fun t3 et3 => ?_)
  refine j_aload_n C dX10_neutral_22 rfl rfl ?_
  refine j_iload_n C dX10_neutral_23 rfl rfl ?_
  refine j_iconst (v := nI 3) C dX10_neutral_24 (by decide +kernel) ?_
  refine j_iaddN C dX10_neutral_25 ?_
  refine j_lconst (v := 0) C dX10_neutral_26 rfl ?_
  refine j_callV0 (T := TX10) (N := 23) C dX10_neutral_27 (k_X10_put l D kc ad (p + 3) (by omega) ((0 : Int64)) _ ) zy_X10_put mw_10_15 rfl rfl (Nat.zero_le _) (show 17 < 18 by decide) rfl rfl (Nat.le_of_ble_eq_true rfl) ⟨rfl, rfl, Nat.le_of_ble_eq_true rfl, Nat.le_of_ble_eq_true rfl⟩ ?_
  refine j_nmS (fun t4 et4 => ?_)
  exact j_vret (st := []) C R0 dX10_neutral_30 ⟨rfl, (by (try rw [et4]); (try rw [et3]); (try rw [et2]); (try rw [et1]); unfold fX10_neutral; (try dsimp only); all_goals ((try simp only [zfst_mk, zsnd_mk]); all_goals rfl))⟩
theorem k2_fX10_neutral (p : Nat) (s0 : zSt) : zk2 (fX10_neutral p s0) = zk2 s0 := by
  unfold fX10_neutral
  (try dsimp only)
  all_goals (simp only [zW_2, zL_2, k2_fX10_put]; done)
theorem i2_fX10_neutral (p : Nat) (s0 : zSt) (kk9 : Nat) : (fX10_neutral p s0).2.2 kk9 = s0.2.2 kk9 := z2_I (k2_fX10_neutral p s0) kk9
theorem i3_fX10_neutral (p : Nat) (s0 : zSt) (kk9 : Nat) : zi (fX10_neutral p s0) kk9 = zi s0 kk9 := zi_of (k2_fX10_neutral p s0) kk9

def fX10_addPoint (p : Nat) (q : Nat) (s0 : zSt) : zSt :=
    let t1 := fX10_subtract 26 (p + 1) p s0
    let t2 := fX10_subtract 27 (q + 1) q t1
    let t3 := fX10_multiply 26 26 27 t2
    let t4 := fX10_add 27 p (p + 1) t3
    let t5 := fX10_add 28 q (q + 1) t4
    let t6 := fX10_multiply 27 27 28 t5
    let t7 := fX10_multiply 28 (p + 3) (q + 3) t6
    let t8 := fX10_multiply 28 28 3 t7
    let t9 := fX10_multiply 29 (p + 2) (q + 2) t8
    let t10 := fX10_add 29 29 29 t9
    let t11 := fX10_subtract 30 27 26 t10
    let t12 := fX10_subtract 31 29 28 t11
    let t13 := fX10_add 32 29 28 t12
    let t14 := fX10_add 33 27 26 t13
    let t15 := fX10_multiply p 30 31 t14
    let t16 := fX10_multiply (p + 1) 33 32 t15
    let t17 := fX10_multiply (p + 2) 32 31 t16
    let t18 := fX10_multiply (p + 3) 30 33 t17
    t18
set_option maxHeartbeats 4000000 in
set_option maxRecDepth 100000 in
theorem k_X10_addPoint (l : Launch) (D : va_G) (kc : Nat → ClassId) (ad : Nat → Nat) (p : Nat) (hp : p + 3 < 48) (q : Nat) (hq : q + 3 < 48) (s0 : zSt) : zM l yX10_addPoint cX10_addPoint 3 none rX10_addPoint (wM D kc ad) [.ref (zad (wM D kc ad) 17), .int (nI (p)), .int (nI (q))] s0 (zV0 (fX10_addPoint p q s0)) := by
  refine z_of (own := RX10) (by decide +kernel) rfl (Nat.le_of_ble_eq_true rfl) ?_
  intro κ C R0
  refine j_at [(0, .ref (zad (wM D kc ad) 17)), (1, .int (nI (p))), (2, .int (nI (q)))] ⟨rfl, rfl, rfl, trivial⟩ ?_
  refine j_aload_n C dX10_addPoint_0 rfl rfl ?_
  refine j_bipush (v := nI 26) C dX10_addPoint_1 (by decide +kernel) ?_
  refine j_iload_n C dX10_addPoint_3 rfl rfl ?_
  refine j_iconst (v := nI 1) C dX10_addPoint_4 (by decide +kernel) ?_
  refine j_iaddN C dX10_addPoint_5 ?_
  refine j_iload_n C dX10_addPoint_6 rfl rfl ?_
  refine j_callV0 (T := TX10) (N := 23) C dX10_addPoint_7 (k_X10_subtract l D kc ad 26 (by omega) (p + 1) (by omega) p (by omega) _ ) zy_X10_subtract mw_11_17 rfl rfl (Nat.zero_le _) (show 17 < 18 by decide) rfl rfl (Nat.le_of_ble_eq_true rfl) ⟨rfl, rfl, Nat.le_of_ble_eq_true rfl, Nat.le_of_ble_eq_true rfl⟩ ?_
  refine j_nmS (fun t1 et1 => ?_)
  refine j_aload_n C dX10_addPoint_10 rfl rfl ?_
  refine j_bipush (v := nI 27) C dX10_addPoint_11 (by decide +kernel) ?_
  refine j_iload_n C dX10_addPoint_13 rfl rfl ?_
  refine j_iconst (v := nI 1) C dX10_addPoint_14 (by decide +kernel) ?_
  refine j_iaddN C dX10_addPoint_15 ?_
  refine j_iload_n C dX10_addPoint_16 rfl rfl ?_
  refine j_callV0 (T := TX10) (N := 23) C dX10_addPoint_17 (k_X10_subtract l D kc ad 27 (by omega) (q + 1) (by omega) q (by omega) _ ) zy_X10_subtract mw_11_17 rfl rfl (Nat.zero_le _) (show 17 < 18 by decide) rfl rfl (Nat.le_of_ble_eq_true rfl) ⟨rfl, rfl, Nat.le_of_ble_eq_true rfl, Nat.le_of_ble_eq_true rfl⟩ ?_
  refine j_nmS (fun t2 et2 => ?_)
  refine j_aload_n C dX10_addPoint_20 rfl rfl ?_
  refine j_bipush (v := nI 26) C dX10_addPoint_21 (by decide +kernel) ?_
  refine j_bipush (v := nI 26) C dX10_addPoint_23 (by decide +kernel) ?_
  refine j_bipush (v := nI 27) C dX10_addPoint_25 (by decide +kernel) ?_
  refine j_callV0 (T := TX10) (N := 23) C dX10_addPoint_27 (k_X10_multiply l D kc ad 26 (by omega) 26 (by omega) 27 (by omega) _ ) zy_X10_multiply mw_11_4 rfl rfl (Nat.zero_le _) (show 17 < 18 by decide) rfl rfl (Nat.le_of_ble_eq_true rfl) ⟨rfl, rfl, Nat.le_of_ble_eq_true rfl, Nat.le_of_ble_eq_true rfl⟩ ?_
  refine j_nmS (fun t3 et3 => ?_)
  refine j_aload_n C dX10_addPoint_30 rfl rfl ?_
  refine j_bipush (v := nI 27) C dX10_addPoint_31 (by decide +kernel) ?_
  refine j_iload_n C dX10_addPoint_33 rfl rfl ?_
  refine j_iload_n C dX10_addPoint_34 rfl rfl ?_
  refine j_iconst (v := nI 1) C dX10_addPoint_35 (by decide +kernel) ?_
  refine j_iaddN C dX10_addPoint_36 ?_
  refine j_callV0 (T := TX10) (N := 23) C dX10_addPoint_37 (k_X10_add l D kc ad 27 (by omega) p (by omega) (p + 1) (by omega) _ ) zy_X10_add mw_12_2 rfl rfl (Nat.zero_le _) (show 17 < 18 by decide) rfl rfl (Nat.le_of_ble_eq_true rfl) ⟨rfl, rfl, Nat.le_of_ble_eq_true rfl, Nat.le_of_ble_eq_true rfl⟩ ?_
  refine j_nmS (fun t4 et4 => ?_)
  refine j_aload_n C dX10_addPoint_40 rfl rfl ?_
  refine j_bipush (v := nI 28) C dX10_addPoint_41 (by decide +kernel) ?_
  refine j_iload_n C dX10_addPoint_43 rfl rfl ?_
  refine j_iload_n C dX10_addPoint_44 rfl rfl ?_
  refine j_iconst (v := nI 1) C dX10_addPoint_45 (by decide +kernel) ?_
  refine j_iaddN C dX10_addPoint_46 ?_
  refine j_callV0 (T := TX10) (N := 23) C dX10_addPoint_47 (k_X10_add l D kc ad 28 (by omega) q (by omega) (q + 1) (by omega) _ ) zy_X10_add mw_12_2 rfl rfl (Nat.zero_le _) (show 17 < 18 by decide) rfl rfl (Nat.le_of_ble_eq_true rfl) ⟨rfl, rfl, Nat.le_of_ble_eq_true rfl, Nat.le_of_ble_eq_true rfl⟩ ?_
  refine j_nmS (fun t5 et5 => ?_)
  refine j_aload_n C dX10_addPoint_50 rfl rfl ?_
  refine j_bipush (v := nI 27) C dX10_addPoint_51 (by decide +kernel) ?_
  refine j_bipush (v := nI 27) C dX10_addPoint_53 (by decide +kernel) ?_
  refine j_bipush (v := nI 28) C dX10_addPoint_55 (by decide +kernel) ?_
  refine j_callV0 (T := TX10) (N := 23) C dX10_addPoint_57 (k_X10_multiply l D kc ad 27 (by omega) 27 (by omega) 28 (by omega) _ ) zy_X10_multiply mw_11_4 rfl rfl (Nat.zero_le _) (show 17 < 18 by decide) rfl rfl (Nat.le_of_ble_eq_true rfl) ⟨rfl, rfl, Nat.le_of_ble_eq_true rfl, Nat.le_of_ble_eq_true rfl⟩ ?_
  refine j_nmS (fun t6 et6 => ?_)
  refine j_aload_n C dX10_addPoint_60 rfl rfl ?_
  refine j_bipush (v := nI 28) C dX10_addPoint_61 (by decide +kernel) ?_
  refine j_iload_n C dX10_addPoint_63 rfl rfl ?_
  refine j_iconst (v := nI 3) C dX10_addPoint_64 (by decide +kernel) ?_
  refine j_iaddN C dX10_addPoint_65 ?_
  refine j_iload_n C dX10_addPoint_66 rfl rfl ?_
  refine j_iconst (v := nI 3) C dX10_addPoint_67 (by decide +kernel) ?_
  refine j_iaddN C dX10_addPoint_68 ?_
  refine j_callV0 (T := TX10) (N := 23) C dX10_addPoint_69 (k_X10_multiply l D kc ad 28 (by omega) (p + 3) (by omega) (q + 3) (by omega) _ ) zy_X10_multiply mw_11_4 rfl rfl (Nat.zero_le _) (show 17 < 18 by decide) rfl rfl (Nat.le_of_ble_eq_true rfl) ⟨rfl, rfl, Nat.le_of_ble_eq_true rfl, Nat.le_of_ble_eq_true rfl⟩ ?_
  refine j_nmS (fun t7 et7 => ?_)
  refine j_aload_n C dX10_addPoint_72 rfl rfl ?_
  refine j_bipush (v := nI 28) C dX10_addPoint_73 (by decide +kernel) ?_
  refine j_bipush (v := nI 28) C dX10_addPoint_75 (by decide +kernel) ?_
  refine j_iconst (v := nI 3) C dX10_addPoint_77 (by decide +kernel) ?_
  refine j_callV0 (T := TX10) (N := 23) C dX10_addPoint_78 (k_X10_multiply l D kc ad 28 (by omega) 28 (by omega) 3 (by omega) _ ) zy_X10_multiply mw_11_4 rfl rfl (Nat.zero_le _) (show 17 < 18 by decide) rfl rfl (Nat.le_of_ble_eq_true rfl) ⟨rfl, rfl, Nat.le_of_ble_eq_true rfl, Nat.le_of_ble_eq_true rfl⟩ ?_
  refine j_nmS (fun t8 et8 => ?_)
  refine j_aload_n C dX10_addPoint_81 rfl rfl ?_
  refine j_bipush (v := nI 29) C dX10_addPoint_82 (by decide +kernel) ?_
  refine j_iload_n C dX10_addPoint_84 rfl rfl ?_
  refine j_iconst (v := nI 2) C dX10_addPoint_85 (by decide +kernel) ?_
  refine j_iaddN C dX10_addPoint_86 ?_
  refine j_iload_n C dX10_addPoint_87 rfl rfl ?_
  refine j_iconst (v := nI 2) C dX10_addPoint_88 (by decide +kernel) ?_
  refine j_iaddN C dX10_addPoint_89 ?_
  refine j_callV0 (T := TX10) (N := 23) C dX10_addPoint_90 (k_X10_multiply l D kc ad 29 (by omega) (p + 2) (by omega) (q + 2) (by omega) _ ) zy_X10_multiply mw_11_4 rfl rfl (Nat.zero_le _) (show 17 < 18 by decide) rfl rfl (Nat.le_of_ble_eq_true rfl) ⟨rfl, rfl, Nat.le_of_ble_eq_true rfl, Nat.le_of_ble_eq_true rfl⟩ ?_
  refine j_nmS (fun t9 et9 => ?_)
  refine j_aload_n C dX10_addPoint_93 rfl rfl ?_
  refine j_bipush (v := nI 29) C dX10_addPoint_94 (by decide +kernel) ?_
  refine j_bipush (v := nI 29) C dX10_addPoint_96 (by decide +kernel) ?_
  refine j_bipush (v := nI 29) C dX10_addPoint_98 (by decide +kernel) ?_
  refine j_callV0 (T := TX10) (N := 23) C dX10_addPoint_100 (k_X10_add l D kc ad 29 (by omega) 29 (by omega) 29 (by omega) _ ) zy_X10_add mw_12_2 rfl rfl (Nat.zero_le _) (show 17 < 18 by decide) rfl rfl (Nat.le_of_ble_eq_true rfl) ⟨rfl, rfl, Nat.le_of_ble_eq_true rfl, Nat.le_of_ble_eq_true rfl⟩ ?_
  refine j_nmS (fun t10 et10 => ?_)
  refine j_aload_n C dX10_addPoint_103 rfl rfl ?_
  refine j_bipush (v := nI 30) C dX10_addPoint_104 (by decide +kernel) ?_
  refine j_bipush (v := nI 27) C dX10_addPoint_106 (by decide +kernel) ?_
  refine j_bipush (v := nI 26) C dX10_addPoint_108 (by decide +kernel) ?_
  refine j_callV0 (T := TX10) (N := 23) C dX10_addPoint_110 (k_X10_subtract l D kc ad 30 (by omega) 27 (by omega) 26 (by omega) _ ) zy_X10_subtract mw_11_17 rfl rfl (Nat.zero_le _) (show 17 < 18 by decide) rfl rfl (Nat.le_of_ble_eq_true rfl) ⟨rfl, rfl, Nat.le_of_ble_eq_true rfl, Nat.le_of_ble_eq_true rfl⟩ ?_
  refine j_nmS (fun t11 et11 => ?_)
  refine j_aload_n C dX10_addPoint_113 rfl rfl ?_
  refine j_bipush (v := nI 31) C dX10_addPoint_114 (by decide +kernel) ?_
  refine j_bipush (v := nI 29) C dX10_addPoint_116 (by decide +kernel) ?_
  refine j_bipush (v := nI 28) C dX10_addPoint_118 (by decide +kernel) ?_
  refine j_callV0 (T := TX10) (N := 23) C dX10_addPoint_120 (k_X10_subtract l D kc ad 31 (by omega) 29 (by omega) 28 (by omega) _ ) zy_X10_subtract mw_11_17 rfl rfl (Nat.zero_le _) (show 17 < 18 by decide) rfl rfl (Nat.le_of_ble_eq_true rfl) ⟨rfl, rfl, Nat.le_of_ble_eq_true rfl, Nat.le_of_ble_eq_true rfl⟩ ?_
  refine j_nmS (fun t12 et12 => ?_)
  refine j_aload_n C dX10_addPoint_123 rfl rfl ?_
  refine j_bipush (v := nI 32) C dX10_addPoint_124 (by decide +kernel) ?_
  refine j_bipush (v := nI 29) C dX10_addPoint_126 (by decide +kernel) ?_
  refine j_bipush (v := nI 28) C dX10_addPoint_128 (by decide +kernel) ?_
  refine j_callV0 (T := TX10) (N := 23) C dX10_addPoint_130 (k_X10_add l D kc ad 32 (by omega) 29 (by omega) 28 (by omega) _ ) zy_X10_add mw_12_2 rfl rfl (Nat.zero_le _) (show 17 < 18 by decide) rfl rfl (Nat.le_of_ble_eq_true rfl) ⟨rfl, rfl, Nat.le_of_ble_eq_true rfl, Nat.le_of_ble_eq_true rfl⟩ ?_
  refine j_nmS (fun t13 et13 => ?_)
  refine j_aload_n C dX10_addPoint_133 rfl rfl ?_
  refine j_bipush (v := nI 33) C dX10_addPoint_134 (by decide +kernel) ?_
  refine j_bipush (v := nI 27) C dX10_addPoint_136 (by decide +kernel) ?_
  refine j_bipush (v := nI 26) C dX10_addPoint_138 (by decide +kernel) ?_
  refine j_callV0 (T := TX10) (N := 23) C dX10_addPoint_140 (k_X10_add l D kc ad 33 (by omega) 27 (by omega) 26 (by omega) _ ) zy_X10_add mw_12_2 rfl rfl (Nat.zero_le _) (show 17 < 18 by decide) rfl rfl (Nat.le_of_ble_eq_true rfl) ⟨rfl, rfl, Nat.le_of_ble_eq_true rfl, Nat.le_of_ble_eq_true rfl⟩ ?_
  refine j_nmS (fun t14 et14 => ?_)
  refine j_aload_n C dX10_addPoint_143 rfl rfl ?_
  refine j_iload_n C dX10_addPoint_144 rfl rfl ?_
  refine j_bipush (v := nI 30) C dX10_addPoint_145 (by decide +kernel) ?_
  refine j_bipush (v := nI 31) C dX10_addPoint_147 (by decide +kernel) ?_
  refine j_callV0 (T := TX10) (N := 23) C dX10_addPoint_149 (k_X10_multiply l D kc ad p (by omega) 30 (by omega) 31 (by omega) _ ) zy_X10_multiply mw_11_4 rfl rfl (Nat.zero_le _) (show 17 < 18 by decide) rfl rfl (Nat.le_of_ble_eq_true rfl) ⟨rfl, rfl, Nat.le_of_ble_eq_true rfl, Nat.le_of_ble_eq_true rfl⟩ ?_
  refine j_nmS (fun t15 et15 => ?_)
  refine j_aload_n C dX10_addPoint_152 rfl rfl ?_
  refine j_iload_n C dX10_addPoint_153 rfl rfl ?_
  refine j_iconst (v := nI 1) C dX10_addPoint_154 (by decide +kernel) ?_
  refine j_iaddN C dX10_addPoint_155 ?_
  refine j_bipush (v := nI 33) C dX10_addPoint_156 (by decide +kernel) ?_
  refine j_bipush (v := nI 32) C dX10_addPoint_158 (by decide +kernel) ?_
  refine j_callV0 (T := TX10) (N := 23) C dX10_addPoint_160 (k_X10_multiply l D kc ad (p + 1) (by omega) 33 (by omega) 32 (by omega) _ ) zy_X10_multiply mw_11_4 rfl rfl (Nat.zero_le _) (show 17 < 18 by decide) rfl rfl (Nat.le_of_ble_eq_true rfl) ⟨rfl, rfl, Nat.le_of_ble_eq_true rfl, Nat.le_of_ble_eq_true rfl⟩ ?_
  refine j_nmS (fun t16 et16 => ?_)
  refine j_aload_n C dX10_addPoint_163 rfl rfl ?_
  refine j_iload_n C dX10_addPoint_164 rfl rfl ?_
  refine j_iconst (v := nI 2) C dX10_addPoint_165 (by decide +kernel) ?_
  refine j_iaddN C dX10_addPoint_166 ?_
  refine j_bipush (v := nI 32) C dX10_addPoint_167 (by decide +kernel) ?_
  refine j_bipush (v := nI 31) C dX10_addPoint_169 (by decide +kernel) ?_
  refine j_callV0 (T := TX10) (N := 23) C dX10_addPoint_171 (k_X10_multiply l D kc ad (p + 2) (by omega) 32 (by omega) 31 (by omega) _ ) zy_X10_multiply mw_11_4 rfl rfl (Nat.zero_le _) (show 17 < 18 by decide) rfl rfl (Nat.le_of_ble_eq_true rfl) ⟨rfl, rfl, Nat.le_of_ble_eq_true rfl, Nat.le_of_ble_eq_true rfl⟩ ?_
  refine j_nmS (fun t17 et17 => ?_)
  refine j_aload_n C dX10_addPoint_174 rfl rfl ?_
  refine j_iload_n C dX10_addPoint_175 rfl rfl ?_
  refine j_iconst (v := nI 3) C dX10_addPoint_176 (by decide +kernel) ?_
  refine j_iaddN C dX10_addPoint_177 ?_
  refine j_bipush (v := nI 30) C dX10_addPoint_178 (by decide +kernel) ?_
  refine j_bipush (v := nI 33) C dX10_addPoint_180 (by decide +kernel) ?_
  refine j_callV0 (T := TX10) (N := 23) C dX10_addPoint_182 (k_X10_multiply l D kc ad (p + 3) (by omega) 30 (by omega) 33 (by omega) _ ) zy_X10_multiply mw_11_4 rfl rfl (Nat.zero_le _) (show 17 < 18 by decide) rfl rfl (Nat.le_of_ble_eq_true rfl) ⟨rfl, rfl, Nat.le_of_ble_eq_true rfl, Nat.le_of_ble_eq_true rfl⟩ ?_
  refine j_nmS (fun t18 et18 => ?_)
  exact j_vret (st := []) C R0 dX10_addPoint_185 ⟨rfl, (by (try rw [et18]); (try rw [et17]); (try rw [et16]); (try rw [et15]); (try rw [et14]); (try rw [et13]); (try rw [et12]); (try rw [et11]); (try rw [et10]); (try rw [et9]); (try rw [et8]); (try rw [et7]); (try rw [et6]); (try rw [et5]); (try rw [et4]); (try rw [et3]); (try rw [et2]); (try rw [et1]); unfold fX10_addPoint; (try dsimp only); all_goals ((try simp only [zfst_mk, zsnd_mk]); all_goals rfl))⟩
theorem k2_fX10_addPoint (p : Nat) (q : Nat) (s0 : zSt) : zk2 (fX10_addPoint p q s0) = zk2 s0 := by
  unfold fX10_addPoint
  (try dsimp only)
  all_goals (simp only [zW_2, zL_2, k2_fX10_add, k2_fX10_multiply, k2_fX10_subtract]; done)
theorem i2_fX10_addPoint (p : Nat) (q : Nat) (s0 : zSt) (kk9 : Nat) : (fX10_addPoint p q s0).2.2 kk9 = s0.2.2 kk9 := z2_I (k2_fX10_addPoint p q s0) kk9
theorem i3_fX10_addPoint (p : Nat) (q : Nat) (s0 : zSt) (kk9 : Nat) : zi (fX10_addPoint p q s0) kk9 = zi s0 kk9 := zi_of (k2_fX10_addPoint p q s0) kk9

def fX10_many_a1 (t5 : zSt) : zSt :=
    t5
def fX10_many_a2 (r : Nat) (p : Nat) (t5 : zSt) : zSt :=
    let t12 := fX10_addPoint r p t5
    t12
def fX10_many_10 (r : Nat) (p : Nat) (e : Nat) (i2 : Nat) (z3 : zSt) : zSt :=
    let t5 := fX10_addPoint r r z3
    let x6 := vX10_bit e i2 t5
    if x6 ≠ 1 then
      fX10_many_a1 t5
    else
      fX10_many_a2 r p t5
def fX10_many (r : Nat) (p : Nat) (e : Nat) (s0 : zSt) : zSt :=
    let t1 := fX10_neutral r s0
    let u15 := zdown (fX10_many_10 r p e) 256 t1
    u15
set_option maxHeartbeats 4000000 in
set_option maxRecDepth 100000 in
theorem k_X10_many (l : Launch) (D : va_G) (kc : Nat → ClassId) (ad : Nat → Nat) (r : Nat) (hr : r + 3 < 48) (p : Nat) (hp : p + 3 < 48) (e : Nat) (he : e ≤ 60) (s0 : zSt) : zM l yX10_many cX10_many 5 none rX10_many (wM D kc ad) [.ref (zad (wM D kc ad) 17), .int (nI (r)), .int (nI (p)), .int (nI (e))] s0 (zV0 (fX10_many r p e s0)) := by
  refine z_of (own := RX10) (by decide +kernel) rfl (Nat.le_of_ble_eq_true rfl) ?_
  intro κ C R0
  refine j_at [(0, .ref (zad (wM D kc ad) 17)), (1, .int (nI (r))), (2, .int (nI (p))), (3, .int (nI (e)))] ⟨rfl, rfl, rfl, rfl, trivial⟩ ?_
  refine j_aload_n C dX10_many_0 rfl rfl ?_
  refine j_iload_n C dX10_many_1 rfl rfl ?_
  refine j_callV0 (T := TX10) (N := 23) C dX10_many_2 (k_X10_neutral l D kc ad r (by omega) _ ) zy_X10_neutral mw_30_6 rfl rfl (Nat.zero_le _) (show 17 < 18 by decide) rfl rfl (Nat.le_of_ble_eq_true rfl) ⟨rfl, rfl, Nat.le_of_ble_eq_true rfl, Nat.le_of_ble_eq_true rfl⟩ ?_
  refine j_nmS (fun t1 et1 => ?_)
  refine j_sipush (v := nI 255) C dX10_many_5 (by decide +kernel) ?_
  refine j_istore C dX10_many_8 (by decide) ?_
  refine j_at [(0, .ref (zad (wM D kc ad) 17)), (1, .int (nI (r))), (2, .int (nI (p))), (3, .int (nI (e))), (4, .int (dI 256))] ⟨rfl, rfl, rfl, rfl, congrArg (fun q => some (Value.int q)) (dI_succ _).symm, trivial⟩ ?_
  refine z_dn (α := zSt) (fun (i2 : Nat) (z3 : zSt) => zJ κ (wM D kc ad) 10 (zlof [(0, .ref (zad (wM D kc ad) 17)), (1, .int (nI (r))), (2, .int (nI (p))), (3, .int (nI (e))), (4, .int (dI i2))]) [] z3) (fX10_many_10 r p e) (fun i2 z3 => i2 ≤ 256) ?_ (fun _ _ h => by omega) 256 t1 (Nat.le_refl _) ?_
  · intro i2 z3 hIi2 k0
    refine j_at [(0, .ref (zad (wM D kc ad) 17)), (1, .int (nI (r))), (2, .int (nI (p))), (3, .int (nI (e))), (4, .int (nI (i2)))] ⟨rfl, rfl, rfl, rfl, congrArg (fun q => some (Value.int q)) (dI_succ _), trivial⟩ ?_
    refine j_iload C dX10_many_10 rfl ?_
    refine j_if_lt (tgt := 44) C dX10_many_12 (by decide) (fun q4 => False.elim (nI_pos (by omega) q4)) (fun q4 => ?_)
    refine j_aload_n C dX10_many_15 rfl rfl ?_
    refine j_iload_n C dX10_many_16 rfl rfl ?_
    refine j_iload_n C dX10_many_17 rfl rfl ?_
    refine j_callV0 (T := TX10) (N := 23) C dX10_many_18 (k_X10_addPoint l D kc ad r (by omega) r (by omega) _ ) zy_X10_addPoint mw_28_16 rfl rfl (Nat.zero_le _) (show 17 < 18 by decide) rfl rfl (Nat.le_of_ble_eq_true rfl) ⟨rfl, rfl, Nat.le_of_ble_eq_true rfl, Nat.le_of_ble_eq_true rfl⟩ ?_
    refine j_nmS (fun t5 et5 => ?_)
    refine j_aload_n C dX10_many_21 rfl rfl ?_
    refine j_iload_n C dX10_many_22 rfl rfl ?_
    refine j_iload C dX10_many_23 rfl ?_
    refine j_callV1 (T := TX10) (N := 23) C dX10_many_25 (k_X10_bit l D kc ad e (by omega) i2 (by omega) _ ) zy_X10_bit mw_11_13 rfl rfl (Nat.zero_le _) (show 17 < 18 by decide) rfl rfl (Nat.le_of_ble_eq_true rfl) ⟨rfl, rfl, Nat.le_of_ble_eq_true rfl, Nat.le_of_ble_eq_true rfl⟩ ?_
    refine j_nmN (fun x6 ex6 => ?_)
    have hx6 : x6 < 2 := by rw [ex6]; exact lt_mbit _ _ _
    refine j_iconst (v := nI 1) C dX10_many_28 (by decide +kernel) ?_
    refine j_icmp_neN (tgt := 38) C dX10_many_29 (by decide) (by omega) (by omega) (fun q7 => ?_) (fun q7 => ?_)
    · have hA8 : (fX10_many_10 r p e) i2 z3 = fX10_many_a1 t5 := by (try rw [ex6]); (try rw [et5]); have q7z := q7; (try rw [ex6] at q7z); (try rw [et5] at q7z); (try dsimp only at q7z); unfold fX10_many_10; (try dsimp only); rw [if_pos q7z]; (try rfl)
      refine j_iincD C dX10_many_38 rfl (by decide) ?_
      refine j_goto (tgt := 10) C dX10_many_41 (by decide) ?_
      refine j_nmS (fun t9 et9 => ?_)
      refine j_at [(0, .ref (zad (wM D kc ad) 17)), (1, .int (nI (r))), (2, .int (nI (p))), (3, .int (nI (e))), (4, .int (dI i2))] ⟨rfl, rfl, rfl, rfl, rfl, trivial⟩ ?_
      have eF : (fX10_many_10 r p e) i2 z3 = t9 := by rw [hA8]; rw [et9]; unfold fX10_many_a1; first | done | (dsimp only; done) | rfl
      exact Eq.mp (congrArg (fun (z10 : zSt) => zJ κ (wM D kc ad) 10 (zlof [(0, .ref (zad (wM D kc ad) 17)), (1, .int (nI (r))), (2, .int (nI (p))), (3, .int (nI (e))), (4, .int (dI i2))]) [] z10) eF) (k0 ((by omega)))
    · have hA11 : (fX10_many_10 r p e) i2 z3 = fX10_many_a2 r p t5 := by (try rw [ex6]); (try rw [et5]); have q7z : ¬ (x6 ≠ 1) := (by omega); (try rw [ex6] at q7z); (try rw [et5] at q7z); (try dsimp only at q7z); unfold fX10_many_10; (try dsimp only); rw [if_neg q7z]; (try rfl)
      refine j_aload_n C dX10_many_32 rfl rfl ?_
      refine j_iload_n C dX10_many_33 rfl rfl ?_
      refine j_iload_n C dX10_many_34 rfl rfl ?_
      refine j_callV0 (T := TX10) (N := 23) C dX10_many_35 (k_X10_addPoint l D kc ad r (by omega) p (by omega) _ ) zy_X10_addPoint mw_28_16 rfl rfl (Nat.zero_le _) (show 17 < 18 by decide) rfl rfl (Nat.le_of_ble_eq_true rfl) ⟨rfl, rfl, Nat.le_of_ble_eq_true rfl, Nat.le_of_ble_eq_true rfl⟩ ?_
      refine j_nmS (fun t12 et12 => ?_)
      refine j_iincD C dX10_many_38 rfl (by decide) ?_
      refine j_goto (tgt := 10) C dX10_many_41 (by decide) ?_
      refine j_nmS (fun t13 et13 => ?_)
      refine j_at [(0, .ref (zad (wM D kc ad) 17)), (1, .int (nI (r))), (2, .int (nI (p))), (3, .int (nI (e))), (4, .int (dI i2))] ⟨rfl, rfl, rfl, rfl, rfl, trivial⟩ ?_
      have eF : (fX10_many_10 r p e) i2 z3 = t13 := by rw [hA11]; rw [et13]; (try rw [et12]); unfold fX10_many_a2; first | done | (dsimp only; done) | rfl
      exact Eq.mp (congrArg (fun (z14 : zSt) => zJ κ (wM D kc ad) 10 (zlof [(0, .ref (zad (wM D kc ad) 17)), (1, .int (nI (r))), (2, .int (nI (p))), (3, .int (nI (e))), (4, .int (dI i2))]) [] z14) eF) (k0 ((by omega)))
  · intro hIi2
    revert hIi2
    refine z_nm (P := fun (z3 : zSt) => (fun i2 z3 => i2 ≤ 256) 0 z3 → zJ κ (wM D kc ad) 10 (zlof [(0, .ref (zad (wM D kc ad) 17)), (1, .int (nI (r))), (2, .int (nI (p))), (3, .int (nI (e))), (4, .int (dI 0))]) [] z3) (fun u15 eu15 => ?_)
    intro hIi2
    refine j_iload C dX10_many_10 rfl ?_
    refine j_if_lt (tgt := 44) C dX10_many_12 (by decide) (fun q16 => ?_) (fun q16 => False.elim (q16 dI_0))
    exact j_vret (st := []) C R0 dX10_many_44 ⟨rfl, (by (try rw [eu15]); (try rw [et1]); unfold fX10_many; (try dsimp only); all_goals ((try simp only [zfst_mk, zsnd_mk]); all_goals rfl))⟩
theorem k2_fX10_many_a1 (t5 : zSt) : zk2 (fX10_many_a1 t5) = zk2 t5 := by
  unfold fX10_many_a1
  (try dsimp only)
  all_goals (simp only [zW_2, zL_2]; done)
theorem k2_fX10_many_a2 (r : Nat) (p : Nat) (t5 : zSt) : zk2 (fX10_many_a2 r p t5) = zk2 t5 := by
  unfold fX10_many_a2
  (try dsimp only)
  all_goals (simp only [zW_2, zL_2, k2_fX10_addPoint]; done)
theorem k2_fX10_many_10 (r : Nat) (p : Nat) (e : Nat) (i2 : Nat) (z3 : zSt) : zk2 (fX10_many_10 r p e i2 z3) = zk2 z3 := by
  unfold fX10_many_10
  (try dsimp only)
  all_goals (refine ite_keep (fun r : zSt => zk2 r) _ _ ?_ ?_ <;> (simp only [zW_2, zL_2, k2_fX10_addPoint, k2_fX10_many_a1, k2_fX10_many_a2]; done))
theorem k2it_fX10_many_10 (r : Nat) (p : Nat) (e : Nat) (nn : Nat) (xx : zSt) : zk2 (zdown (fX10_many_10 r p e) nn xx) = zk2 xx := zdown_keep (fun x => zk2 x) _ (k2_fX10_many_10 r p e) nn xx
theorem k2_fX10_many (r : Nat) (p : Nat) (e : Nat) (s0 : zSt) : zk2 (fX10_many r p e s0) = zk2 s0 := by
  unfold fX10_many
  (try dsimp only)
  all_goals (simp only [zW_2, zL_2, k2_fX10_many_10, k2_fX10_neutral, k2it_fX10_many_10]; done)
theorem i2_fX10_many (r : Nat) (p : Nat) (e : Nat) (s0 : zSt) (kk9 : Nat) : (fX10_many r p e s0).2.2 kk9 = s0.2.2 kk9 := z2_I (k2_fX10_many r p e s0) kk9
theorem i3_fX10_many (r : Nat) (p : Nat) (e : Nat) (s0 : zSt) (kk9 : Nat) : zi (fX10_many r p e s0) kk9 = zi s0 kk9 := zi_of (k2_fX10_many r p e s0) kk9

def fX10_bytes (p : Nat) (q : Nat) (s0 : zSt) : zSt :=
    let t1 := fX10_invert 41 (q + 2) s0
    let t2 := fX10_multiply 42 q 41 t1
    let t3 := fX10_multiply 43 (q + 1) 41 t2
    let t4 := zsnd (fX10_lowest 42 t3)
    let x5 := (zfst (fX10_lowest 42 t3)).toInt64
    let t6 := fX10_pack p 43 t4
    let t7 := zW t6 4 (p + 3) ((t6.1 4 (p + 3)) ||| (zsl x5 63))
    t7
set_option maxHeartbeats 4000000 in
set_option maxRecDepth 100000 in
theorem k_X10_bytes (l : Launch) (D : va_G) (kc : Nat → ClassId) (ad : Nat → Nat) (p : Nat) (hp : p ≤ 60) (q : Nat) (hq : q + 3 < 48) (s0 : zSt) : zM l yX10_bytes cX10_bytes 5 none rX10_bytes (wM D kc ad) [.ref (zad (wM D kc ad) 17), .int (nI (p)), .int (nI (q))] s0 (zV0 (fX10_bytes p q s0)) := by
  refine z_of (own := RX10) (by decide +kernel) rfl (Nat.le_of_ble_eq_true rfl) ?_
  intro κ C R0
  refine j_at [(0, .ref (zad (wM D kc ad) 17)), (1, .int (nI (p))), (2, .int (nI (q)))] ⟨rfl, rfl, rfl, trivial⟩ ?_
  refine j_aload_n C dX10_bytes_0 rfl rfl ?_
  refine j_bipush (v := nI 41) C dX10_bytes_1 (by decide +kernel) ?_
  refine j_iload_n C dX10_bytes_3 rfl rfl ?_
  refine j_iconst (v := nI 2) C dX10_bytes_4 (by decide +kernel) ?_
  refine j_iaddN C dX10_bytes_5 ?_
  refine j_callV0 (T := TX10) (N := 23) C dX10_bytes_6 (k_X10_invert l D kc ad 41 (by omega) (q + 2) (by omega) _ ) zy_X10_invert mw_11_21 rfl rfl (Nat.zero_le _) (show 17 < 18 by decide) rfl rfl (Nat.le_of_ble_eq_true rfl) ⟨rfl, rfl, Nat.le_of_ble_eq_true rfl, Nat.le_of_ble_eq_true rfl⟩ ?_
  refine j_nmS (fun t1 et1 => ?_)
  refine j_aload_n C dX10_bytes_9 rfl rfl ?_
  refine j_bipush (v := nI 42) C dX10_bytes_10 (by decide +kernel) ?_
  refine j_iload_n C dX10_bytes_12 rfl rfl ?_
  refine j_bipush (v := nI 41) C dX10_bytes_13 (by decide +kernel) ?_
  refine j_callV0 (T := TX10) (N := 23) C dX10_bytes_15 (k_X10_multiply l D kc ad 42 (by omega) q (by omega) 41 (by omega) _ ) zy_X10_multiply mw_11_4 rfl rfl (Nat.zero_le _) (show 17 < 18 by decide) rfl rfl (Nat.le_of_ble_eq_true rfl) ⟨rfl, rfl, Nat.le_of_ble_eq_true rfl, Nat.le_of_ble_eq_true rfl⟩ ?_
  refine j_nmS (fun t2 et2 => ?_)
  refine j_aload_n C dX10_bytes_18 rfl rfl ?_
  refine j_bipush (v := nI 43) C dX10_bytes_19 (by decide +kernel) ?_
  refine j_iload_n C dX10_bytes_21 rfl rfl ?_
  refine j_iconst (v := nI 1) C dX10_bytes_22 (by decide +kernel) ?_
  refine j_iaddN C dX10_bytes_23 ?_
  refine j_bipush (v := nI 41) C dX10_bytes_24 (by decide +kernel) ?_
  refine j_callV0 (T := TX10) (N := 23) C dX10_bytes_26 (k_X10_multiply l D kc ad 43 (by omega) (q + 1) (by omega) 41 (by omega) _ ) zy_X10_multiply mw_11_4 rfl rfl (Nat.zero_le _) (show 17 < 18 by decide) rfl rfl (Nat.le_of_ble_eq_true rfl) ⟨rfl, rfl, Nat.le_of_ble_eq_true rfl, Nat.le_of_ble_eq_true rfl⟩ ?_
  refine j_nmS (fun t3 et3 => ?_)
  refine j_aload_n C dX10_bytes_29 rfl rfl ?_
  refine j_bipush (v := nI 42) C dX10_bytes_30 (by decide +kernel) ?_
  refine j_callV1 (T := TX10) (N := 23) C dX10_bytes_32 (k_X10_lowest l D kc ad 42 (by omega) _ ) zy_X10_lowest mw_13_18 rfl rfl (Nat.zero_le _) (show 17 < 18 by decide) rfl rfl (Nat.le_of_ble_eq_true rfl) ⟨rfl, rfl, Nat.le_of_ble_eq_true rfl, Nat.le_of_ble_eq_true rfl⟩ ?_
  refine j_nmS (fun t4 et4 => ?_)
  refine j_i2l C dX10_bytes_35 ?_
  refine j_nmL (fun x5 ex5 => ?_)
  refine j_lstore_n C dX10_bytes_36 rfl (by decide) ?_
  refine j_aload_n C dX10_bytes_37 rfl rfl ?_
  refine j_iload_n C dX10_bytes_38 rfl rfl ?_
  refine j_bipush (v := nI 43) C dX10_bytes_39 (by decide +kernel) ?_
  refine j_callV0 (T := TX10) (N := 23) C dX10_bytes_41 (k_X10_pack l D kc ad p (by omega) 43 (by omega) _ ) zy_X10_pack mw_12_6 rfl rfl (Nat.zero_le _) (show 17 < 18 by decide) rfl rfl (Nat.le_of_ble_eq_true rfl) ⟨rfl, rfl, Nat.le_of_ble_eq_true rfl, Nat.le_of_ble_eq_true rfl⟩ ?_
  refine j_nmS (fun t6 et6 => ?_)
  refine j_aload_n C dX10_bytes_44 rfl rfl ?_
  refine j_getR C dX10_bytes_45 (fx_RX10_27 D kc ad) (Nat.zero_le _) (show 17 < 18 by decide) ?_
  refine j_iload_n C dX10_bytes_48 rfl rfl ?_
  refine j_iconst (v := nI 3) C dX10_bytes_49 (by decide +kernel) ?_
  refine j_iaddN C dX10_bytes_50 ?_
  refine j_dup2 C dX10_bytes_51 rfl rfl ?_
  refine m_lald C dX10_bytes_52 (⟨rfl, rfl, by decide, by decide⟩ : ma 64 4) (by omega) ?_
  refine j_lload_n C dX10_bytes_53 rfl rfl ?_
  refine j_bipush (v := nI 63) C dX10_bytes_54 (by decide +kernel) ?_
  refine j_lshl C dX10_bytes_56 (by omega) ?_
  refine j_lor C dX10_bytes_57 ?_
  refine m_last C dX10_bytes_58 (⟨rfl, rfl, by decide, by decide⟩ : ma 64 4) (by omega) ?_
  refine j_nmS (fun t7 et7 => ?_)
  exact j_vret (st := []) C R0 dX10_bytes_59 ⟨rfl, (by (try rw [et7]); (try rw [et6]); (try rw [ex5]); (try rw [et4]); (try rw [et3]); (try rw [et2]); (try rw [et1]); unfold fX10_bytes; (try dsimp only); all_goals ((try simp only [zfst_mk, zsnd_mk]); all_goals rfl))⟩
theorem k2_fX10_bytes (p : Nat) (q : Nat) (s0 : zSt) : zk2 (fX10_bytes p q s0) = zk2 s0 := by
  unfold fX10_bytes
  (try dsimp only)
  all_goals (simp only [zW_2, zL_2, k2_fX10_invert, k2_fX10_lowest, k2_fX10_multiply, k2_fX10_pack, k2q_fX10_lowest]; done)
theorem i2_fX10_bytes (p : Nat) (q : Nat) (s0 : zSt) (kk9 : Nat) : (fX10_bytes p q s0).2.2 kk9 = s0.2.2 kk9 := z2_I (k2_fX10_bytes p q s0) kk9
theorem i3_fX10_bytes (p : Nat) (q : Nat) (s0 : zSt) (kk9 : Nat) : zi (fX10_bytes p q s0) kk9 = zi s0 kk9 := zi_of (k2_fX10_bytes p q s0) kk9

def fX10_open_a1 (p : Nat) (t19 : zSt) : Bool × zSt :=
    let t22 := fX10_put (p + 2) ((1 : Int64)) t19
    let t23 := fX10_multiply (p + 3) p (p + 1) t22
    (true, t23)
def fX10_open_a2 (p : Nat) (t19 : zSt) : Bool × zSt :=
    let t25 := fX10_subtract p 0 p t19
    let t26 := fX10_reduce p t25
    let t27 := fX10_put (p + 2) ((1 : Int64)) t26
    let t28 := fX10_multiply (p + 3) p (p + 1) t27
    (true, t28)
def fX10_open_a3 (p : Nat) (x2 : Int64) (t16 : zSt) : Bool × zSt :=
    let t19 := zsnd (fX10_lowest p t16)
    if lg_cmp ((zfst (fX10_lowest p t16)).toInt64) x2 = 0 then
      fX10_open_a1 p t19
    else
      fX10_open_a2 p t19
def fX10_open_a4 (p : Nat) (t32 : zSt) : Bool × zSt :=
    let t35 := fX10_put (p + 2) ((1 : Int64)) t32
    let t36 := fX10_multiply (p + 3) p (p + 1) t35
    (true, t36)
def fX10_open_a5 (p : Nat) (t32 : zSt) : Bool × zSt :=
    let t38 := fX10_subtract p 0 p t32
    let t39 := fX10_reduce p t38
    let t40 := fX10_put (p + 2) ((1 : Int64)) t39
    let t41 := fX10_multiply (p + 3) p (p + 1) t40
    (true, t41)
def fX10_open_a6 (p : Nat) (x2 : Int64) (t16 : zSt) : Bool × zSt :=
    let t32 := zsnd (fX10_lowest p t16)
    if lg_cmp ((zfst (fX10_lowest p t16)).toInt64) x2 = 0 then
      fX10_open_a4 p t32
    else
      fX10_open_a5 p t32
def fX10_open_a7 (t16 : zSt) : Bool × zSt :=
    (false, t16)
def fX10_open_a8 (p : Nat) (x2 : Int64) (t16 : zSt) : Bool × zSt :=
    if ¬ lg_cmp x2 ((1 : Int64)) = 0 then
      fX10_open_a6 p x2 t16
    else
      fX10_open_a7 t16
def fX10_open_a9 (p : Nat) (x2 : Int64) (t13 : zSt) : Bool × zSt :=
    let t16 := zsnd (fX10_isSame p 0 t13)
    bif (zfst (fX10_isSame p 0 t13)) then
      fX10_open_a8 p x2 t16
    else
      fX10_open_a3 p x2 t16
def fX10_open_a10 (t13 : zSt) : Bool × zSt :=
    (false, t13)
def fX10_open_a11 (p : Nat) (x2 : Int64) (t3 : zSt) : Bool × zSt :=
    let t6 := fX10_unpack (p + 1) 12 t3
    let t7 := fX10_multiply 41 (p + 1) (p + 1) t6
    let t8 := fX10_multiply 42 41 2 t7
    let t9 := fX10_add 42 42 1 t8
    let t10 := fX10_subtract 43 41 1 t9
    let t11 := fX10_invert 41 42 t10
    let t12 := fX10_multiply 43 43 41 t11
    let t13 := zsnd (fX10_roots p 43 t12)
    bif (zfst (fX10_roots p 43 t12)) then
      fX10_open_a9 p x2 t13
    else
      fX10_open_a10 t13
def fX10_open_a12 (t3 : zSt) : Bool × zSt :=
    (false, t3)
def fX10_open (p : Nat) (q : Nat) (s0 : zSt) : Bool × zSt :=
    let t1 := fX10_words 12 (s0.1 4 q) (s0.1 4 (q + 1)) (s0.1 4 (q + 2)) (s0.1 4 (q + 3)) s0
    let x2 := zus (t1.1 4 15) 63
    let t3 := zW t1 4 15 ((t1.1 4 15) &&& ((9223372036854775807 : Int64)))
    if vX10_against 12 36 t3 < 0 then
      fX10_open_a11 p x2 t3
    else
      fX10_open_a12 t3
set_option maxHeartbeats 4000000 in
set_option maxRecDepth 100000 in
theorem k_X10_open (l : Launch) (D : va_G) (kc : Nat → ClassId) (ad : Nat → Nat) (p : Nat) (hp : p + 3 < 48) (q : Nat) (hq : q ≤ 60) (s0 : zSt) : zM l yX10_open cX10_open 5 (some .boolean) rX10_open (wM D kc ad) [.ref (zad (wM D kc ad) 17), .int (nI (p)), .int (nI (q))] s0 (zV1 (.int (bI (zfst (fX10_open p q s0)))) (zsnd (fX10_open p q s0))) := by
  refine z_of (own := RX10) (by decide +kernel) rfl (Nat.le_of_ble_eq_true rfl) ?_
  intro κ C R0
  refine j_at [(0, .ref (zad (wM D kc ad) 17)), (1, .int (nI (p))), (2, .int (nI (q)))] ⟨rfl, rfl, rfl, trivial⟩ ?_
  refine j_aload_n C dX10_open_0 rfl rfl ?_
  refine j_bipush (v := nI 12) C dX10_open_1 (by decide +kernel) ?_
  refine j_aload_n C dX10_open_3 rfl rfl ?_
  refine j_getR C dX10_open_4 (fx_RX10_27 D kc ad) (Nat.zero_le _) (show 17 < 18 by decide) ?_
  refine j_iload_n C dX10_open_7 rfl rfl ?_
  refine m_lald C dX10_open_8 (⟨rfl, rfl, by decide, by decide⟩ : ma 64 4) (by omega) ?_
  refine j_aload_n C dX10_open_9 rfl rfl ?_
  refine j_getR C dX10_open_10 (fx_RX10_27 D kc ad) (Nat.zero_le _) (show 17 < 18 by decide) ?_
  refine j_iload_n C dX10_open_13 rfl rfl ?_
  refine j_iconst (v := nI 1) C dX10_open_14 (by decide +kernel) ?_
  refine j_iaddN C dX10_open_15 ?_
  refine m_lald C dX10_open_16 (⟨rfl, rfl, by decide, by decide⟩ : ma 64 4) (by omega) ?_
  refine j_aload_n C dX10_open_17 rfl rfl ?_
  refine j_getR C dX10_open_18 (fx_RX10_27 D kc ad) (Nat.zero_le _) (show 17 < 18 by decide) ?_
  refine j_iload_n C dX10_open_21 rfl rfl ?_
  refine j_iconst (v := nI 2) C dX10_open_22 (by decide +kernel) ?_
  refine j_iaddN C dX10_open_23 ?_
  refine m_lald C dX10_open_24 (⟨rfl, rfl, by decide, by decide⟩ : ma 64 4) (by omega) ?_
  refine j_aload_n C dX10_open_25 rfl rfl ?_
  refine j_getR C dX10_open_26 (fx_RX10_27 D kc ad) (Nat.zero_le _) (show 17 < 18 by decide) ?_
  refine j_iload_n C dX10_open_29 rfl rfl ?_
  refine j_iconst (v := nI 3) C dX10_open_30 (by decide +kernel) ?_
  refine j_iaddN C dX10_open_31 ?_
  refine m_lald C dX10_open_32 (⟨rfl, rfl, by decide, by decide⟩ : ma 64 4) (by omega) ?_
  refine j_callV0 (T := TX10) (N := 23) C dX10_open_33 (k_X10_words l D kc ad 12 (by omega) (s0.1 4 q) (s0.1 4 (q + 1)) (s0.1 4 (q + 2)) (s0.1 4 (q + 3)) _ ) zy_X10_words mw_10_11 rfl rfl (Nat.zero_le _) (show 17 < 18 by decide) rfl rfl (Nat.le_of_ble_eq_true rfl) ⟨rfl, rfl, Nat.le_of_ble_eq_true rfl, Nat.le_of_ble_eq_true rfl⟩ ?_
  refine j_nmS (fun t1 et1 => ?_)
  refine j_aload_n C dX10_open_36 rfl rfl ?_
  refine j_getR C dX10_open_37 (fx_RX10_27 D kc ad) (Nat.zero_le _) (show 17 < 18 by decide) ?_
  refine j_bipush (v := nI 15) C dX10_open_40 (by decide +kernel) ?_
  refine m_lald C dX10_open_42 (⟨rfl, rfl, by decide, by decide⟩ : ma 64 4) (by omega) ?_
  refine j_bipush (v := nI 63) C dX10_open_43 (by decide +kernel) ?_
  refine j_lushr C dX10_open_45 (by omega) ?_
  refine j_nmL (fun x2 ex2 => ?_)
  refine j_lstore_n C dX10_open_46 rfl (by decide) ?_
  refine j_aload_n C dX10_open_47 rfl rfl ?_
  refine j_getR C dX10_open_48 (fx_RX10_27 D kc ad) (Nat.zero_le _) (show 17 < 18 by decide) ?_
  refine j_bipush (v := nI 15) C dX10_open_51 (by decide +kernel) ?_
  refine j_dup2 C dX10_open_53 rfl rfl ?_
  refine m_lald C dX10_open_54 (⟨rfl, rfl, by decide, by decide⟩ : ma 64 4) (by omega) ?_
  refine j_ldc2 C dX10_open_55 mw_10_0 ?_
  refine j_land C dX10_open_58 ?_
  refine m_last C dX10_open_59 (⟨rfl, rfl, by decide, by decide⟩ : ma 64 4) (by omega) ?_
  refine j_nmS (fun t3 et3 => ?_)
  refine j_aload_n C dX10_open_60 rfl rfl ?_
  refine j_bipush (v := nI 12) C dX10_open_61 (by decide +kernel) ?_
  refine j_bipush (v := nI 36) C dX10_open_63 (by decide +kernel) ?_
  refine j_callV1 (T := TX10) (N := 23) C dX10_open_65 (k_X10_against l D kc ad 12 (by omega) 36 (by omega) _ ) zy_X10_against mw_12_20 rfl rfl (Nat.zero_le _) (show 17 < 18 by decide) rfl rfl (Nat.le_of_ble_eq_true rfl) ⟨rfl, rfl, Nat.le_of_ble_eq_true rfl, Nat.le_of_ble_eq_true rfl⟩ ?_
  refine j_if_lt (tgt := 73) C dX10_open_68 (by decide) (fun q4 => ?_) (fun q4 => ?_)
  · have hA5 : fX10_open p q s0 = fX10_open_a11 p x2 t3 := by (try rw [et3]); (try rw [ex2]); (try rw [et1]); have q4z := q4; (try rw [et3] at q4z); (try rw [ex2] at q4z); (try rw [et1] at q4z); (try dsimp only at q4z); unfold fX10_open; (try dsimp only); rw [if_pos q4z]; (try rfl)
    refine j_aload_n C dX10_open_73 rfl rfl ?_
    refine j_iload_n C dX10_open_74 rfl rfl ?_
    refine j_iconst (v := nI 1) C dX10_open_75 (by decide +kernel) ?_
    refine j_iaddN C dX10_open_76 ?_
    refine j_bipush (v := nI 12) C dX10_open_77 (by decide +kernel) ?_
    refine j_callV0 (T := TX10) (N := 23) C dX10_open_79 (k_X10_unpack l D kc ad (p + 1) (by omega) 12 (by omega) _ ) zy_X10_unpack mw_13_4 rfl rfl (Nat.zero_le _) (show 17 < 18 by decide) rfl rfl (Nat.le_of_ble_eq_true rfl) ⟨rfl, rfl, Nat.le_of_ble_eq_true rfl, Nat.le_of_ble_eq_true rfl⟩ ?_
    refine j_nmS (fun t6 et6 => ?_)
    refine j_aload_n C dX10_open_82 rfl rfl ?_
    refine j_bipush (v := nI 41) C dX10_open_83 (by decide +kernel) ?_
    refine j_iload_n C dX10_open_85 rfl rfl ?_
    refine j_iconst (v := nI 1) C dX10_open_86 (by decide +kernel) ?_
    refine j_iaddN C dX10_open_87 ?_
    refine j_iload_n C dX10_open_88 rfl rfl ?_
    refine j_iconst (v := nI 1) C dX10_open_89 (by decide +kernel) ?_
    refine j_iaddN C dX10_open_90 ?_
    refine j_callV0 (T := TX10) (N := 23) C dX10_open_91 (k_X10_multiply l D kc ad 41 (by omega) (p + 1) (by omega) (p + 1) (by omega) _ ) zy_X10_multiply mw_11_4 rfl rfl (Nat.zero_le _) (show 17 < 18 by decide) rfl rfl (Nat.le_of_ble_eq_true rfl) ⟨rfl, rfl, Nat.le_of_ble_eq_true rfl, Nat.le_of_ble_eq_true rfl⟩ ?_
    refine j_nmS (fun t7 et7 => ?_)
    refine j_aload_n C dX10_open_94 rfl rfl ?_
    refine j_bipush (v := nI 42) C dX10_open_95 (by decide +kernel) ?_
    refine j_bipush (v := nI 41) C dX10_open_97 (by decide +kernel) ?_
    refine j_iconst (v := nI 2) C dX10_open_99 (by decide +kernel) ?_
    refine j_callV0 (T := TX10) (N := 23) C dX10_open_100 (k_X10_multiply l D kc ad 42 (by omega) 41 (by omega) 2 (by omega) _ ) zy_X10_multiply mw_11_4 rfl rfl (Nat.zero_le _) (show 17 < 18 by decide) rfl rfl (Nat.le_of_ble_eq_true rfl) ⟨rfl, rfl, Nat.le_of_ble_eq_true rfl, Nat.le_of_ble_eq_true rfl⟩ ?_
    refine j_nmS (fun t8 et8 => ?_)
    refine j_aload_n C dX10_open_103 rfl rfl ?_
    refine j_bipush (v := nI 42) C dX10_open_104 (by decide +kernel) ?_
    refine j_bipush (v := nI 42) C dX10_open_106 (by decide +kernel) ?_
    refine j_iconst (v := nI 1) C dX10_open_108 (by decide +kernel) ?_
    refine j_callV0 (T := TX10) (N := 23) C dX10_open_109 (k_X10_add l D kc ad 42 (by omega) 42 (by omega) 1 (by omega) _ ) zy_X10_add mw_12_2 rfl rfl (Nat.zero_le _) (show 17 < 18 by decide) rfl rfl (Nat.le_of_ble_eq_true rfl) ⟨rfl, rfl, Nat.le_of_ble_eq_true rfl, Nat.le_of_ble_eq_true rfl⟩ ?_
    refine j_nmS (fun t9 et9 => ?_)
    refine j_aload_n C dX10_open_112 rfl rfl ?_
    refine j_bipush (v := nI 43) C dX10_open_113 (by decide +kernel) ?_
    refine j_bipush (v := nI 41) C dX10_open_115 (by decide +kernel) ?_
    refine j_iconst (v := nI 1) C dX10_open_117 (by decide +kernel) ?_
    refine j_callV0 (T := TX10) (N := 23) C dX10_open_118 (k_X10_subtract l D kc ad 43 (by omega) 41 (by omega) 1 (by omega) _ ) zy_X10_subtract mw_11_17 rfl rfl (Nat.zero_le _) (show 17 < 18 by decide) rfl rfl (Nat.le_of_ble_eq_true rfl) ⟨rfl, rfl, Nat.le_of_ble_eq_true rfl, Nat.le_of_ble_eq_true rfl⟩ ?_
    refine j_nmS (fun t10 et10 => ?_)
    refine j_aload_n C dX10_open_121 rfl rfl ?_
    refine j_bipush (v := nI 41) C dX10_open_122 (by decide +kernel) ?_
    refine j_bipush (v := nI 42) C dX10_open_124 (by decide +kernel) ?_
    refine j_callV0 (T := TX10) (N := 23) C dX10_open_126 (k_X10_invert l D kc ad 41 (by omega) 42 (by omega) _ ) zy_X10_invert mw_11_21 rfl rfl (Nat.zero_le _) (show 17 < 18 by decide) rfl rfl (Nat.le_of_ble_eq_true rfl) ⟨rfl, rfl, Nat.le_of_ble_eq_true rfl, Nat.le_of_ble_eq_true rfl⟩ ?_
    refine j_nmS (fun t11 et11 => ?_)
    refine j_aload_n C dX10_open_129 rfl rfl ?_
    refine j_bipush (v := nI 43) C dX10_open_130 (by decide +kernel) ?_
    refine j_bipush (v := nI 43) C dX10_open_132 (by decide +kernel) ?_
    refine j_bipush (v := nI 41) C dX10_open_134 (by decide +kernel) ?_
    refine j_callV0 (T := TX10) (N := 23) C dX10_open_136 (k_X10_multiply l D kc ad 43 (by omega) 43 (by omega) 41 (by omega) _ ) zy_X10_multiply mw_11_4 rfl rfl (Nat.zero_le _) (show 17 < 18 by decide) rfl rfl (Nat.le_of_ble_eq_true rfl) ⟨rfl, rfl, Nat.le_of_ble_eq_true rfl, Nat.le_of_ble_eq_true rfl⟩ ?_
    refine j_nmS (fun t12 et12 => ?_)
    refine j_aload_n C dX10_open_139 rfl rfl ?_
    refine j_iload_n C dX10_open_140 rfl rfl ?_
    refine j_bipush (v := nI 43) C dX10_open_141 (by decide +kernel) ?_
    refine j_callV1 (T := TX10) (N := 23) C dX10_open_143 (k_X10_roots l D kc ad p (by omega) 43 (by omega) _ ) zy_X10_roots mw_13_8 rfl rfl (Nat.zero_le _) (show 17 < 18 by decide) rfl rfl (Nat.le_of_ble_eq_true rfl) ⟨rfl, rfl, Nat.le_of_ble_eq_true rfl, Nat.le_of_ble_eq_true rfl⟩ ?_
    refine j_nmS (fun t13 et13 => ?_)
    refine j_if_neB (tgt := 151) C dX10_open_146 (by decide) (fun q14 => ?_) (fun q14 => ?_)
    · have hA15 : fX10_open_a11 p x2 t3 = fX10_open_a9 p x2 t13 := by (try rw [et13]); (try rw [et12]); (try rw [et11]); (try rw [et10]); (try rw [et9]); (try rw [et8]); (try rw [et7]); (try rw [et6]); have q14z := q14; (try rw [et13] at q14z); (try rw [et12] at q14z); (try rw [et11] at q14z); (try rw [et10] at q14z); (try rw [et9] at q14z); (try rw [et8] at q14z); (try rw [et7] at q14z); (try rw [et6] at q14z); (try dsimp only at q14z); unfold fX10_open_a11; (try dsimp only); rw [q14z, cond_true]; (try rfl)
      refine j_aload_n C dX10_open_151 rfl rfl ?_
      refine j_iload_n C dX10_open_152 rfl rfl ?_
      refine j_iconst (v := nI 0) C dX10_open_153 (by decide +kernel) ?_
      refine j_callV1 (T := TX10) (N := 23) C dX10_open_154 (k_X10_isSame l D kc ad p (by omega) 0 (by omega) _ ) zy_X10_isSame mw_13_14 rfl rfl (Nat.zero_le _) (show 17 < 18 by decide) rfl rfl (Nat.le_of_ble_eq_true rfl) ⟨rfl, rfl, Nat.le_of_ble_eq_true rfl, Nat.le_of_ble_eq_true rfl⟩ ?_
      refine j_nmS (fun t16 et16 => ?_)
      refine j_if_eqB (tgt := 168) C dX10_open_157 (by decide) (fun q17 => ?_) (fun q17 => ?_)
      · have hA18 : fX10_open_a9 p x2 t13 = fX10_open_a3 p x2 t16 := by (try rw [et16]); have q17z := q17; (try rw [et16] at q17z); (try dsimp only at q17z); unfold fX10_open_a9; (try dsimp only); rw [q17z, cond_false]; (try rfl)
        refine j_aload_n C dX10_open_168 rfl rfl ?_
        refine j_iload_n C dX10_open_169 rfl rfl ?_
        refine j_callV1 (T := TX10) (N := 23) C dX10_open_170 (k_X10_lowest l D kc ad p (by omega) _ ) zy_X10_lowest mw_13_18 rfl rfl (Nat.zero_le _) (show 17 < 18 by decide) rfl rfl (Nat.le_of_ble_eq_true rfl) ⟨rfl, rfl, Nat.le_of_ble_eq_true rfl, Nat.le_of_ble_eq_true rfl⟩ ?_
        refine j_nmS (fun t19 et19 => ?_)
        refine j_i2l C dX10_open_173 ?_
        refine j_lload_n C dX10_open_174 rfl rfl ?_
        refine j_lcmp C dX10_open_175 ?_
        refine j_if_eq (tgt := 191) C dX10_open_176 (by decide) (fun q20 => ?_) (fun q20 => ?_)
        · have hA21 : fX10_open_a3 p x2 t16 = fX10_open_a1 p t19 := by (try rw [et19]); have q20z := q20; (try rw [et19] at q20z); (try dsimp only at q20z); unfold fX10_open_a3; (try dsimp only); rw [if_pos q20z]; (try rfl)
          refine j_aload_n C dX10_open_191 rfl rfl ?_
          refine j_iload_n C dX10_open_192 rfl rfl ?_
          refine j_iconst (v := nI 2) C dX10_open_193 (by decide +kernel) ?_
          refine j_iaddN C dX10_open_194 ?_
          refine j_lconst (v := 1) C dX10_open_195 rfl ?_
          refine j_callV0 (T := TX10) (N := 23) C dX10_open_196 (k_X10_put l D kc ad (p + 2) (by omega) ((1 : Int64)) _ ) zy_X10_put mw_10_15 rfl rfl (Nat.zero_le _) (show 17 < 18 by decide) rfl rfl (Nat.le_of_ble_eq_true rfl) ⟨rfl, rfl, Nat.le_of_ble_eq_true rfl, Nat.le_of_ble_eq_true rfl⟩ ?_
          refine j_nmS (fun t22 et22 => ?_)
          refine j_aload_n C dX10_open_199 rfl rfl ?_
          refine j_iload_n C dX10_open_200 rfl rfl ?_
          refine j_iconst (v := nI 3) C dX10_open_201 (by decide +kernel) ?_
          refine j_iaddN C dX10_open_202 ?_
          refine j_iload_n C dX10_open_203 rfl rfl ?_
          refine j_iload_n C dX10_open_204 rfl rfl ?_
          refine j_iconst (v := nI 1) C dX10_open_205 (by decide +kernel) ?_
          refine j_iaddN C dX10_open_206 ?_
          refine j_callV0 (T := TX10) (N := 23) C dX10_open_207 (k_X10_multiply l D kc ad (p + 3) (by omega) p (by omega) (p + 1) (by omega) _ ) zy_X10_multiply mw_11_4 rfl rfl (Nat.zero_le _) (show 17 < 18 by decide) rfl rfl (Nat.le_of_ble_eq_true rfl) ⟨rfl, rfl, Nat.le_of_ble_eq_true rfl, Nat.le_of_ble_eq_true rfl⟩ ?_
          refine j_nmS (fun t23 et23 => ?_)
          refine j_iconst (v := nI 1) C dX10_open_210 (by decide +kernel) ?_
          refine j_top (v := .int (bI true)) (by decide +kernel) ?_
          exact j_zret (st := []) C R0 dX10_open_211 ⟨(by rw [hA5, hA15, hA18, hA21]; (try rw [et23]); (try rw [et22]); unfold fX10_open_a1; (try dsimp only); all_goals ((try simp only [zfst_mk, zsnd_mk]); all_goals rfl)), ((by rw [hA5, hA15, hA18, hA21]; (try rw [et23]); (try rw [et22]); unfold fX10_open_a1; (try dsimp only); all_goals ((try simp only [zfst_mk, zsnd_mk]); all_goals rfl)))⟩
        · have hA24 : fX10_open_a3 p x2 t16 = fX10_open_a2 p t19 := by (try rw [et19]); have q20z := q20; (try rw [et19] at q20z); (try dsimp only at q20z); unfold fX10_open_a3; (try dsimp only); rw [if_neg q20z]; (try rfl)
          refine j_aload_n C dX10_open_179 rfl rfl ?_
          refine j_iload_n C dX10_open_180 rfl rfl ?_
          refine j_iconst (v := nI 0) C dX10_open_181 (by decide +kernel) ?_
          refine j_iload_n C dX10_open_182 rfl rfl ?_
          refine j_callV0 (T := TX10) (N := 23) C dX10_open_183 (k_X10_subtract l D kc ad p (by omega) 0 (by omega) p (by omega) _ ) zy_X10_subtract mw_11_17 rfl rfl (Nat.zero_le _) (show 17 < 18 by decide) rfl rfl (Nat.le_of_ble_eq_true rfl) ⟨rfl, rfl, Nat.le_of_ble_eq_true rfl, Nat.le_of_ble_eq_true rfl⟩ ?_
          refine j_nmS (fun t25 et25 => ?_)
          refine j_aload_n C dX10_open_186 rfl rfl ?_
          refine j_iload_n C dX10_open_187 rfl rfl ?_
          refine j_callV0 (T := TX10) (N := 23) C dX10_open_188 (k_X10_reduce l D kc ad p (by omega) _ ) zy_X10_reduce mw_11_9 rfl rfl (Nat.zero_le _) (show 17 < 18 by decide) rfl rfl (Nat.le_of_ble_eq_true rfl) ⟨rfl, rfl, Nat.le_of_ble_eq_true rfl, Nat.le_of_ble_eq_true rfl⟩ ?_
          refine j_nmS (fun t26 et26 => ?_)
          refine j_aload_n C dX10_open_191 rfl rfl ?_
          refine j_iload_n C dX10_open_192 rfl rfl ?_
          refine j_iconst (v := nI 2) C dX10_open_193 (by decide +kernel) ?_
          refine j_iaddN C dX10_open_194 ?_
          refine j_lconst (v := 1) C dX10_open_195 rfl ?_
          refine j_callV0 (T := TX10) (N := 23) C dX10_open_196 (k_X10_put l D kc ad (p + 2) (by omega) ((1 : Int64)) _ ) zy_X10_put mw_10_15 rfl rfl (Nat.zero_le _) (show 17 < 18 by decide) rfl rfl (Nat.le_of_ble_eq_true rfl) ⟨rfl, rfl, Nat.le_of_ble_eq_true rfl, Nat.le_of_ble_eq_true rfl⟩ ?_
          refine j_nmS (fun t27 et27 => ?_)
          refine j_aload_n C dX10_open_199 rfl rfl ?_
          refine j_iload_n C dX10_open_200 rfl rfl ?_
          refine j_iconst (v := nI 3) C dX10_open_201 (by decide +kernel) ?_
          refine j_iaddN C dX10_open_202 ?_
          refine j_iload_n C dX10_open_203 rfl rfl ?_
          refine j_iload_n C dX10_open_204 rfl rfl ?_
          refine j_iconst (v := nI 1) C dX10_open_205 (by decide +kernel) ?_
          refine j_iaddN C dX10_open_206 ?_
          refine j_callV0 (T := TX10) (N := 23) C dX10_open_207 (k_X10_multiply l D kc ad (p + 3) (by omega) p (by omega) (p + 1) (by omega) _ ) zy_X10_multiply mw_11_4 rfl rfl (Nat.zero_le _) (show 17 < 18 by decide) rfl rfl (Nat.le_of_ble_eq_true rfl) ⟨rfl, rfl, Nat.le_of_ble_eq_true rfl, Nat.le_of_ble_eq_true rfl⟩ ?_
          refine j_nmS (fun t28 et28 => ?_)
          refine j_iconst (v := nI 1) C dX10_open_210 (by decide +kernel) ?_
          refine j_top (v := .int (bI true)) (by decide +kernel) ?_
          exact j_zret (st := []) C R0 dX10_open_211 ⟨(by rw [hA5, hA15, hA18, hA24]; (try rw [et28]); (try rw [et27]); (try rw [et26]); (try rw [et25]); unfold fX10_open_a2; (try dsimp only); all_goals ((try simp only [zfst_mk, zsnd_mk]); all_goals rfl)), ((by rw [hA5, hA15, hA18, hA24]; (try rw [et28]); (try rw [et27]); (try rw [et26]); (try rw [et25]); unfold fX10_open_a2; (try dsimp only); all_goals ((try simp only [zfst_mk, zsnd_mk]); all_goals rfl)))⟩
      · have hA29 : fX10_open_a9 p x2 t13 = fX10_open_a8 p x2 t16 := by (try rw [et16]); have q17z := q17; (try rw [et16] at q17z); (try dsimp only at q17z); unfold fX10_open_a9; (try dsimp only); rw [q17z, cond_true]; (try rfl)
        refine j_lload_n C dX10_open_160 rfl rfl ?_
        refine j_lconst (v := 1) C dX10_open_161 rfl ?_
        refine j_lcmp C dX10_open_162 ?_
        refine j_if_ne (tgt := 168) C dX10_open_163 (by decide) (fun q30 => ?_) (fun q30 => ?_)
        · have hA31 : fX10_open_a8 p x2 t16 = fX10_open_a6 p x2 t16 := by have q30z := q30; (try dsimp only at q30z); unfold fX10_open_a8; (try dsimp only); rw [if_pos q30z]; (try rfl)
          refine j_aload_n C dX10_open_168 rfl rfl ?_
          refine j_iload_n C dX10_open_169 rfl rfl ?_
          refine j_callV1 (T := TX10) (N := 23) C dX10_open_170 (k_X10_lowest l D kc ad p (by omega) _ ) zy_X10_lowest mw_13_18 rfl rfl (Nat.zero_le _) (show 17 < 18 by decide) rfl rfl (Nat.le_of_ble_eq_true rfl) ⟨rfl, rfl, Nat.le_of_ble_eq_true rfl, Nat.le_of_ble_eq_true rfl⟩ ?_
          refine j_nmS (fun t32 et32 => ?_)
          refine j_i2l C dX10_open_173 ?_
          refine j_lload_n C dX10_open_174 rfl rfl ?_
          refine j_lcmp C dX10_open_175 ?_
          refine j_if_eq (tgt := 191) C dX10_open_176 (by decide) (fun q33 => ?_) (fun q33 => ?_)
          · have hA34 : fX10_open_a6 p x2 t16 = fX10_open_a4 p t32 := by (try rw [et32]); have q33z := q33; (try rw [et32] at q33z); (try dsimp only at q33z); unfold fX10_open_a6; (try dsimp only); rw [if_pos q33z]; (try rfl)
            refine j_aload_n C dX10_open_191 rfl rfl ?_
            refine j_iload_n C dX10_open_192 rfl rfl ?_
            refine j_iconst (v := nI 2) C dX10_open_193 (by decide +kernel) ?_
            refine j_iaddN C dX10_open_194 ?_
            refine j_lconst (v := 1) C dX10_open_195 rfl ?_
            refine j_callV0 (T := TX10) (N := 23) C dX10_open_196 (k_X10_put l D kc ad (p + 2) (by omega) ((1 : Int64)) _ ) zy_X10_put mw_10_15 rfl rfl (Nat.zero_le _) (show 17 < 18 by decide) rfl rfl (Nat.le_of_ble_eq_true rfl) ⟨rfl, rfl, Nat.le_of_ble_eq_true rfl, Nat.le_of_ble_eq_true rfl⟩ ?_
            refine j_nmS (fun t35 et35 => ?_)
            refine j_aload_n C dX10_open_199 rfl rfl ?_
            refine j_iload_n C dX10_open_200 rfl rfl ?_
            refine j_iconst (v := nI 3) C dX10_open_201 (by decide +kernel) ?_
            refine j_iaddN C dX10_open_202 ?_
            refine j_iload_n C dX10_open_203 rfl rfl ?_
            refine j_iload_n C dX10_open_204 rfl rfl ?_
            refine j_iconst (v := nI 1) C dX10_open_205 (by decide +kernel) ?_
            refine j_iaddN C dX10_open_206 ?_
            refine j_callV0 (T := TX10) (N := 23) C dX10_open_207 (k_X10_multiply l D kc ad (p + 3) (by omega) p (by omega) (p + 1) (by omega) _ ) zy_X10_multiply mw_11_4 rfl rfl (Nat.zero_le _) (show 17 < 18 by decide) rfl rfl (Nat.le_of_ble_eq_true rfl) ⟨rfl, rfl, Nat.le_of_ble_eq_true rfl, Nat.le_of_ble_eq_true rfl⟩ ?_
            refine j_nmS (fun t36 et36 => ?_)
            refine j_iconst (v := nI 1) C dX10_open_210 (by decide +kernel) ?_
            refine j_top (v := .int (bI true)) (by decide +kernel) ?_
            exact j_zret (st := []) C R0 dX10_open_211 ⟨(by rw [hA5, hA15, hA29, hA31, hA34]; (try rw [et36]); (try rw [et35]); unfold fX10_open_a4; (try dsimp only); all_goals ((try simp only [zfst_mk, zsnd_mk]); all_goals rfl)), ((by rw [hA5, hA15, hA29, hA31, hA34]; (try rw [et36]); (try rw [et35]); unfold fX10_open_a4; (try dsimp only); all_goals ((try simp only [zfst_mk, zsnd_mk]); all_goals rfl)))⟩
          · have hA37 : fX10_open_a6 p x2 t16 = fX10_open_a5 p t32 := by (try rw [et32]); have q33z := q33; (try rw [et32] at q33z); (try dsimp only at q33z); unfold fX10_open_a6; (try dsimp only); rw [if_neg q33z]; (try rfl)
            refine j_aload_n C dX10_open_179 rfl rfl ?_
            refine j_iload_n C dX10_open_180 rfl rfl ?_
            refine j_iconst (v := nI 0) C dX10_open_181 (by decide +kernel) ?_
            refine j_iload_n C dX10_open_182 rfl rfl ?_
            refine j_callV0 (T := TX10) (N := 23) C dX10_open_183 (k_X10_subtract l D kc ad p (by omega) 0 (by omega) p (by omega) _ ) zy_X10_subtract mw_11_17 rfl rfl (Nat.zero_le _) (show 17 < 18 by decide) rfl rfl (Nat.le_of_ble_eq_true rfl) ⟨rfl, rfl, Nat.le_of_ble_eq_true rfl, Nat.le_of_ble_eq_true rfl⟩ ?_
            refine j_nmS (fun t38 et38 => ?_)
            refine j_aload_n C dX10_open_186 rfl rfl ?_
            refine j_iload_n C dX10_open_187 rfl rfl ?_
            refine j_callV0 (T := TX10) (N := 23) C dX10_open_188 (k_X10_reduce l D kc ad p (by omega) _ ) zy_X10_reduce mw_11_9 rfl rfl (Nat.zero_le _) (show 17 < 18 by decide) rfl rfl (Nat.le_of_ble_eq_true rfl) ⟨rfl, rfl, Nat.le_of_ble_eq_true rfl, Nat.le_of_ble_eq_true rfl⟩ ?_
            refine j_nmS (fun t39 et39 => ?_)
            refine j_aload_n C dX10_open_191 rfl rfl ?_
            refine j_iload_n C dX10_open_192 rfl rfl ?_
            refine j_iconst (v := nI 2) C dX10_open_193 (by decide +kernel) ?_
            refine j_iaddN C dX10_open_194 ?_
            refine j_lconst (v := 1) C dX10_open_195 rfl ?_
            refine j_callV0 (T := TX10) (N := 23) C dX10_open_196 (k_X10_put l D kc ad (p + 2) (by omega) ((1 : Int64)) _ ) zy_X10_put mw_10_15 rfl rfl (Nat.zero_le _) (show 17 < 18 by decide) rfl rfl (Nat.le_of_ble_eq_true rfl) ⟨rfl, rfl, Nat.le_of_ble_eq_true rfl, Nat.le_of_ble_eq_true rfl⟩ ?_
            refine j_nmS (fun t40 et40 => ?_)
            refine j_aload_n C dX10_open_199 rfl rfl ?_
            refine j_iload_n C dX10_open_200 rfl rfl ?_
            refine j_iconst (v := nI 3) C dX10_open_201 (by decide +kernel) ?_
            refine j_iaddN C dX10_open_202 ?_
            refine j_iload_n C dX10_open_203 rfl rfl ?_
            refine j_iload_n C dX10_open_204 rfl rfl ?_
            refine j_iconst (v := nI 1) C dX10_open_205 (by decide +kernel) ?_
            refine j_iaddN C dX10_open_206 ?_
            refine j_callV0 (T := TX10) (N := 23) C dX10_open_207 (k_X10_multiply l D kc ad (p + 3) (by omega) p (by omega) (p + 1) (by omega) _ ) zy_X10_multiply mw_11_4 rfl rfl (Nat.zero_le _) (show 17 < 18 by decide) rfl rfl (Nat.le_of_ble_eq_true rfl) ⟨rfl, rfl, Nat.le_of_ble_eq_true rfl, Nat.le_of_ble_eq_true rfl⟩ ?_
            refine j_nmS (fun t41 et41 => ?_)
            refine j_iconst (v := nI 1) C dX10_open_210 (by decide +kernel) ?_
            refine j_top (v := .int (bI true)) (by decide +kernel) ?_
            exact j_zret (st := []) C R0 dX10_open_211 ⟨(by rw [hA5, hA15, hA29, hA31, hA37]; (try rw [et41]); (try rw [et40]); (try rw [et39]); (try rw [et38]); unfold fX10_open_a5; (try dsimp only); all_goals ((try simp only [zfst_mk, zsnd_mk]); all_goals rfl)), ((by rw [hA5, hA15, hA29, hA31, hA37]; (try rw [et41]); (try rw [et40]); (try rw [et39]); (try rw [et38]); unfold fX10_open_a5; (try dsimp only); all_goals ((try simp only [zfst_mk, zsnd_mk]); all_goals rfl)))⟩
        · have hA42 : fX10_open_a8 p x2 t16 = fX10_open_a7 t16 := by have q30z := q30; (try dsimp only at q30z); unfold fX10_open_a8; (try dsimp only); rw [if_neg (fun z => z q30z)]; (try rfl)
          refine j_iconst (v := nI 0) C dX10_open_166 (by decide +kernel) ?_
          refine j_top (v := .int (bI false)) (by decide +kernel) ?_
          exact j_zret (st := []) C R0 dX10_open_167 ⟨(by rw [hA5, hA15, hA29, hA42]; unfold fX10_open_a7; (try dsimp only); all_goals ((try simp only [zfst_mk, zsnd_mk]); all_goals rfl)), ((by rw [hA5, hA15, hA29, hA42]; unfold fX10_open_a7; (try dsimp only); all_goals ((try simp only [zfst_mk, zsnd_mk]); all_goals rfl)))⟩
    · have hA43 : fX10_open_a11 p x2 t3 = fX10_open_a10 t13 := by (try rw [et13]); (try rw [et12]); (try rw [et11]); (try rw [et10]); (try rw [et9]); (try rw [et8]); (try rw [et7]); (try rw [et6]); have q14z := q14; (try rw [et13] at q14z); (try rw [et12] at q14z); (try rw [et11] at q14z); (try rw [et10] at q14z); (try rw [et9] at q14z); (try rw [et8] at q14z); (try rw [et7] at q14z); (try rw [et6] at q14z); (try dsimp only at q14z); unfold fX10_open_a11; (try dsimp only); rw [q14z, cond_false]; (try rfl)
      refine j_iconst (v := nI 0) C dX10_open_149 (by decide +kernel) ?_
      refine j_top (v := .int (bI false)) (by decide +kernel) ?_
      exact j_zret (st := []) C R0 dX10_open_150 ⟨(by rw [hA5, hA43]; unfold fX10_open_a10; (try dsimp only); all_goals ((try simp only [zfst_mk, zsnd_mk]); all_goals rfl)), ((by rw [hA5, hA43]; unfold fX10_open_a10; (try dsimp only); all_goals ((try simp only [zfst_mk, zsnd_mk]); all_goals rfl)))⟩
  · have hA44 : fX10_open p q s0 = fX10_open_a12 t3 := by (try rw [et3]); (try rw [ex2]); (try rw [et1]); have q4z := q4; (try rw [et3] at q4z); (try rw [ex2] at q4z); (try rw [et1] at q4z); (try dsimp only at q4z); unfold fX10_open; (try dsimp only); rw [if_neg q4z]; (try rfl)
    refine j_iconst (v := nI 0) C dX10_open_71 (by decide +kernel) ?_
    refine j_top (v := .int (bI false)) (by decide +kernel) ?_
    exact j_zret (st := []) C R0 dX10_open_72 ⟨(by rw [hA44]; unfold fX10_open_a12; (try dsimp only); all_goals ((try simp only [zfst_mk, zsnd_mk]); all_goals rfl)), ((by rw [hA44]; unfold fX10_open_a12; (try dsimp only); all_goals ((try simp only [zfst_mk, zsnd_mk]); all_goals rfl)))⟩
theorem k2q_fX10_open_a1 (p : Nat) (t19 : zSt) : zk2s (fX10_open_a1 p t19) = zk2 t19 := by
  unfold fX10_open_a1
  (try dsimp only)
  all_goals (simp only [zW_2, zL_2, k2_fX10_multiply, k2_fX10_put, zk2s_mk]; done)
theorem k2_fX10_open_a1 (p : Nat) (t19 : zSt) : zk2 (zsnd (fX10_open_a1 p t19)) = zk2 t19 := k2q_fX10_open_a1 p t19
theorem k2q_fX10_open_a2 (p : Nat) (t19 : zSt) : zk2s (fX10_open_a2 p t19) = zk2 t19 := by
  unfold fX10_open_a2
  (try dsimp only)
  all_goals (simp only [zW_2, zL_2, k2_fX10_multiply, k2_fX10_put, k2_fX10_reduce, k2_fX10_subtract, zk2s_mk]; done)
theorem k2_fX10_open_a2 (p : Nat) (t19 : zSt) : zk2 (zsnd (fX10_open_a2 p t19)) = zk2 t19 := k2q_fX10_open_a2 p t19
theorem k2q_fX10_open_a3 (p : Nat) (x2 : Int64) (t16 : zSt) : zk2s (fX10_open_a3 p x2 t16) = zk2 t16 := by
  unfold fX10_open_a3
  (try dsimp only)
  all_goals (refine ite_keep (fun r : Bool × zSt => zk2s r) _ _ ?_ ?_ <;> (simp only [zW_2, zL_2, k2_fX10_lowest, k2_fX10_open_a1, k2_fX10_open_a2, k2q_fX10_lowest, k2q_fX10_open_a1, k2q_fX10_open_a2, zk2s_mk]; done))
theorem k2_fX10_open_a3 (p : Nat) (x2 : Int64) (t16 : zSt) : zk2 (zsnd (fX10_open_a3 p x2 t16)) = zk2 t16 := k2q_fX10_open_a3 p x2 t16
theorem k2q_fX10_open_a4 (p : Nat) (t32 : zSt) : zk2s (fX10_open_a4 p t32) = zk2 t32 := by
  unfold fX10_open_a4
  (try dsimp only)
  all_goals (simp only [zW_2, zL_2, k2_fX10_multiply, k2_fX10_put, zk2s_mk]; done)
theorem k2_fX10_open_a4 (p : Nat) (t32 : zSt) : zk2 (zsnd (fX10_open_a4 p t32)) = zk2 t32 := k2q_fX10_open_a4 p t32
theorem k2q_fX10_open_a5 (p : Nat) (t32 : zSt) : zk2s (fX10_open_a5 p t32) = zk2 t32 := by
  unfold fX10_open_a5
  (try dsimp only)
  all_goals (simp only [zW_2, zL_2, k2_fX10_multiply, k2_fX10_put, k2_fX10_reduce, k2_fX10_subtract, zk2s_mk]; done)
theorem k2_fX10_open_a5 (p : Nat) (t32 : zSt) : zk2 (zsnd (fX10_open_a5 p t32)) = zk2 t32 := k2q_fX10_open_a5 p t32
theorem k2q_fX10_open_a6 (p : Nat) (x2 : Int64) (t16 : zSt) : zk2s (fX10_open_a6 p x2 t16) = zk2 t16 := by
  unfold fX10_open_a6
  (try dsimp only)
  all_goals (refine ite_keep (fun r : Bool × zSt => zk2s r) _ _ ?_ ?_ <;> (simp only [zW_2, zL_2, k2_fX10_lowest, k2_fX10_open_a4, k2_fX10_open_a5, k2q_fX10_lowest, k2q_fX10_open_a4, k2q_fX10_open_a5, zk2s_mk]; done))
theorem k2_fX10_open_a6 (p : Nat) (x2 : Int64) (t16 : zSt) : zk2 (zsnd (fX10_open_a6 p x2 t16)) = zk2 t16 := k2q_fX10_open_a6 p x2 t16
theorem k2q_fX10_open_a7 (t16 : zSt) : zk2s (fX10_open_a7 t16) = zk2 t16 := by
  unfold fX10_open_a7
  (try dsimp only)
  all_goals (simp only [zW_2, zL_2, zk2s_mk]; done)
theorem k2_fX10_open_a7 (t16 : zSt) : zk2 (zsnd (fX10_open_a7 t16)) = zk2 t16 := k2q_fX10_open_a7 t16
theorem k2q_fX10_open_a8 (p : Nat) (x2 : Int64) (t16 : zSt) : zk2s (fX10_open_a8 p x2 t16) = zk2 t16 := by
  unfold fX10_open_a8
  (try dsimp only)
  all_goals (refine ite_keep (fun r : Bool × zSt => zk2s r) _ _ ?_ ?_ <;> (simp only [zW_2, zL_2, k2_fX10_open_a6, k2_fX10_open_a7, k2q_fX10_open_a6, k2q_fX10_open_a7, zk2s_mk]; done))
theorem k2_fX10_open_a8 (p : Nat) (x2 : Int64) (t16 : zSt) : zk2 (zsnd (fX10_open_a8 p x2 t16)) = zk2 t16 := k2q_fX10_open_a8 p x2 t16
theorem k2q_fX10_open_a9 (p : Nat) (x2 : Int64) (t13 : zSt) : zk2s (fX10_open_a9 p x2 t13) = zk2 t13 := by
  unfold fX10_open_a9
  (try dsimp only)
  all_goals (refine cond_keep (fun r : Bool × zSt => zk2s r) _ ?_ ?_ <;> (simp only [zW_2, zL_2, k2_fX10_isSame, k2_fX10_open_a3, k2_fX10_open_a8, k2q_fX10_isSame, k2q_fX10_open_a3, k2q_fX10_open_a8, zk2s_mk]; done))
theorem k2_fX10_open_a9 (p : Nat) (x2 : Int64) (t13 : zSt) : zk2 (zsnd (fX10_open_a9 p x2 t13)) = zk2 t13 := k2q_fX10_open_a9 p x2 t13
theorem k2q_fX10_open_a10 (t13 : zSt) : zk2s (fX10_open_a10 t13) = zk2 t13 := by
  unfold fX10_open_a10
  (try dsimp only)
  all_goals (simp only [zW_2, zL_2, zk2s_mk]; done)
theorem k2_fX10_open_a10 (t13 : zSt) : zk2 (zsnd (fX10_open_a10 t13)) = zk2 t13 := k2q_fX10_open_a10 t13
theorem k2q_fX10_open_a11 (p : Nat) (x2 : Int64) (t3 : zSt) : zk2s (fX10_open_a11 p x2 t3) = zk2 t3 := by
  unfold fX10_open_a11
  (try dsimp only)
  all_goals (refine cond_keep (fun r : Bool × zSt => zk2s r) _ ?_ ?_ <;> (simp only [zW_2, zL_2, k2_fX10_add, k2_fX10_invert, k2_fX10_multiply, k2_fX10_open_a10, k2_fX10_open_a9, k2_fX10_roots, k2_fX10_subtract, k2_fX10_unpack, k2q_fX10_open_a10, k2q_fX10_open_a9, k2q_fX10_roots, zk2s_mk]; done))
theorem k2_fX10_open_a11 (p : Nat) (x2 : Int64) (t3 : zSt) : zk2 (zsnd (fX10_open_a11 p x2 t3)) = zk2 t3 := k2q_fX10_open_a11 p x2 t3
theorem k2q_fX10_open_a12 (t3 : zSt) : zk2s (fX10_open_a12 t3) = zk2 t3 := by
  unfold fX10_open_a12
  (try dsimp only)
  all_goals (simp only [zW_2, zL_2, zk2s_mk]; done)
theorem k2_fX10_open_a12 (t3 : zSt) : zk2 (zsnd (fX10_open_a12 t3)) = zk2 t3 := k2q_fX10_open_a12 t3
theorem k2q_fX10_open (p : Nat) (q : Nat) (s0 : zSt) : zk2s (fX10_open p q s0) = zk2 s0 := by
  unfold fX10_open
  (try dsimp only)
  all_goals (refine ite_keep (fun r : Bool × zSt => zk2s r) _ _ ?_ ?_ <;> (simp only [zW_2, zL_2, k2_fX10_open_a11, k2_fX10_open_a12, k2_fX10_words, k2q_fX10_open_a11, k2q_fX10_open_a12, zk2s_mk]; done))
theorem k2_fX10_open (p : Nat) (q : Nat) (s0 : zSt) : zk2 (zsnd (fX10_open p q s0)) = zk2 s0 := k2q_fX10_open p q s0
theorem i2_fX10_open (p : Nat) (q : Nat) (s0 : zSt) (kk9 : Nat) : (zsnd (fX10_open p q s0)).2.2 kk9 = s0.2.2 kk9 := z2_I (k2_fX10_open p q s0) kk9
theorem i3_fX10_open (p : Nat) (q : Nat) (s0 : zSt) (kk9 : Nat) : zi (zsnd (fX10_open p q s0)) kk9 = zi s0 kk9 := zi_of (k2_fX10_open p q s0) kk9

def fX10_isNeutral_a1 (t1 : zSt) : Bool × zSt :=
    (false, t1)
def fX10_isNeutral_a2 (t5 : zSt) : Bool × zSt :=
    (false, t5)
def fX10_isNeutral_a3 (t5 : zSt) : Bool × zSt :=
    (true, t5)
def fX10_isNeutral_a4 (p : Nat) (t1 : zSt) : Bool × zSt :=
    let t5 := zsnd (fX10_isSame (p + 1) (p + 2) t1)
    bif (zfst (fX10_isSame (p + 1) (p + 2) t1)) then
      fX10_isNeutral_a3 t5
    else
      fX10_isNeutral_a2 t5
def fX10_isNeutral (p : Nat) (s0 : zSt) : Bool × zSt :=
    let t1 := zsnd (fX10_isSame p 0 s0)
    bif (zfst (fX10_isSame p 0 s0)) then
      fX10_isNeutral_a4 p t1
    else
      fX10_isNeutral_a1 t1
set_option maxHeartbeats 4000000 in
set_option maxRecDepth 100000 in
theorem k_X10_isNeutral (l : Launch) (D : va_G) (kc : Nat → ClassId) (ad : Nat → Nat) (p : Nat) (hp : p + 3 < 48) (s0 : zSt) : zM l yX10_isNeutral cX10_isNeutral 2 (some .boolean) rX10_isNeutral (wM D kc ad) [.ref (zad (wM D kc ad) 17), .int (nI (p))] s0 (zV1 (.int (bI (zfst (fX10_isNeutral p s0)))) (zsnd (fX10_isNeutral p s0))) := by
  refine z_of (own := RX10) (by decide +kernel) rfl (Nat.le_of_ble_eq_true rfl) ?_
  intro κ C R0
  refine j_at [(0, .ref (zad (wM D kc ad) 17)), (1, .int (nI (p)))] ⟨rfl, rfl, trivial⟩ ?_
  refine j_aload_n C dX10_isNeutral_0 rfl rfl ?_
  refine j_iload_n C dX10_isNeutral_1 rfl rfl ?_
  refine j_iconst (v := nI 0) C dX10_isNeutral_2 (by decide +kernel) ?_
  refine j_callV1 (T := TX10) (N := 23) C dX10_isNeutral_3 (k_X10_isSame l D kc ad p (by omega) 0 (by omega) _ ) zy_X10_isSame mw_13_14 rfl rfl (Nat.zero_le _) (show 17 < 18 by decide) rfl rfl (Nat.le_of_ble_eq_true rfl) ⟨rfl, rfl, Nat.le_of_ble_eq_true rfl, Nat.le_of_ble_eq_true rfl⟩ ?_
  refine j_nmS (fun t1 et1 => ?_)
  refine j_if_eqB (tgt := 26) C dX10_isNeutral_6 (by decide) (fun q2 => ?_) (fun q2 => ?_)
  · have hA3 : fX10_isNeutral p s0 = fX10_isNeutral_a1 t1 := by (try rw [et1]); have q2z := q2; (try rw [et1] at q2z); (try dsimp only at q2z); unfold fX10_isNeutral; (try dsimp only); rw [q2z, cond_false]; (try rfl)
    refine j_iconst (v := nI 0) C dX10_isNeutral_26 (by decide +kernel) ?_
    refine j_top (v := .int (bI false)) (by decide +kernel) ?_
    exact j_zret (st := []) C R0 dX10_isNeutral_27 ⟨(by rw [hA3]; unfold fX10_isNeutral_a1; (try dsimp only); all_goals ((try simp only [zfst_mk, zsnd_mk]); all_goals rfl)), ((by rw [hA3]; unfold fX10_isNeutral_a1; (try dsimp only); all_goals ((try simp only [zfst_mk, zsnd_mk]); all_goals rfl)))⟩
  · have hA4 : fX10_isNeutral p s0 = fX10_isNeutral_a4 p t1 := by (try rw [et1]); have q2z := q2; (try rw [et1] at q2z); (try dsimp only at q2z); unfold fX10_isNeutral; (try dsimp only); rw [q2z, cond_true]; (try rfl)
    refine j_aload_n C dX10_isNeutral_9 rfl rfl ?_
    refine j_iload_n C dX10_isNeutral_10 rfl rfl ?_
    refine j_iconst (v := nI 1) C dX10_isNeutral_11 (by decide +kernel) ?_
    refine j_iaddN C dX10_isNeutral_12 ?_
    refine j_iload_n C dX10_isNeutral_13 rfl rfl ?_
    refine j_iconst (v := nI 2) C dX10_isNeutral_14 (by decide +kernel) ?_
    refine j_iaddN C dX10_isNeutral_15 ?_
    refine j_callV1 (T := TX10) (N := 23) C dX10_isNeutral_16 (k_X10_isSame l D kc ad (p + 1) (by omega) (p + 2) (by omega) _ ) zy_X10_isSame mw_13_14 rfl rfl (Nat.zero_le _) (show 17 < 18 by decide) rfl rfl (Nat.le_of_ble_eq_true rfl) ⟨rfl, rfl, Nat.le_of_ble_eq_true rfl, Nat.le_of_ble_eq_true rfl⟩ ?_
    refine j_nmS (fun t5 et5 => ?_)
    refine j_if_eqB (tgt := 26) C dX10_isNeutral_19 (by decide) (fun q6 => ?_) (fun q6 => ?_)
    · have hA7 : fX10_isNeutral_a4 p t1 = fX10_isNeutral_a2 t5 := by (try rw [et5]); have q6z := q6; (try rw [et5] at q6z); (try dsimp only at q6z); unfold fX10_isNeutral_a4; (try dsimp only); rw [q6z, cond_false]; (try rfl)
      refine j_iconst (v := nI 0) C dX10_isNeutral_26 (by decide +kernel) ?_
      refine j_top (v := .int (bI false)) (by decide +kernel) ?_
      exact j_zret (st := []) C R0 dX10_isNeutral_27 ⟨(by rw [hA4, hA7]; unfold fX10_isNeutral_a2; (try dsimp only); all_goals ((try simp only [zfst_mk, zsnd_mk]); all_goals rfl)), ((by rw [hA4, hA7]; unfold fX10_isNeutral_a2; (try dsimp only); all_goals ((try simp only [zfst_mk, zsnd_mk]); all_goals rfl)))⟩
    · have hA8 : fX10_isNeutral_a4 p t1 = fX10_isNeutral_a3 t5 := by (try rw [et5]); have q6z := q6; (try rw [et5] at q6z); (try dsimp only at q6z); unfold fX10_isNeutral_a4; (try dsimp only); rw [q6z, cond_true]; (try rfl)
      refine j_iconst (v := nI 1) C dX10_isNeutral_22 (by decide +kernel) ?_
      refine j_goto (tgt := 27) C dX10_isNeutral_23 (by decide) ?_
      refine j_top (v := .int (bI true)) (by decide +kernel) ?_
      exact j_zret (st := []) C R0 dX10_isNeutral_27 ⟨(by rw [hA4, hA8]; unfold fX10_isNeutral_a3; (try dsimp only); all_goals ((try simp only [zfst_mk, zsnd_mk]); all_goals rfl)), ((by rw [hA4, hA8]; unfold fX10_isNeutral_a3; (try dsimp only); all_goals ((try simp only [zfst_mk, zsnd_mk]); all_goals rfl)))⟩
theorem k2q_fX10_isNeutral_a1 (t1 : zSt) : zk2s (fX10_isNeutral_a1 t1) = zk2 t1 := by
  unfold fX10_isNeutral_a1
  (try dsimp only)
  all_goals (simp only [zW_2, zL_2, zk2s_mk]; done)
theorem k2_fX10_isNeutral_a1 (t1 : zSt) : zk2 (zsnd (fX10_isNeutral_a1 t1)) = zk2 t1 := k2q_fX10_isNeutral_a1 t1
theorem k2q_fX10_isNeutral_a2 (t5 : zSt) : zk2s (fX10_isNeutral_a2 t5) = zk2 t5 := by
  unfold fX10_isNeutral_a2
  (try dsimp only)
  all_goals (simp only [zW_2, zL_2, zk2s_mk]; done)
theorem k2_fX10_isNeutral_a2 (t5 : zSt) : zk2 (zsnd (fX10_isNeutral_a2 t5)) = zk2 t5 := k2q_fX10_isNeutral_a2 t5
theorem k2q_fX10_isNeutral_a3 (t5 : zSt) : zk2s (fX10_isNeutral_a3 t5) = zk2 t5 := by
  unfold fX10_isNeutral_a3
  (try dsimp only)
  all_goals (simp only [zW_2, zL_2, zk2s_mk]; done)
theorem k2_fX10_isNeutral_a3 (t5 : zSt) : zk2 (zsnd (fX10_isNeutral_a3 t5)) = zk2 t5 := k2q_fX10_isNeutral_a3 t5
theorem k2q_fX10_isNeutral_a4 (p : Nat) (t1 : zSt) : zk2s (fX10_isNeutral_a4 p t1) = zk2 t1 := by
  unfold fX10_isNeutral_a4
  (try dsimp only)
  all_goals (refine cond_keep (fun r : Bool × zSt => zk2s r) _ ?_ ?_ <;> (simp only [zW_2, zL_2, k2_fX10_isNeutral_a2, k2_fX10_isNeutral_a3, k2_fX10_isSame, k2q_fX10_isNeutral_a2, k2q_fX10_isNeutral_a3, k2q_fX10_isSame, zk2s_mk]; done))
theorem k2_fX10_isNeutral_a4 (p : Nat) (t1 : zSt) : zk2 (zsnd (fX10_isNeutral_a4 p t1)) = zk2 t1 := k2q_fX10_isNeutral_a4 p t1
theorem k2q_fX10_isNeutral (p : Nat) (s0 : zSt) : zk2s (fX10_isNeutral p s0) = zk2 s0 := by
  unfold fX10_isNeutral
  (try dsimp only)
  all_goals (refine cond_keep (fun r : Bool × zSt => zk2s r) _ ?_ ?_ <;> (simp only [zW_2, zL_2, k2_fX10_isNeutral_a1, k2_fX10_isNeutral_a4, k2_fX10_isSame, k2q_fX10_isNeutral_a1, k2q_fX10_isNeutral_a4, k2q_fX10_isSame, zk2s_mk]; done))
theorem k2_fX10_isNeutral (p : Nat) (s0 : zSt) : zk2 (zsnd (fX10_isNeutral p s0)) = zk2 s0 := k2q_fX10_isNeutral p s0
theorem i2_fX10_isNeutral (p : Nat) (s0 : zSt) (kk9 : Nat) : (zsnd (fX10_isNeutral p s0)).2.2 kk9 = s0.2.2 kk9 := z2_I (k2_fX10_isNeutral p s0) kk9
theorem i3_fX10_isNeutral (p : Nat) (s0 : zSt) (kk9 : Nat) : zi (zsnd (fX10_isNeutral p s0)) kk9 = zi s0 kk9 := zi_of (k2_fX10_isNeutral p s0) kk9

def fX10_load (r : Nat) (v : Nat) (s0 : zSt) : zSt :=
    let t1 := fX10_fromSlot 4 v s0
    let t2 := fX10_unpack r 4 t1
    t2
set_option maxHeartbeats 4000000 in
set_option maxRecDepth 100000 in
theorem k_X10_load (l : Launch) (D : va_G) (kc : Nat → ClassId) (ad : Nat → Nat) (r : Nat) (hr : r < 48) (v : Nat) (hv : v < 24) (s0 : zSt) : zM l yX10_load cX10_load 3 none rX10_load (wM D kc ad) [.ref (zad (wM D kc ad) 17), .int (nI (r)), .int (nI (v))] s0 (zV0 (fX10_load r v s0)) := by
  refine z_of (own := RX10) (by decide +kernel) rfl (Nat.le_of_ble_eq_true rfl) ?_
  intro κ C R0
  refine j_at [(0, .ref (zad (wM D kc ad) 17)), (1, .int (nI (r))), (2, .int (nI (v)))] ⟨rfl, rfl, rfl, trivial⟩ ?_
  refine j_aload_n C dX10_load_0 rfl rfl ?_
  refine j_iconst (v := nI 4) C dX10_load_1 (by decide +kernel) ?_
  refine j_iload_n C dX10_load_2 rfl rfl ?_
  refine j_callV0 (T := TX10) (N := 23) C dX10_load_3 (k_X10_fromSlot l D kc ad 4 (by omega) v (by omega) _ ) zy_X10_fromSlot mw_16_9 rfl rfl (Nat.zero_le _) (show 17 < 18 by decide) rfl rfl (Nat.le_of_ble_eq_true rfl) ⟨rfl, rfl, Nat.le_of_ble_eq_true rfl, Nat.le_of_ble_eq_true rfl⟩ ?_
  refine j_nmS (fun t1 et1 => ?_)
  refine j_aload_n C dX10_load_6 rfl rfl ?_
  refine j_iload_n C dX10_load_7 rfl rfl ?_
  refine j_iconst (v := nI 4) C dX10_load_8 (by decide +kernel) ?_
  refine j_callV0 (T := TX10) (N := 23) C dX10_load_9 (k_X10_unpack l D kc ad r (by omega) 4 (by omega) _ ) zy_X10_unpack mw_13_4 rfl rfl (Nat.zero_le _) (show 17 < 18 by decide) rfl rfl (Nat.le_of_ble_eq_true rfl) ⟨rfl, rfl, Nat.le_of_ble_eq_true rfl, Nat.le_of_ble_eq_true rfl⟩ ?_
  refine j_nmS (fun t2 et2 => ?_)
  exact j_vret (st := []) C R0 dX10_load_12 ⟨rfl, (by (try rw [et2]); (try rw [et1]); unfold fX10_load; (try dsimp only); all_goals ((try simp only [zfst_mk, zsnd_mk]); all_goals rfl))⟩
theorem k2_fX10_load (r : Nat) (v : Nat) (s0 : zSt) : zk2 (fX10_load r v s0) = zk2 s0 := by
  unfold fX10_load
  (try dsimp only)
  all_goals (simp only [zW_2, zL_2, k2_fX10_fromSlot, k2_fX10_unpack]; done)
theorem i2_fX10_load (r : Nat) (v : Nat) (s0 : zSt) (kk9 : Nat) : (fX10_load r v s0).2.2 kk9 = s0.2.2 kk9 := z2_I (k2_fX10_load r v s0) kk9
theorem i3_fX10_load (r : Nat) (v : Nat) (s0 : zSt) (kk9 : Nat) : zi (fX10_load r v s0) kk9 = zi s0 kk9 := zi_of (k2_fX10_load r v s0) kk9

def fX10_store (v : Nat) (r : Nat) (s0 : zSt) : zSt :=
    let t1 := fX10_pack 4 r s0
    let t2 := fX10_toSlot v 4 t1
    t2
set_option maxHeartbeats 4000000 in
set_option maxRecDepth 100000 in
theorem k_X10_store (l : Launch) (D : va_G) (kc : Nat → ClassId) (ad : Nat → Nat) (v : Nat) (hv : v < 24) (r : Nat) (hr : r < 48) (s0 : zSt) : zM l yX10_store cX10_store 3 none rX10_store (wM D kc ad) [.ref (zad (wM D kc ad) 17), .int (nI (v)), .int (nI (r))] s0 (zV0 (fX10_store v r s0)) := by
  refine z_of (own := RX10) (by decide +kernel) rfl (Nat.le_of_ble_eq_true rfl) ?_
  intro κ C R0
  refine j_at [(0, .ref (zad (wM D kc ad) 17)), (1, .int (nI (v))), (2, .int (nI (r)))] ⟨rfl, rfl, rfl, trivial⟩ ?_
  refine j_aload_n C dX10_store_0 rfl rfl ?_
  refine j_iconst (v := nI 4) C dX10_store_1 (by decide +kernel) ?_
  refine j_iload_n C dX10_store_2 rfl rfl ?_
  refine j_callV0 (T := TX10) (N := 23) C dX10_store_3 (k_X10_pack l D kc ad 4 (by omega) r (by omega) _ ) zy_X10_pack mw_12_6 rfl rfl (Nat.zero_le _) (show 17 < 18 by decide) rfl rfl (Nat.le_of_ble_eq_true rfl) ⟨rfl, rfl, Nat.le_of_ble_eq_true rfl, Nat.le_of_ble_eq_true rfl⟩ ?_
  refine j_nmS (fun t1 et1 => ?_)
  refine j_aload_n C dX10_store_6 rfl rfl ?_
  refine j_iload_n C dX10_store_7 rfl rfl ?_
  refine j_iconst (v := nI 4) C dX10_store_8 (by decide +kernel) ?_
  refine j_callV0 (T := TX10) (N := 23) C dX10_store_9 (k_X10_toSlot l D kc ad v (by omega) 4 (by omega) _ ) zy_X10_toSlot mw_16_13 rfl rfl (Nat.zero_le _) (show 17 < 18 by decide) rfl rfl (Nat.le_of_ble_eq_true rfl) ⟨rfl, rfl, Nat.le_of_ble_eq_true rfl, Nat.le_of_ble_eq_true rfl⟩ ?_
  refine j_nmS (fun t2 et2 => ?_)
  exact j_vret (st := []) C R0 dX10_store_12 ⟨rfl, (by (try rw [et2]); (try rw [et1]); unfold fX10_store; (try dsimp only); all_goals ((try simp only [zfst_mk, zsnd_mk]); all_goals rfl))⟩
theorem k2_fX10_store (v : Nat) (r : Nat) (s0 : zSt) : zk2 (fX10_store v r s0) = zk2 s0 := by
  unfold fX10_store
  (try dsimp only)
  all_goals (simp only [zW_2, zL_2, k2_fX10_pack, k2_fX10_toSlot]; done)
theorem i2_fX10_store (v : Nat) (r : Nat) (s0 : zSt) (kk9 : Nat) : (fX10_store v r s0).2.2 kk9 = s0.2.2 kk9 := z2_I (k2_fX10_store v r s0) kk9
theorem i3_fX10_store (v : Nat) (r : Nat) (s0 : zSt) (kk9 : Nat) : zi (fX10_store v r s0) kk9 = zi s0 kk9 := zi_of (k2_fX10_store v r s0) kk9

def fX10_opens (p : Nat) (v : Nat) (s0 : zSt) : Bool × zSt :=
    let t1 := fX10_fromSlot 4 v s0
    let t2 := zsnd (fX10_open p 4 t1)
    (zfst (fX10_open p 4 t1), t2)
set_option maxHeartbeats 4000000 in
set_option maxRecDepth 100000 in
theorem k_X10_opens (l : Launch) (D : va_G) (kc : Nat → ClassId) (ad : Nat → Nat) (p : Nat) (hp : p + 3 < 48) (v : Nat) (hv : v < 24) (s0 : zSt) : zM l yX10_opens cX10_opens 3 (some .boolean) rX10_opens (wM D kc ad) [.ref (zad (wM D kc ad) 17), .int (nI (p)), .int (nI (v))] s0 (zV1 (.int (bI (zfst (fX10_opens p v s0)))) (zsnd (fX10_opens p v s0))) := by
  refine z_of (own := RX10) (by decide +kernel) rfl (Nat.le_of_ble_eq_true rfl) ?_
  intro κ C R0
  refine j_at [(0, .ref (zad (wM D kc ad) 17)), (1, .int (nI (p))), (2, .int (nI (v)))] ⟨rfl, rfl, rfl, trivial⟩ ?_
  refine j_aload_n C dX10_opens_0 rfl rfl ?_
  refine j_iconst (v := nI 4) C dX10_opens_1 (by decide +kernel) ?_
  refine j_iload_n C dX10_opens_2 rfl rfl ?_
  refine j_callV0 (T := TX10) (N := 23) C dX10_opens_3 (k_X10_fromSlot l D kc ad 4 (by omega) v (by omega) _ ) zy_X10_fromSlot mw_16_9 rfl rfl (Nat.zero_le _) (show 17 < 18 by decide) rfl rfl (Nat.le_of_ble_eq_true rfl) ⟨rfl, rfl, Nat.le_of_ble_eq_true rfl, Nat.le_of_ble_eq_true rfl⟩ ?_
  refine j_nmS (fun t1 et1 => ?_)
  refine j_aload_n C dX10_opens_6 rfl rfl ?_
  refine j_iload_n C dX10_opens_7 rfl rfl ?_
  refine j_iconst (v := nI 4) C dX10_opens_8 (by decide +kernel) ?_
  refine j_callV1 (T := TX10) (N := 23) C dX10_opens_9 (k_X10_open l D kc ad p (by omega) 4 (by omega) _ ) zy_X10_open mw_12_16 rfl rfl (Nat.zero_le _) (show 17 < 18 by decide) rfl rfl (Nat.le_of_ble_eq_true rfl) ⟨rfl, rfl, Nat.le_of_ble_eq_true rfl, Nat.le_of_ble_eq_true rfl⟩ ?_
  refine j_nmS (fun t2 et2 => ?_)
  exact j_zret (st := []) C R0 dX10_opens_12 ⟨(by (try rw [et2]); (try rw [et1]); unfold fX10_opens; (try dsimp only); all_goals ((try simp only [zfst_mk, zsnd_mk]); all_goals rfl)), ((by (try rw [et2]); (try rw [et1]); unfold fX10_opens; (try dsimp only); all_goals ((try simp only [zfst_mk, zsnd_mk]); all_goals rfl)))⟩
theorem k2q_fX10_opens (p : Nat) (v : Nat) (s0 : zSt) : zk2s (fX10_opens p v s0) = zk2 s0 := by
  unfold fX10_opens
  (try dsimp only)
  all_goals (simp only [zW_2, zL_2, k2_fX10_fromSlot, k2_fX10_open, k2q_fX10_open, zk2s_mk]; done)
theorem k2_fX10_opens (p : Nat) (v : Nat) (s0 : zSt) : zk2 (zsnd (fX10_opens p v s0)) = zk2 s0 := k2q_fX10_opens p v s0
theorem i2_fX10_opens (p : Nat) (v : Nat) (s0 : zSt) (kk9 : Nat) : (zsnd (fX10_opens p v s0)).2.2 kk9 = s0.2.2 kk9 := z2_I (k2_fX10_opens p v s0) kk9
theorem i3_fX10_opens (p : Nat) (v : Nat) (s0 : zSt) (kk9 : Nat) : zi (zsnd (fX10_opens p v s0)) kk9 = zi s0 kk9 := zi_of (k2_fX10_opens p v s0) kk9

def fX10_storePoint (v : Nat) (p : Nat) (s0 : zSt) : zSt :=
    let t1 := fX10_bytes 4 p s0
    let t2 := fX10_toSlot v 4 t1
    t2
set_option maxHeartbeats 4000000 in
set_option maxRecDepth 100000 in
theorem k_X10_storePoint (l : Launch) (D : va_G) (kc : Nat → ClassId) (ad : Nat → Nat) (v : Nat) (hv : v < 24) (p : Nat) (hp : p + 3 < 48) (s0 : zSt) : zM l yX10_storePoint cX10_storePoint 3 none rX10_storePoint (wM D kc ad) [.ref (zad (wM D kc ad) 17), .int (nI (v)), .int (nI (p))] s0 (zV0 (fX10_storePoint v p s0)) := by
  refine z_of (own := RX10) (by decide +kernel) rfl (Nat.le_of_ble_eq_true rfl) ?_
  intro κ C R0
  refine j_at [(0, .ref (zad (wM D kc ad) 17)), (1, .int (nI (v))), (2, .int (nI (p)))] ⟨rfl, rfl, rfl, trivial⟩ ?_
  refine j_aload_n C dX10_storePoint_0 rfl rfl ?_
  refine j_iconst (v := nI 4) C dX10_storePoint_1 (by decide +kernel) ?_
  refine j_iload_n C dX10_storePoint_2 rfl rfl ?_
  refine j_callV0 (T := TX10) (N := 23) C dX10_storePoint_3 (k_X10_bytes l D kc ad 4 (by omega) p (by omega) _ ) zy_X10_bytes mw_29_0 rfl rfl (Nat.zero_le _) (show 17 < 18 by decide) rfl rfl (Nat.le_of_ble_eq_true rfl) ⟨rfl, rfl, Nat.le_of_ble_eq_true rfl, Nat.le_of_ble_eq_true rfl⟩ ?_
  refine j_nmS (fun t1 et1 => ?_)
  refine j_aload_n C dX10_storePoint_6 rfl rfl ?_
  refine j_iload_n C dX10_storePoint_7 rfl rfl ?_
  refine j_iconst (v := nI 4) C dX10_storePoint_8 (by decide +kernel) ?_
  refine j_callV0 (T := TX10) (N := 23) C dX10_storePoint_9 (k_X10_toSlot l D kc ad v (by omega) 4 (by omega) _ ) zy_X10_toSlot mw_16_13 rfl rfl (Nat.zero_le _) (show 17 < 18 by decide) rfl rfl (Nat.le_of_ble_eq_true rfl) ⟨rfl, rfl, Nat.le_of_ble_eq_true rfl, Nat.le_of_ble_eq_true rfl⟩ ?_
  refine j_nmS (fun t2 et2 => ?_)
  exact j_vret (st := []) C R0 dX10_storePoint_12 ⟨rfl, (by (try rw [et2]); (try rw [et1]); unfold fX10_storePoint; (try dsimp only); all_goals ((try simp only [zfst_mk, zsnd_mk]); all_goals rfl))⟩
theorem k2_fX10_storePoint (v : Nat) (p : Nat) (s0 : zSt) : zk2 (fX10_storePoint v p s0) = zk2 s0 := by
  unfold fX10_storePoint
  (try dsimp only)
  all_goals (simp only [zW_2, zL_2, k2_fX10_bytes, k2_fX10_toSlot]; done)
theorem i2_fX10_storePoint (v : Nat) (p : Nat) (s0 : zSt) (kk9 : Nat) : (fX10_storePoint v p s0).2.2 kk9 = s0.2.2 kk9 := z2_I (k2_fX10_storePoint v p s0) kk9
theorem i3_fX10_storePoint (v : Nat) (p : Nat) (s0 : zSt) (kk9 : Nat) : zi (fX10_storePoint v p s0) kk9 = zi s0 kk9 := zi_of (k2_fX10_storePoint v p s0) kk9

def fX10_negate (p : Nat) (s0 : zSt) : zSt :=
    let t1 := fX10_subtract p 0 p s0
    let t2 := fX10_reduce p t1
    let t3 := fX10_subtract (p + 3) 0 (p + 3) t2
    let t4 := fX10_reduce (p + 3) t3
    t4
set_option maxHeartbeats 4000000 in
set_option maxRecDepth 100000 in
theorem k_X10_negate (l : Launch) (D : va_G) (kc : Nat → ClassId) (ad : Nat → Nat) (p : Nat) (hp : p + 3 < 48) (s0 : zSt) : zM l yX10_negate cX10_negate 2 none rX10_negate (wM D kc ad) [.ref (zad (wM D kc ad) 17), .int (nI (p))] s0 (zV0 (fX10_negate p s0)) := by
  refine z_of (own := RX10) (by decide +kernel) rfl (Nat.le_of_ble_eq_true rfl) ?_
  intro κ C R0
  refine j_at [(0, .ref (zad (wM D kc ad) 17)), (1, .int (nI (p)))] ⟨rfl, rfl, trivial⟩ ?_
  refine j_aload_n C dX10_negate_0 rfl rfl ?_
  refine j_iload_n C dX10_negate_1 rfl rfl ?_
  refine j_iconst (v := nI 0) C dX10_negate_2 (by decide +kernel) ?_
  refine j_iload_n C dX10_negate_3 rfl rfl ?_
  refine j_callV0 (T := TX10) (N := 23) C dX10_negate_4 (k_X10_subtract l D kc ad p (by omega) 0 (by omega) p (by omega) _ ) zy_X10_subtract mw_11_17 rfl rfl (Nat.zero_le _) (show 17 < 18 by decide) rfl rfl (Nat.le_of_ble_eq_true rfl) ⟨rfl, rfl, Nat.le_of_ble_eq_true rfl, Nat.le_of_ble_eq_true rfl⟩ ?_
  refine j_nmS (fun t1 et1 => ?_)
  refine j_aload_n C dX10_negate_7 rfl rfl ?_
  refine j_iload_n C dX10_negate_8 rfl rfl ?_
  refine j_callV0 (T := TX10) (N := 23) C dX10_negate_9 (k_X10_reduce l D kc ad p (by omega) _ ) zy_X10_reduce mw_11_9 rfl rfl (Nat.zero_le _) (show 17 < 18 by decide) rfl rfl (Nat.le_of_ble_eq_true rfl) ⟨rfl, rfl, Nat.le_of_ble_eq_true rfl, Nat.le_of_ble_eq_true rfl⟩ ?_
  refine j_nmS (fun t2 et2 => ?_)
  refine j_aload_n C dX10_negate_12 rfl rfl ?_
  refine j_iload_n C dX10_negate_13 rfl rfl ?_
  refine j_iconst (v := nI 3) C dX10_negate_14 (by decide +kernel) ?_
  refine j_iaddN C dX10_negate_15 ?_
  refine j_iconst (v := nI 0) C dX10_negate_16 (by decide +kernel) ?_
  refine j_iload_n C dX10_negate_17 rfl rfl ?_
  refine j_iconst (v := nI 3) C dX10_negate_18 (by decide +kernel) ?_
  refine j_iaddN C dX10_negate_19 ?_
  refine j_callV0 (T := TX10) (N := 23) C dX10_negate_20 (k_X10_subtract l D kc ad (p + 3) (by omega) 0 (by omega) (p + 3) (by omega) _ ) zy_X10_subtract mw_11_17 rfl rfl (Nat.zero_le _) (show 17 < 18 by decide) rfl rfl (Nat.le_of_ble_eq_true rfl) ⟨rfl, rfl, Nat.le_of_ble_eq_true rfl, Nat.le_of_ble_eq_true rfl⟩ ?_
  refine j_nmS (fun t3 et3 => ?_)
  refine j_aload_n C dX10_negate_23 rfl rfl ?_
  refine j_iload_n C dX10_negate_24 rfl rfl ?_
  refine j_iconst (v := nI 3) C dX10_negate_25 (by decide +kernel) ?_
  refine j_iaddN C dX10_negate_26 ?_
  refine j_callV0 (T := TX10) (N := 23) C dX10_negate_27 (k_X10_reduce l D kc ad (p + 3) (by omega) _ ) zy_X10_reduce mw_11_9 rfl rfl (Nat.zero_le _) (show 17 < 18 by decide) rfl rfl (Nat.le_of_ble_eq_true rfl) ⟨rfl, rfl, Nat.le_of_ble_eq_true rfl, Nat.le_of_ble_eq_true rfl⟩ ?_
  refine j_nmS (fun t4 et4 => ?_)
  exact j_vret (st := []) C R0 dX10_negate_30 ⟨rfl, (by (try rw [et4]); (try rw [et3]); (try rw [et2]); (try rw [et1]); unfold fX10_negate; (try dsimp only); all_goals ((try simp only [zfst_mk, zsnd_mk]); all_goals rfl))⟩
theorem k2_fX10_negate (p : Nat) (s0 : zSt) : zk2 (fX10_negate p s0) = zk2 s0 := by
  unfold fX10_negate
  (try dsimp only)
  all_goals (simp only [zW_2, zL_2, k2_fX10_reduce, k2_fX10_subtract]; done)
theorem i2_fX10_negate (p : Nat) (s0 : zSt) (kk9 : Nat) : (fX10_negate p s0).2.2 kk9 = s0.2.2 kk9 := z2_I (k2_fX10_negate p s0) kk9
theorem i3_fX10_negate (p : Nat) (s0 : zSt) (kk9 : Nat) : zi (fX10_negate p s0) kk9 = zi s0 kk9 := zi_of (k2_fX10_negate p s0) kk9

def fX10_eightTimes_2 (p : Nat) (i1 : Nat) (z2 : zSt) : zSt :=
    let t4 := fX10_addPoint p p z2
    t4
def fX10_eightTimes (p : Nat) (s0 : zSt) : zSt :=
    let u7 := ziter (fX10_eightTimes_2 p) 0 3 s0
    u7
set_option maxHeartbeats 4000000 in
set_option maxRecDepth 100000 in
theorem k_X10_eightTimes (l : Launch) (D : va_G) (kc : Nat → ClassId) (ad : Nat → Nat) (p : Nat) (hp : p + 3 < 48) (s0 : zSt) : zM l yX10_eightTimes cX10_eightTimes 3 none rX10_eightTimes (wM D kc ad) [.ref (zad (wM D kc ad) 17), .int (nI (p))] s0 (zV0 (fX10_eightTimes p s0)) := by
  refine z_of (own := RX10) (by decide +kernel) rfl (Nat.le_of_ble_eq_true rfl) ?_
  intro κ C R0
  refine j_at [(0, .ref (zad (wM D kc ad) 17)), (1, .int (nI (p)))] ⟨rfl, rfl, trivial⟩ ?_
  refine j_iconst (v := nI 0) C dX10_eightTimes_0 (by decide +kernel) ?_
  refine j_istore_n C dX10_eightTimes_1 rfl (by decide) ?_
  refine j_at [(0, .ref (zad (wM D kc ad) 17)), (1, .int (nI (p))), (2, .int (nI (0)))] ⟨rfl, rfl, rfl, trivial⟩ ?_
  refine z_up (α := zSt) (fun (i1 : Nat) (z2 : zSt) => zJ κ (wM D kc ad) 2 (zlof [(0, .ref (zad (wM D kc ad) 17)), (1, .int (nI (p))), (2, .int (nI (i1)))]) [] z2) (fX10_eightTimes_2 p) (fun _ _ => True) 3 ?_ (fun _ _ _ _ => trivial) 3 0 s0 (by omega) trivial ?_
  · intro i1 z2 hi1 hIi1 k0
    refine j_iload_n C dX10_eightTimes_2 rfl rfl ?_
    refine j_iconst (v := nI 3) C dX10_eightTimes_3 (by decide +kernel) ?_
    refine j_icmp_geN (tgt := 19) C dX10_eightTimes_4 (by decide) (by omega) (by omega) (fun q3 => False.elim (by omega)) (fun q3 => ?_)
    refine j_aload_n C dX10_eightTimes_7 rfl rfl ?_
    refine j_iload_n C dX10_eightTimes_8 rfl rfl ?_
    refine j_iload_n C dX10_eightTimes_9 rfl rfl ?_
    refine j_callV0 (T := TX10) (N := 23) C dX10_eightTimes_10 (k_X10_addPoint l D kc ad p (by omega) p (by omega) _ ) zy_X10_addPoint mw_28_16 rfl rfl (Nat.zero_le _) (show 17 < 18 by decide) rfl rfl (Nat.le_of_ble_eq_true rfl) ⟨rfl, rfl, Nat.le_of_ble_eq_true rfl, Nat.le_of_ble_eq_true rfl⟩ ?_
    refine j_nmS (fun t4 et4 => ?_)
    refine j_iincN (b := 1) C dX10_eightTimes_13 rfl (by decide +kernel) (by decide) ?_
    refine j_goto (tgt := 2) C dX10_eightTimes_16 (by decide) ?_
    refine j_nmS (fun t5 et5 => ?_)
    refine j_at [(0, .ref (zad (wM D kc ad) 17)), (1, .int (nI (p))), (2, .int (nI (i1 + 1)))] ⟨rfl, rfl, rfl, trivial⟩ ?_
    have eF : (fX10_eightTimes_2 p) i1 z2 = t5 := by rw [et5]; (try rw [et4]); unfold fX10_eightTimes_2; first | done | (dsimp only; done) | rfl
    exact Eq.mp (congrArg (fun (z6 : zSt) => zJ κ (wM D kc ad) 2 (zlof [(0, .ref (zad (wM D kc ad) 17)), (1, .int (nI (p))), (2, .int (nI (i1 + 1)))]) [] z6) eF) (k0 trivial)
  · intro hIi1
    refine z_nm (P := fun (z2 : zSt) => zJ κ (wM D kc ad) 2 (zlof [(0, .ref (zad (wM D kc ad) 17)), (1, .int (nI (p))), (2, .int (nI (3)))]) [] z2) (fun u7 eu7 => ?_)
    refine j_iload_n C dX10_eightTimes_2 rfl rfl ?_
    refine j_iconst (v := nI 3) C dX10_eightTimes_3 (by decide +kernel) ?_
    refine j_icmp_geN (tgt := 19) C dX10_eightTimes_4 (by decide) (by omega) (by omega) (fun q8 => ?_) (fun q8 => False.elim (by omega))
    exact j_vret (st := []) C R0 dX10_eightTimes_19 ⟨rfl, (by (try rw [eu7]); unfold fX10_eightTimes; (try dsimp only); all_goals ((try simp only [zfst_mk, zsnd_mk]); all_goals rfl))⟩
theorem k2_fX10_eightTimes_2 (p : Nat) (i1 : Nat) (z2 : zSt) : zk2 (fX10_eightTimes_2 p i1 z2) = zk2 z2 := by
  unfold fX10_eightTimes_2
  (try dsimp only)
  all_goals (simp only [zW_2, zL_2, k2_fX10_addPoint]; done)
theorem k2it_fX10_eightTimes_2 (p : Nat) (nn ii : Nat) (xx : zSt) : zk2 (ziter (fX10_eightTimes_2 p) ii nn xx) = zk2 xx := ziter_keep (fun x => zk2 x) _ (k2_fX10_eightTimes_2 p) nn ii xx
theorem k2_fX10_eightTimes (p : Nat) (s0 : zSt) : zk2 (fX10_eightTimes p s0) = zk2 s0 := by
  unfold fX10_eightTimes
  (try dsimp only)
  all_goals (simp only [zW_2, zL_2, k2_fX10_eightTimes_2, k2it_fX10_eightTimes_2]; done)
theorem i2_fX10_eightTimes (p : Nat) (s0 : zSt) (kk9 : Nat) : (fX10_eightTimes p s0).2.2 kk9 = s0.2.2 kk9 := z2_I (k2_fX10_eightTimes p s0) kk9
theorem i3_fX10_eightTimes (p : Nat) (s0 : zSt) (kk9 : Nat) : zi (fX10_eightTimes p s0) kk9 = zi s0 kk9 := zi_of (k2_fX10_eightTimes p s0) kk9

def fX10_clamp (p : Nat) (s0 : zSt) : zSt :=
    let t1 := zW s0 4 p ((s0.1 4 p) &&& ((-8 : Int64)))
    let t2 := zW t1 4 (p + 3) (((t1.1 4 (p + 3)) &&& ((9223372036854775807 : Int64))) ||| ((4611686018427387904 : Int64)))
    t2
set_option maxHeartbeats 4000000 in
set_option maxRecDepth 100000 in
theorem k_X10_clamp (l : Launch) (D : va_G) (kc : Nat → ClassId) (ad : Nat → Nat) (p : Nat) (hp : p ≤ 60) (s0 : zSt) : zM l yX10_clamp cX10_clamp 2 none rX10_clamp (wM D kc ad) [.ref (zad (wM D kc ad) 17), .int (nI (p))] s0 (zV0 (fX10_clamp p s0)) := by
  refine z_of (own := RX10) (by decide +kernel) rfl (Nat.le_of_ble_eq_true rfl) ?_
  intro κ C R0
  refine j_at [(0, .ref (zad (wM D kc ad) 17)), (1, .int (nI (p)))] ⟨rfl, rfl, trivial⟩ ?_
  refine j_aload_n C dX10_clamp_0 rfl rfl ?_
  refine j_getR C dX10_clamp_1 (fx_RX10_27 D kc ad) (Nat.zero_le _) (show 17 < 18 by decide) ?_
  refine j_iload_n C dX10_clamp_4 rfl rfl ?_
  refine j_dup2 C dX10_clamp_5 rfl rfl ?_
  refine m_lald C dX10_clamp_6 (⟨rfl, rfl, by decide, by decide⟩ : ma 64 4) (by omega) ?_
  refine j_ldc2 C dX10_clamp_7 mw_33_17 ?_
  refine j_land C dX10_clamp_10 ?_
  refine m_last C dX10_clamp_11 (⟨rfl, rfl, by decide, by decide⟩ : ma 64 4) (by omega) ?_
  refine j_nmS (fun t1 et1 => ?_)
  refine j_aload_n C dX10_clamp_12 rfl rfl ?_
  refine j_getR C dX10_clamp_13 (fx_RX10_27 D kc ad) (Nat.zero_le _) (show 17 < 18 by decide) ?_
  refine j_iload_n C dX10_clamp_16 rfl rfl ?_
  refine j_iconst (v := nI 3) C dX10_clamp_17 (by decide +kernel) ?_
  refine j_iaddN C dX10_clamp_18 ?_
  refine j_aload_n C dX10_clamp_19 rfl rfl ?_
  refine j_getR C dX10_clamp_20 (fx_RX10_27 D kc ad) (Nat.zero_le _) (show 17 < 18 by decide) ?_
  refine j_iload_n C dX10_clamp_23 rfl rfl ?_
  refine j_iconst (v := nI 3) C dX10_clamp_24 (by decide +kernel) ?_
  refine j_iaddN C dX10_clamp_25 ?_
  refine m_lald C dX10_clamp_26 (⟨rfl, rfl, by decide, by decide⟩ : ma 64 4) (by omega) ?_
  refine j_ldc2 C dX10_clamp_27 mw_10_0 ?_
  refine j_land C dX10_clamp_30 ?_
  refine j_ldc2 C dX10_clamp_31 mw_33_18 ?_
  refine j_lor C dX10_clamp_34 ?_
  refine m_last C dX10_clamp_35 (⟨rfl, rfl, by decide, by decide⟩ : ma 64 4) (by omega) ?_
  refine j_nmS (fun t2 et2 => ?_)
  exact j_vret (st := []) C R0 dX10_clamp_36 ⟨rfl, (by (try rw [et2]); (try rw [et1]); unfold fX10_clamp; (try dsimp only); all_goals ((try simp only [zfst_mk, zsnd_mk]); all_goals rfl))⟩
theorem k2_fX10_clamp (p : Nat) (s0 : zSt) : zk2 (fX10_clamp p s0) = zk2 s0 := by
  unfold fX10_clamp
  (try dsimp only)
  all_goals (simp only [zW_2, zL_2]; done)
theorem i2_fX10_clamp (p : Nat) (s0 : zSt) (kk9 : Nat) : (fX10_clamp p s0).2.2 kk9 = s0.2.2 kk9 := z2_I (k2_fX10_clamp p s0) kk9
theorem i3_fX10_clamp (p : Nat) (s0 : zSt) (kk9 : Nat) : zi (fX10_clamp p s0) kk9 = zi s0 kk9 := zi_of (k2_fX10_clamp p s0) kk9

def fX10_swap_2 (a : Nat) (b : Nat) (i1 : Nat) (z2 : zSt) : zSt :=
    let x4 := z2.1 2 ((16 * a) + i1)
    let t5 := zW z2 2 ((16 * a) + i1) (z2.1 2 ((16 * b) + i1))
    let t6 := zW t5 2 ((16 * b) + i1) x4
    t6
def fX10_swap (a : Nat) (b : Nat) (s0 : zSt) : zSt :=
    let u9 := ziter (fX10_swap_2 a b) 0 16 s0
    u9
set_option maxHeartbeats 4000000 in
set_option maxRecDepth 100000 in
theorem k_X10_swap (l : Launch) (D : va_G) (kc : Nat → ClassId) (ad : Nat → Nat) (a : Nat) (ha : a < 48) (b : Nat) (hb : b < 48) (s0 : zSt) : zM l yX10_swap cX10_swap 6 none rX10_swap (wM D kc ad) [.ref (zad (wM D kc ad) 17), .int (nI (a)), .int (nI (b))] s0 (zV0 (fX10_swap a b s0)) := by
  refine z_of (own := RX10) (by decide +kernel) rfl (Nat.le_of_ble_eq_true rfl) ?_
  intro κ C R0
  refine j_at [(0, .ref (zad (wM D kc ad) 17)), (1, .int (nI (a))), (2, .int (nI (b)))] ⟨rfl, rfl, rfl, trivial⟩ ?_
  refine j_iconst (v := nI 0) C dX10_swap_0 (by decide +kernel) ?_
  refine j_istore_n C dX10_swap_1 rfl (by decide) ?_
  refine j_at [(0, .ref (zad (wM D kc ad) 17)), (1, .int (nI (a))), (2, .int (nI (b))), (3, .int (nI (0)))] ⟨rfl, rfl, rfl, rfl, trivial⟩ ?_
  refine z_up (α := zSt) (fun (i1 : Nat) (z2 : zSt) => zJ κ (wM D kc ad) 2 (zlof [(0, .ref (zad (wM D kc ad) 17)), (1, .int (nI (a))), (2, .int (nI (b))), (3, .int (nI (i1)))]) [] z2) (fX10_swap_2 a b) (fun _ _ => True) 16 ?_ (fun _ _ _ _ => trivial) 16 0 s0 (by omega) trivial ?_
  · intro i1 z2 hi1 hIi1 k0
    refine j_iload_n C dX10_swap_2 rfl rfl ?_
    refine j_bipush (v := nI 16) C dX10_swap_3 (by decide +kernel) ?_
    refine j_icmp_geN (tgt := 62) C dX10_swap_5 (by decide) (by omega) (by omega) (fun q3 => False.elim (by omega)) (fun q3 => ?_)
    refine j_aload_n C dX10_swap_8 rfl rfl ?_
    refine j_getR C dX10_swap_9 (fx_RX10_21 D kc ad) (Nat.zero_le _) (show 17 < 18 by decide) ?_
    refine j_bipush (v := nI 16) C dX10_swap_12 (by decide +kernel) ?_
    refine j_iload_n C dX10_swap_14 rfl rfl ?_
    refine j_imulN C dX10_swap_15 ?_
    refine j_iload_n C dX10_swap_16 rfl rfl ?_
    refine j_iaddN C dX10_swap_17 ?_
    refine m_lald C dX10_swap_18 (⟨rfl, rfl, by decide, by decide⟩ : ma 768 2) (by omega) ?_
    refine j_nmL (fun x4 ex4 => ?_)
    refine j_lstore C dX10_swap_19 (by decide) ?_
    refine j_aload_n C dX10_swap_21 rfl rfl ?_
    refine j_getR C dX10_swap_22 (fx_RX10_21 D kc ad) (Nat.zero_le _) (show 17 < 18 by decide) ?_
    refine j_bipush (v := nI 16) C dX10_swap_25 (by decide +kernel) ?_
    refine j_iload_n C dX10_swap_27 rfl rfl ?_
    refine j_imulN C dX10_swap_28 ?_
    refine j_iload_n C dX10_swap_29 rfl rfl ?_
    refine j_iaddN C dX10_swap_30 ?_
    refine j_aload_n C dX10_swap_31 rfl rfl ?_
    refine j_getR C dX10_swap_32 (fx_RX10_21 D kc ad) (Nat.zero_le _) (show 17 < 18 by decide) ?_
    refine j_bipush (v := nI 16) C dX10_swap_35 (by decide +kernel) ?_
    refine j_iload_n C dX10_swap_37 rfl rfl ?_
    refine j_imulN C dX10_swap_38 ?_
    refine j_iload_n C dX10_swap_39 rfl rfl ?_
    refine j_iaddN C dX10_swap_40 ?_
    refine m_lald C dX10_swap_41 (⟨rfl, rfl, by decide, by decide⟩ : ma 768 2) (by omega) ?_
    refine m_last C dX10_swap_42 (⟨rfl, rfl, by decide, by decide⟩ : ma 768 2) (by omega) ?_
    refine j_nmS (fun t5 et5 => ?_)
    refine j_aload_n C dX10_swap_43 rfl rfl ?_
    refine j_getR C dX10_swap_44 (fx_RX10_21 D kc ad) (Nat.zero_le _) (show 17 < 18 by decide) ?_
    refine j_bipush (v := nI 16) C dX10_swap_47 (by decide +kernel) ?_
    refine j_iload_n C dX10_swap_49 rfl rfl ?_
    refine j_imulN C dX10_swap_50 ?_
    refine j_iload_n C dX10_swap_51 rfl rfl ?_
    refine j_iaddN C dX10_swap_52 ?_
    refine j_lload C dX10_swap_53 rfl ?_
    refine m_last C dX10_swap_55 (⟨rfl, rfl, by decide, by decide⟩ : ma 768 2) (by omega) ?_
    refine j_nmS (fun t6 et6 => ?_)
    refine j_iincN (b := 1) C dX10_swap_56 rfl (by decide +kernel) (by decide) ?_
    refine j_goto (tgt := 2) C dX10_swap_59 (by decide) ?_
    refine j_nmS (fun t7 et7 => ?_)
    refine j_at [(0, .ref (zad (wM D kc ad) 17)), (1, .int (nI (a))), (2, .int (nI (b))), (3, .int (nI (i1 + 1)))] ⟨rfl, rfl, rfl, rfl, trivial⟩ ?_
    have eF : (fX10_swap_2 a b) i1 z2 = t7 := by rw [et7]; (try rw [et6]); (try rw [et5]); (try rw [ex4]); unfold fX10_swap_2; first | done | (dsimp only; done) | rfl
    exact Eq.mp (congrArg (fun (z8 : zSt) => zJ κ (wM D kc ad) 2 (zlof [(0, .ref (zad (wM D kc ad) 17)), (1, .int (nI (a))), (2, .int (nI (b))), (3, .int (nI (i1 + 1)))]) [] z8) eF) (k0 trivial)
  · intro hIi1
    refine z_nm (P := fun (z2 : zSt) => zJ κ (wM D kc ad) 2 (zlof [(0, .ref (zad (wM D kc ad) 17)), (1, .int (nI (a))), (2, .int (nI (b))), (3, .int (nI (16)))]) [] z2) (fun u9 eu9 => ?_)
    refine j_iload_n C dX10_swap_2 rfl rfl ?_
    refine j_bipush (v := nI 16) C dX10_swap_3 (by decide +kernel) ?_
    refine j_icmp_geN (tgt := 62) C dX10_swap_5 (by decide) (by omega) (by omega) (fun q10 => ?_) (fun q10 => False.elim (by omega))
    exact j_vret (st := []) C R0 dX10_swap_62 ⟨rfl, (by (try rw [eu9]); unfold fX10_swap; (try dsimp only); all_goals ((try simp only [zfst_mk, zsnd_mk]); all_goals rfl))⟩
theorem k2_fX10_swap_2 (a : Nat) (b : Nat) (i1 : Nat) (z2 : zSt) : zk2 (fX10_swap_2 a b i1 z2) = zk2 z2 := by
  unfold fX10_swap_2
  (try dsimp only)
  all_goals (simp only [zW_2, zL_2]; done)
theorem k2it_fX10_swap_2 (a : Nat) (b : Nat) (nn ii : Nat) (xx : zSt) : zk2 (ziter (fX10_swap_2 a b) ii nn xx) = zk2 xx := ziter_keep (fun x => zk2 x) _ (k2_fX10_swap_2 a b) nn ii xx
theorem k2_fX10_swap (a : Nat) (b : Nat) (s0 : zSt) : zk2 (fX10_swap a b s0) = zk2 s0 := by
  unfold fX10_swap
  (try dsimp only)
  all_goals (simp only [zW_2, zL_2, k2_fX10_swap_2, k2it_fX10_swap_2]; done)
theorem i2_fX10_swap (a : Nat) (b : Nat) (s0 : zSt) (kk9 : Nat) : (fX10_swap a b s0).2.2 kk9 = s0.2.2 kk9 := z2_I (k2_fX10_swap a b s0) kk9
theorem i3_fX10_swap (a : Nat) (b : Nat) (s0 : zSt) (kk9 : Nat) : zi (fX10_swap a b s0) kk9 = zi s0 kk9 := zi_of (k2_fX10_swap a b s0) kk9
