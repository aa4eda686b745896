def fX2_step (xa : Nat) (za : Nat) (xb : Nat) (zb : Nat) (u : Nat) (s0 : zSt) : zSt :=
    let t1 := fX1_add xa za 170 s0
    let t2 := fX1_subtract xa za 171 t1
    let t3 := fX1_add xb zb 172 t2
    let t4 := fX1_subtract xb zb 173 t3
    let t5 := fX1_multiply 173 170 173 t4
    let t6 := fX1_multiply 172 171 172 t5
    let t7 := fX1_add 173 172 xb t6
    let t8 := fX1_square xb xb t7
    let t9 := fX1_subtract 173 172 zb t8
    let t10 := fX1_square zb zb t9
    let t11 := fX1_multiply zb u zb t10
    let t12 := fX1_square 170 170 t11
    let t13 := fX1_square 171 171 t12
    let t14 := fX1_subtract 170 171 174 t13
    let t15 := fX1_multiply 170 171 xa t14
    let t16 := fX1_scale 174 ((121665 : Int64)) 171 t15
    let t17 := fX1_add 170 171 171 t16
    let t18 := fX1_multiply 174 171 za t17
    t18
set_option maxHeartbeats 4000000 in
set_option maxRecDepth 100000 in
theorem k_X2_step (l : Launch) (D : va_G) (kc : Nat → ClassId) (ad : Nat → Nat) (n : Nat) (hn : 176 ≤ n) (xa : Nat) (hxa : wa n 10 xa) (za : Nat) (hza : wa n 10 za) (xb : Nat) (hxb : wa n 10 xb) (zb : Nat) (hzb : wa n 10 zb) (u : Nat) (hu : ra n 10 u) (s0 : zSt) : zM l yX2_step cX2_step 6 none rX2_step (wX D kc ad n) [.ref (zad (wX D kc ad n) 175), .ref (zad (wX D kc ad n) xa), .ref (zad (wX D kc ad n) za), .ref (zad (wX D kc ad n) xb), .ref (zad (wX D kc ad n) zb), .ref (zad (wX D kc ad n) u)] s0 (zV0 (fX2_step xa za xb zb u s0)) := by
  refine z_of (own := RX2) (by decide +kernel) rfl (Nat.le_of_ble_eq_true rfl) ?_
  intro κ C R0
  refine j_at [(0, .ref (zad (wX D kc ad n) 175)), (1, .ref (zad (wX D kc ad n) xa)), (2, .ref (zad (wX D kc ad n) za)), (3, .ref (zad (wX D kc ad n) xb)), (4, .ref (zad (wX D kc ad n) zb)), (5, .ref (zad (wX D kc ad n) u))] ⟨rfl, rfl, rfl, rfl, rfl, rfl, trivial⟩ ?_
  refine j_aload_n C dX2_step_0 rfl rfl ?_
  refine j_getR C dX2_step_1 (fx_RX2_44 D kc ad n) (show 11 ≤ 175 by decide) (show 175 < n by omega) ?_
  refine j_aload_n C dX2_step_4 rfl rfl ?_
  refine j_aload_n C dX2_step_5 rfl rfl ?_
  refine j_aload_n C dX2_step_6 rfl rfl ?_
  refine j_getR C dX2_step_7 (fx_RX2_29 D kc ad n) (show 11 ≤ 175 by decide) (show 175 < n by omega) ?_
  refine j_callV0 (T := TX1) (N := 8) C dX2_step_10 (k_X1_add l D kc ad n (by omega) xa hxa.1 za hza.1 170 (⟨⟨rfl, rfl, by omega, by decide⟩, by decide⟩ : wa n 10 170) _ ) zy_X1_add mw_33_0 rfl rfl (show 11 ≤ 62 by decide) (show 62 < n by omega) rfl rfl (Nat.le_of_ble_eq_true rfl) ⟨rfl, rfl, Nat.le_of_ble_eq_true rfl, Nat.le_of_ble_eq_true rfl⟩ ?_
  refine j_nmS (fun t1 et1 => ?_)
  refine j_aload_n C dX2_step_13 rfl rfl ?_
  refine j_getR C dX2_step_14 (fx_RX2_44 D kc ad n) (show 11 ≤ 175 by decide) (show 175 < n by omega) ?_
  refine j_aload_n C dX2_step_17 rfl rfl ?_
  refine j_aload_n C dX2_step_18 rfl rfl ?_
  refine j_aload_n C dX2_step_19 rfl rfl ?_
  refine j_getR C dX2_step_20 (fx_RX2_32 D kc ad n) (show 11 ≤ 175 by decide) (show 175 < n by omega) ?_
  refine j_callV0 (T := TX1) (N := 8) C dX2_step_23 (k_X1_subtract l D kc ad n (by omega) xa hxa.1 za hza.1 171 (⟨⟨rfl, rfl, by omega, by decide⟩, by decide⟩ : wa n 10 171) _ ) zy_X1_subtract mw_33_1 rfl rfl (show 11 ≤ 62 by decide) (show 62 < n by omega) rfl rfl (Nat.le_of_ble_eq_true rfl) ⟨rfl, rfl, Nat.le_of_ble_eq_true rfl, Nat.le_of_ble_eq_true rfl⟩ ?_
  refine j_nmS (fun t2 et2 => ?_)
  refine j_aload_n C dX2_step_26 rfl rfl ?_
  refine j_getR C dX2_step_27 (fx_RX2_44 D kc ad n) (show 11 ≤ 175 by decide) (show 175 < n by omega) ?_
  refine j_aload_n C dX2_step_30 rfl rfl ?_
  refine j_aload C dX2_step_31 rfl ?_
  refine j_aload_n C dX2_step_33 rfl rfl ?_
  refine j_getR C dX2_step_34 (fx_RX2_35 D kc ad n) (show 11 ≤ 175 by decide) (show 175 < n by omega) ?_
  refine j_callV0 (T := TX1) (N := 8) C dX2_step_37 (k_X1_add l D kc ad n (by omega) xb hxb.1 zb hzb.1 172 (⟨⟨rfl, rfl, by omega, by decide⟩, by decide⟩ : wa n 10 172) _ ) zy_X1_add mw_33_0 rfl rfl (show 11 ≤ 62 by decide) (show 62 < n by omega) rfl rfl (Nat.le_of_ble_eq_true rfl) ⟨rfl, rfl, Nat.le_of_ble_eq_true rfl, Nat.le_of_ble_eq_true rfl⟩ ?_
  refine j_nmS (fun t3 et3 => ?_)
  refine j_aload_n C dX2_step_40 rfl rfl ?_
  refine j_getR C dX2_step_41 (fx_RX2_44 D kc ad n) (show 11 ≤ 175 by decide) (show 175 < n by omega) ?_
  refine j_aload_n C dX2_step_44 rfl rfl ?_
  refine j_aload C dX2_step_45 rfl ?_
  refine j_aload_n C dX2_step_47 rfl rfl ?_
  refine j_getR C dX2_step_48 (fx_RX2_38 D kc ad n) (show 11 ≤ 175 by decide) (show 175 < n by omega) ?_
  refine j_callV0 (T := TX1) (N := 8) C dX2_step_51 (k_X1_subtract l D kc ad n (by omega) xb hxb.1 zb hzb.1 173 (⟨⟨rfl, rfl, by omega, by decide⟩, by decide⟩ : wa n 10 173) _ ) zy_X1_subtract mw_33_1 rfl rfl (show 11 ≤ 62 by decide) (show 62 < n by omega) rfl rfl (Nat.le_of_ble_eq_true rfl) ⟨rfl, rfl, Nat.le_of_ble_eq_true rfl, Nat.le_of_ble_eq_true rfl⟩ ?_
  refine j_nmS (fun t4 et4 => ?_)
  refine j_aload_n C dX2_step_54 rfl rfl ?_
  refine j_getR C dX2_step_55 (fx_RX2_44 D kc ad n) (show 11 ≤ 175 by decide) (show 175 < n by omega) ?_
  refine j_aload_n C dX2_step_58 rfl rfl ?_
  refine j_getR C dX2_step_59 (fx_RX2_38 D kc ad n) (show 11 ≤ 175 by decide) (show 175 < n by omega) ?_
  refine j_aload_n C dX2_step_62 rfl rfl ?_
  refine j_getR C dX2_step_63 (fx_RX2_29 D kc ad n) (show 11 ≤ 175 by decide) (show 175 < n by omega) ?_
  refine j_aload_n C dX2_step_66 rfl rfl ?_
  refine j_getR C dX2_step_67 (fx_RX2_38 D kc ad n) (show 11 ≤ 175 by decide) (show 175 < n by omega) ?_
  refine j_callV0 (T := TX1) (N := 8) C dX2_step_70 (k_X1_multiply l D kc ad n (by omega) 173 (⟨⟨rfl, rfl, by omega, by decide⟩, by decide⟩ : wa n 10 173).1 170 (⟨⟨rfl, rfl, by omega, by decide⟩, by decide⟩ : wa n 10 170).1 173 (⟨⟨rfl, rfl, by omega, by decide⟩, by decide⟩ : wa n 10 173) _ ) zy_X1_multiply mw_33_2 rfl rfl (show 11 ≤ 62 by decide) (show 62 < n by omega) rfl rfl (Nat.le_of_ble_eq_true rfl) ⟨rfl, rfl, Nat.le_of_ble_eq_true rfl, Nat.le_of_ble_eq_true rfl⟩ ?_
  refine j_nmS (fun t5 et5 => ?_)
  refine j_aload_n C dX2_step_73 rfl rfl ?_
  refine j_getR C dX2_step_74 (fx_RX2_44 D kc ad n) (show 11 ≤ 175 by decide) (show 175 < n by omega) ?_
  refine j_aload_n C dX2_step_77 rfl rfl ?_
  refine j_getR C dX2_step_78 (fx_RX2_35 D kc ad n) (show 11 ≤ 175 by decide) (show 175 < n by omega) ?_
  refine j_aload_n C dX2_step_81 rfl rfl ?_
  refine j_getR C dX2_step_82 (fx_RX2_32 D kc ad n) (show 11 ≤ 175 by decide) (show 175 < n by omega) ?_
  refine j_aload_n C dX2_step_85 rfl rfl ?_
  refine j_getR C dX2_step_86 (fx_RX2_35 D kc ad n) (show 11 ≤ 175 by decide) (show 175 < n by omega) ?_
  refine j_callV0 (T := TX1) (N := 8) C dX2_step_89 (k_X1_multiply l D kc ad n (by omega) 172 (⟨⟨rfl, rfl, by omega, by decide⟩, by decide⟩ : wa n 10 172).1 171 (⟨⟨rfl, rfl, by omega, by decide⟩, by decide⟩ : wa n 10 171).1 172 (⟨⟨rfl, rfl, by omega, by decide⟩, by decide⟩ : wa n 10 172) _ ) zy_X1_multiply mw_33_2 rfl rfl (show 11 ≤ 62 by decide) (show 62 < n by omega) rfl rfl (Nat.le_of_ble_eq_true rfl) ⟨rfl, rfl, Nat.le_of_ble_eq_true rfl, Nat.le_of_ble_eq_true rfl⟩ ?_
  refine j_nmS (fun t6 et6 => ?_)
  refine j_aload_n C dX2_step_92 rfl rfl ?_
  refine j_getR C dX2_step_93 (fx_RX2_44 D kc ad n) (show 11 ≤ 175 by decide) (show 175 < n by omega) ?_
  refine j_aload_n C dX2_step_96 rfl rfl ?_
  refine j_getR C dX2_step_97 (fx_RX2_38 D kc ad n) (show 11 ≤ 175 by decide) (show 175 < n by omega) ?_
  refine j_aload_n C dX2_step_100 rfl rfl ?_
  refine j_getR C dX2_step_101 (fx_RX2_35 D kc ad n) (show 11 ≤ 175 by decide) (show 175 < n by omega) ?_
  refine j_aload_n C dX2_step_104 rfl rfl ?_
  refine j_callV0 (T := TX1) (N := 8) C dX2_step_105 (k_X1_add l D kc ad n (by omega) 173 (⟨⟨rfl, rfl, by omega, by decide⟩, by decide⟩ : wa n 10 173).1 172 (⟨⟨rfl, rfl, by omega, by decide⟩, by decide⟩ : wa n 10 172).1 xb hxb _ ) zy_X1_add mw_33_0 rfl rfl (show 11 ≤ 62 by decide) (show 62 < n by omega) rfl rfl (Nat.le_of_ble_eq_true rfl) ⟨rfl, rfl, Nat.le_of_ble_eq_true rfl, Nat.le_of_ble_eq_true rfl⟩ ?_
  refine j_nmS (fun t7 et7 => ?_)
  refine j_aload_n C dX2_step_108 rfl rfl ?_
  refine j_getR C dX2_step_109 (fx_RX2_44 D kc ad n) (show 11 ≤ 175 by decide) (show 175 < n by omega) ?_
  refine j_aload_n C dX2_step_112 rfl rfl ?_
  refine j_aload_n C dX2_step_113 rfl rfl ?_
  refine j_callV0 (T := TX1) (N := 8) C dX2_step_114 (k_X1_square l D kc ad n (by omega) xb hxb.1 xb hxb _ ) zy_X1_square mw_33_3 rfl rfl (show 11 ≤ 62 by decide) (show 62 < n by omega) rfl rfl (Nat.le_of_ble_eq_true rfl) ⟨rfl, rfl, Nat.le_of_ble_eq_true rfl, Nat.le_of_ble_eq_true rfl⟩ ?_
  refine j_nmS (fun t8 et8 => ?_)
  refine j_aload_n C dX2_step_117 rfl rfl ?_
  refine j_getR C dX2_step_118 (fx_RX2_44 D kc ad n) (show 11 ≤ 175 by decide) (show 175 < n by omega) ?_
  refine j_aload_n C dX2_step_121 rfl rfl ?_
  refine j_getR C dX2_step_122 (fx_RX2_38 D kc ad n) (show 11 ≤ 175 by decide) (show 175 < n by omega) ?_
  refine j_aload_n C dX2_step_125 rfl rfl ?_
  refine j_getR C dX2_step_126 (fx_RX2_35 D kc ad n) (show 11 ≤ 175 by decide) (show 175 < n by omega) ?_
  refine j_aload C dX2_step_129 rfl ?_
  refine j_callV0 (T := TX1) (N := 8) C dX2_step_131 (k_X1_subtract l D kc ad n (by omega) 173 (⟨⟨rfl, rfl, by omega, by decide⟩, by decide⟩ : wa n 10 173).1 172 (⟨⟨rfl, rfl, by omega, by decide⟩, by decide⟩ : wa n 10 172).1 zb hzb _ ) zy_X1_subtract mw_33_1 rfl rfl (show 11 ≤ 62 by decide) (show 62 < n by omega) rfl rfl (Nat.le_of_ble_eq_true rfl) ⟨rfl, rfl, Nat.le_of_ble_eq_true rfl, Nat.le_of_ble_eq_true rfl⟩ ?_
  refine j_nmS (fun t9 et9 => ?_)
  refine j_aload_n C dX2_step_134 rfl rfl ?_
  refine j_getR C dX2_step_135 (fx_RX2_44 D kc ad n) (show 11 ≤ 175 by decide) (show 175 < n by omega) ?_
  refine j_aload C dX2_step_138 rfl ?_
  refine j_aload C dX2_step_140 rfl ?_
  refine j_callV0 (T := TX1) (N := 8) C dX2_step_142 (k_X1_square l D kc ad n (by omega) zb hzb.1 zb hzb _ ) zy_X1_square mw_33_3 rfl rfl (show 11 ≤ 62 by decide) (show 62 < n by omega) rfl rfl (Nat.le_of_ble_eq_true rfl) ⟨rfl, rfl, Nat.le_of_ble_eq_true rfl, Nat.le_of_ble_eq_true rfl⟩ ?_
  refine j_nmS (fun t10 et10 => ?_)
  refine j_aload_n C dX2_step_145 rfl rfl ?_
  refine j_getR C dX2_step_146 (fx_RX2_44 D kc ad n) (show 11 ≤ 175 by decide) (show 175 < n by omega) ?_
  refine j_aload C dX2_step_149 rfl ?_
  refine j_aload C dX2_step_151 rfl ?_
  refine j_aload C dX2_step_153 rfl ?_
  refine j_callV0 (T := TX1) (N := 8) C dX2_step_155 (k_X1_multiply l D kc ad n (by omega) zb hzb.1 u hu zb hzb _ ) zy_X1_multiply mw_33_2 rfl rfl (show 11 ≤ 62 by decide) (show 62 < n by omega) rfl rfl (Nat.le_of_ble_eq_true rfl) ⟨rfl, rfl, Nat.le_of_ble_eq_true rfl, Nat.le_of_ble_eq_true rfl⟩ ?_
  refine j_nmS (fun t11 et11 => ?_)
  refine j_aload_n C dX2_step_158 rfl rfl ?_
  refine j_getR C dX2_step_159 (fx_RX2_44 D kc ad n) (show 11 ≤ 175 by decide) (show 175 < n by omega) ?_
  refine j_aload_n C dX2_step_162 rfl rfl ?_
  refine j_getR C dX2_step_163 (fx_RX2_29 D kc ad n) (show 11 ≤ 175 by decide) (show 175 < n by omega) ?_
  refine j_aload_n C dX2_step_166 rfl rfl ?_
  refine j_getR C dX2_step_167 (fx_RX2_29 D kc ad n) (show 11 ≤ 175 by decide) (show 175 < n by omega) ?_
  refine j_callV0 (T := TX1) (N := 8) C dX2_step_170 (k_X1_square l D kc ad n (by omega) 170 (⟨⟨rfl, rfl, by omega, by decide⟩, by decide⟩ : wa n 10 170).1 170 (⟨⟨rfl, rfl, by omega, by decide⟩, by decide⟩ : wa n 10 170) _ ) zy_X1_square mw_33_3 rfl rfl (show 11 ≤ 62 by decide) (show 62 < n by omega) rfl rfl (Nat.le_of_ble_eq_true rfl) ⟨rfl, rfl, Nat.le_of_ble_eq_true rfl, Nat.le_of_ble_eq_true rfl⟩ ?_
  refine j_nmS (fun t12 et12 => ?_)
  refine j_aload_n C dX2_step_173 rfl rfl ?_
  refine j_getR C dX2_step_174 (fx_RX2_44 D kc ad n) (show 11 ≤ 175 by decide) (show 175 < n by omega) ?_
  refine j_aload_n C dX2_step_177 rfl rfl ?_
  refine j_getR C dX2_step_178 (fx_RX2_32 D kc ad n) (show 11 ≤ 175 by decide) (show 175 < n by omega) ?_
  refine j_aload_n C dX2_step_181 rfl rfl ?_
  refine j_getR C dX2_step_182 (fx_RX2_32 D kc ad n) (show 11 ≤ 175 by decide) (show 175 < n by omega) ?_
  refine j_callV0 (T := TX1) (N := 8) C dX2_step_185 (k_X1_square l D kc ad n (by omega) 171 (⟨⟨rfl, rfl, by omega, by decide⟩, by decide⟩ : wa n 10 171).1 171 (⟨⟨rfl, rfl, by omega, by decide⟩, by decide⟩ : wa n 10 171) _ ) zy_X1_square mw_33_3 rfl rfl (show 11 ≤ 62 by decide) (show 62 < n by omega) rfl rfl (Nat.le_of_ble_eq_true rfl) ⟨rfl, rfl, Nat.le_of_ble_eq_true rfl, Nat.le_of_ble_eq_true rfl⟩ ?_
  refine j_nmS (fun t13 et13 => ?_)
  refine j_aload_n C dX2_step_188 rfl rfl ?_
  refine j_getR C dX2_step_189 (fx_RX2_44 D kc ad n) (show 11 ≤ 175 by decide) (show 175 < n by omega) ?_
  refine j_aload_n C dX2_step_192 rfl rfl ?_
  refine j_getR C dX2_step_193 (fx_RX2_29 D kc ad n) (show 11 ≤ 175 by decide) (show 175 < n by omega) ?_
  refine j_aload_n C dX2_step_196 rfl rfl ?_
  refine j_getR C dX2_step_197 (fx_RX2_32 D kc ad n) (show 11 ≤ 175 by decide) (show 175 < n by omega) ?_
  refine j_aload_n C dX2_step_200 rfl rfl ?_
  refine j_getR C dX2_step_201 (fx_RX2_41 D kc ad n) (show 11 ≤ 175 by decide) (show 175 < n by omega) ?_
  refine j_callV0 (T := TX1) (N := 8) C dX2_step_204 (k_X1_subtract l D kc ad n (by omega) 170 (⟨⟨rfl, rfl, by omega, by decide⟩, by decide⟩ : wa n 10 170).1 171 (⟨⟨rfl, rfl, by omega, by decide⟩, by decide⟩ : wa n 10 171).1 174 (⟨⟨rfl, rfl, by omega, by decide⟩, by decide⟩ : wa n 10 174) _ ) zy_X1_subtract mw_33_1 rfl rfl (show 11 ≤ 62 by decide) (show 62 < n by omega) rfl rfl (Nat.le_of_ble_eq_true rfl) ⟨rfl, rfl, Nat.le_of_ble_eq_true rfl, Nat.le_of_ble_eq_true rfl⟩ ?_
  refine j_nmS (fun t14 et14 => ?_)
  refine j_aload_n C dX2_step_207 rfl rfl ?_
  refine j_getR C dX2_step_208 (fx_RX2_44 D kc ad n) (show 11 ≤ 175 by decide) (show 175 < n by omega) ?_
  refine j_aload_n C dX2_step_211 rfl rfl ?_
  refine j_getR C dX2_step_212 (fx_RX2_29 D kc ad n) (show 11 ≤ 175 by decide) (show 175 < n by omega) ?_
  refine j_aload_n C dX2_step_215 rfl rfl ?_
  refine j_getR C dX2_step_216 (fx_RX2_32 D kc ad n) (show 11 ≤ 175 by decide) (show 175 < n by omega) ?_
  refine j_aload_n C dX2_step_219 rfl rfl ?_
  refine j_callV0 (T := TX1) (N := 8) C dX2_step_220 (k_X1_multiply l D kc ad n (by omega) 170 (⟨⟨rfl, rfl, by omega, by decide⟩, by decide⟩ : wa n 10 170).1 171 (⟨⟨rfl, rfl, by omega, by decide⟩, by decide⟩ : wa n 10 171).1 xa hxa _ ) zy_X1_multiply mw_33_2 rfl rfl (show 11 ≤ 62 by decide) (show 62 < n by omega) rfl rfl (Nat.le_of_ble_eq_true rfl) ⟨rfl, rfl, Nat.le_of_ble_eq_true rfl, Nat.le_of_ble_eq_true rfl⟩ ?_
  refine j_nmS (fun t15 et15 => ?_)
  refine j_aload_n C dX2_step_223 rfl rfl ?_
  refine j_getR C dX2_step_224 (fx_RX2_44 D kc ad n) (show 11 ≤ 175 by decide) (show 175 < n by omega) ?_
  refine j_aload_n C dX2_step_227 rfl rfl ?_
  refine j_getR C dX2_step_228 (fx_RX2_41 D kc ad n) (show 11 ≤ 175 by decide) (show 175 < n by omega) ?_
  refine j_ldc2 C dX2_step_231 mw_32_23 ?_
  refine j_aload_n C dX2_step_234 rfl rfl ?_
  refine j_getR C dX2_step_235 (fx_RX2_32 D kc ad n) (show 11 ≤ 175 by decide) (show 175 < n by omega) ?_
  refine j_callV0 (T := TX1) (N := 8) C dX2_step_238 (k_X1_scale l D kc ad n (by omega) 174 (⟨⟨rfl, rfl, by omega, by decide⟩, by decide⟩ : wa n 10 174).1 ((121665 : Int64)) 171 (⟨⟨rfl, rfl, by omega, by decide⟩, by decide⟩ : wa n 10 171) _ ) zy_X1_scale mw_33_4 rfl rfl (show 11 ≤ 62 by decide) (show 62 < n by omega) rfl rfl (Nat.le_of_ble_eq_true rfl) ⟨rfl, rfl, Nat.le_of_ble_eq_true rfl, Nat.le_of_ble_eq_true rfl⟩ ?_
  refine j_nmS (fun t16 et16 => ?_)
  refine j_aload_n C dX2_step_241 rfl rfl ?_
  refine j_getR C dX2_step_242 (fx_RX2_44 D kc ad n) (show 11 ≤ 175 by decide) (show 175 < n by omega) ?_
  refine j_aload_n C dX2_step_245 rfl rfl ?_
  refine j_getR C dX2_step_246 (fx_RX2_29 D kc ad n) (show 11 ≤ 175 by decide) (show 175 < n by omega) ?_
  refine j_aload_n C dX2_step_249 rfl rfl ?_
  refine j_getR C dX2_step_250 (fx_RX2_32 D kc ad n) (show 11 ≤ 175 by decide) (show 175 < n by omega) ?_
  refine j_aload_n C dX2_step_253 rfl rfl ?_
  refine j_getR C dX2_step_254 (fx_RX2_32 D kc ad n) (show 11 ≤ 175 by decide) (show 175 < n by omega) ?_
  refine j_callV0 (T := TX1) (N := 8) C dX2_step_257 (k_X1_add l D kc ad n (by omega) 170 (⟨⟨rfl, rfl, by omega, by decide⟩, by decide⟩ : wa n 10 170).1 171 (⟨⟨rfl, rfl, by omega, by decide⟩, by decide⟩ : wa n 10 171).1 171 (⟨⟨rfl, rfl, by omega, by decide⟩, by decide⟩ : wa n 10 171) _ ) zy_X1_add mw_33_0 rfl rfl (show 11 ≤ 62 by decide) (show 62 < n by omega) rfl rfl (Nat.le_of_ble_eq_true rfl) ⟨rfl, rfl, Nat.le_of_ble_eq_true rfl, Nat.le_of_ble_eq_true rfl⟩ ?_
  refine j_nmS (fun t17 et17 => ?_)
  refine j_aload_n C dX2_step_260 rfl rfl ?_
  refine j_getR C dX2_step_261 (fx_RX2_44 D kc ad n) (show 11 ≤ 175 by decide) (show 175 < n by omega) ?_
  refine j_aload_n C dX2_step_264 rfl rfl ?_
  refine j_getR C dX2_step_265 (fx_RX2_41 D kc ad n) (show 11 ≤ 175 by decide) (show 175 < n by omega) ?_
  refine j_aload_n C dX2_step_268 rfl rfl ?_
  refine j_getR C dX2_step_269 (fx_RX2_32 D kc ad n) (show 11 ≤ 175 by decide) (show 175 < n by omega) ?_
  refine j_aload_n C dX2_step_272 rfl rfl ?_
  refine j_callV0 (T := TX1) (N := 8) C dX2_step_273 (k_X1_multiply l D kc ad n (by omega) 174 (⟨⟨rfl, rfl, by omega, by decide⟩, by decide⟩ : wa n 10 174).1 171 (⟨⟨rfl, rfl, by omega, by decide⟩, by decide⟩ : wa n 10 171).1 za hza _ ) zy_X1_multiply mw_33_2 rfl rfl (show 11 ≤ 62 by decide) (show 62 < n by omega) rfl rfl (Nat.le_of_ble_eq_true rfl) ⟨rfl, rfl, Nat.le_of_ble_eq_true rfl, Nat.le_of_ble_eq_true rfl⟩ ?_
  refine j_nmS (fun t18 et18 => ?_)
  exact j_vret (st := []) C R0 dX2_step_276 ⟨rfl, (by (try rw [et18]); (try rw [et17]); (try rw [et16]); (try rw [et15]); (try rw [et14]); (try rw [et13]); (try rw [et12]); (try rw [et11]); (try rw [et10]); (try rw [et9]); (try rw [et8]); (try rw [et7]); (try rw [et6]); (try rw [et5]); (try rw [et4]); (try rw [et3]); (try rw [et2]); (try rw [et1]); unfold fX2_step; (try dsimp only); all_goals ((try simp only [zfst_mk, zsnd_mk]); all_goals rfl))⟩
theorem k2_fX2_step (xa : Nat) (za : Nat) (xb : Nat) (zb : Nat) (u : Nat) (s0 : zSt) : zk2 (fX2_step xa za xb zb u s0) = zk2 s0 := by
  unfold fX2_step
  (try dsimp only)
  all_goals (simp only [zW_2, zL_2, k2_fX1_add, k2_fX1_multiply, k2_fX1_scale, k2_fX1_square, k2_fX1_subtract]; done)
theorem i2_fX2_step (xa : Nat) (za : Nat) (xb : Nat) (zb : Nat) (u : Nat) (s0 : zSt) (kk9 : Nat) : (fX2_step xa za xb zb u s0).2.2 kk9 = s0.2.2 kk9 := z2_I (k2_fX2_step xa za xb zb u s0) kk9
theorem i3_fX2_step (xa : Nat) (za : Nat) (xb : Nat) (zb : Nat) (u : Nat) (s0 : zSt) (kk9 : Nat) : zi (fX2_step xa za xb zb u s0) kk9 = zi s0 kk9 := zi_of (k2_fX2_step xa za xb zb u s0) kk9

def fX2_climb_a1 (u : Nat) (z8 : zSt) : zSt :=
    let t13 := fX2_step 166 167 168 169 u z8
    t13
def fX2_climb_a2 (u : Nat) (z8 : zSt) : zSt :=
    let t17 := fX2_step 168 169 166 167 u z8
    t17
def fX2_climb_68 (u : Nat) (i7 : Nat) (z8 : zSt) : zSt :=
    let x10 := vX8_bit 165 4 i7 z8
    if x10 ≠ 1 then
      fX2_climb_a1 u z8
    else
      fX2_climb_a2 u z8
def fX2_climb (ks : Nat) (u : Nat) (out : Nat) (s0 : zSt) : zSt :=
    let t1 := fX8_move ks 165 s0
    let t2 := fX8_clamp 165 t1
    let t3 := fX1_become 166 ((1 : Int64)) t2
    let t4 := fX1_become 167 ((0 : Int64)) t3
    let t5 := fX1_move u 168 t4
    let t6 := fX1_become 169 ((1 : Int64)) t5
    let u20 := zdown (fX2_climb_68 u) 255 t6
    let t22 := fX1_invert 167 167 u20
    let t23 := fX1_multiply 166 167 out t22
    t23
set_option maxHeartbeats 4000000 in
set_option maxRecDepth 100000 in
theorem k_X2_climb (l : Launch) (D : va_G) (kc : Nat → ClassId) (ad : Nat → Nat) (n : Nat) (hn : 176 ≤ n) (ks : Nat) (hks : ra n 4 ks) (u : Nat) (hu : ra n 10 u) (out : Nat) (hout : wa n 10 out) (s0 : zSt) : zM l yX2_climb cX2_climb 5 none rX2_climb (wX D kc ad n) [.ref (zad (wX D kc ad n) 175), .ref (zad (wX D kc ad n) ks), .ref (zad (wX D kc ad n) u), .ref (zad (wX D kc ad n) out)] s0 (zV0 (fX2_climb ks u out s0)) := by
  refine z_of (own := RX2) (by decide +kernel) rfl (Nat.le_of_ble_eq_true rfl) ?_
  intro κ C R0
  refine j_at [(0, .ref (zad (wX D kc ad n) 175)), (1, .ref (zad (wX D kc ad n) ks)), (2, .ref (zad (wX D kc ad n) u)), (3, .ref (zad (wX D kc ad n) out))] ⟨rfl, rfl, rfl, rfl, trivial⟩ ?_
  refine j_aload_n C dX2_climb_0 rfl rfl ?_
  refine j_aload_n C dX2_climb_1 rfl rfl ?_
  refine j_getR C dX2_climb_2 (fx_RX2_9 D kc ad n) (show 11 ≤ 175 by decide) (show 175 < n by omega) ?_
  refine j_callS0 C dX2_climb_5 (k_X8_move l D kc ad n (by omega) ks hks 165 (⟨⟨rfl, rfl, by omega, by decide⟩, by decide⟩ : wa n 4 165) _ ) zy_X8_move mw_32_9 rfl rfl (Nat.le_of_ble_eq_true rfl) ⟨rfl, rfl, Nat.le_of_ble_eq_true rfl, Nat.le_of_ble_eq_true rfl⟩ ?_
  refine j_nmS (fun t1 et1 => ?_)
  refine j_aload_n C dX2_climb_8 rfl rfl ?_
  refine j_getR C dX2_climb_9 (fx_RX2_9 D kc ad n) (show 11 ≤ 175 by decide) (show 175 < n by omega) ?_
  refine j_callS0 C dX2_climb_12 (k_X8_clamp l D kc ad n (by omega) 165 (⟨⟨rfl, rfl, by omega, by decide⟩, by decide⟩ : wa n 4 165) _ ) zy_X8_clamp mw_32_10 rfl rfl (Nat.le_of_ble_eq_true rfl) ⟨rfl, rfl, Nat.le_of_ble_eq_true rfl, Nat.le_of_ble_eq_true rfl⟩ ?_
  refine j_nmS (fun t2 et2 => ?_)
  refine j_aload_n C dX2_climb_15 rfl rfl ?_
  refine j_getR C dX2_climb_16 (fx_RX2_44 D kc ad n) (show 11 ≤ 175 by decide) (show 175 < n by omega) ?_
  refine j_aload_n C dX2_climb_19 rfl rfl ?_
  refine j_getR C dX2_climb_20 (fx_RX2_17 D kc ad n) (show 11 ≤ 175 by decide) (show 175 < n by omega) ?_
  refine j_lconst (v := 1) C dX2_climb_23 rfl ?_
  refine j_callV0 (T := TX1) (N := 8) C dX2_climb_24 (k_X1_become l D kc ad n (by omega) 166 (⟨⟨rfl, rfl, by omega, by decide⟩, by decide⟩ : wa n 10 166) ((1 : Int64)) _ ) zy_X1_become mw_32_16 rfl rfl (show 11 ≤ 62 by decide) (show 62 < n by omega) rfl rfl (Nat.le_of_ble_eq_true rfl) ⟨rfl, rfl, Nat.le_of_ble_eq_true rfl, Nat.le_of_ble_eq_true rfl⟩ ?_
  refine j_nmS (fun t3 et3 => ?_)
  refine j_aload_n C dX2_climb_27 rfl rfl ?_
  refine j_getR C dX2_climb_28 (fx_RX2_44 D kc ad n) (show 11 ≤ 175 by decide) (show 175 < n by omega) ?_
  refine j_aload_n C dX2_climb_31 rfl rfl ?_
  refine j_getR C dX2_climb_32 (fx_RX2_20 D kc ad n) (show 11 ≤ 175 by decide) (show 175 < n by omega) ?_
  refine j_lconst (v := 0) C dX2_climb_35 rfl ?_
  refine j_callV0 (T := TX1) (N := 8) C dX2_climb_36 (k_X1_become l D kc ad n (by omega) 167 (⟨⟨rfl, rfl, by omega, by decide⟩, by decide⟩ : wa n 10 167) ((0 : Int64)) _ ) zy_X1_become mw_32_16 rfl rfl (show 11 ≤ 62 by decide) (show 62 < n by omega) rfl rfl (Nat.le_of_ble_eq_true rfl) ⟨rfl, rfl, Nat.le_of_ble_eq_true rfl, Nat.le_of_ble_eq_true rfl⟩ ?_
  refine j_nmS (fun t4 et4 => ?_)
  refine j_aload_n C dX2_climb_39 rfl rfl ?_
  refine j_getR C dX2_climb_40 (fx_RX2_44 D kc ad n) (show 11 ≤ 175 by decide) (show 175 < n by omega) ?_
  refine j_aload_n C dX2_climb_43 rfl rfl ?_
  refine j_aload_n C dX2_climb_44 rfl rfl ?_
  refine j_getR C dX2_climb_45 (fx_RX2_23 D kc ad n) (show 11 ≤ 175 by decide) (show 175 < n by omega) ?_
  refine j_callV0 (T := TX1) (N := 8) C dX2_climb_48 (k_X1_move l D kc ad n (by omega) u hu 168 (⟨⟨rfl, rfl, by omega, by decide⟩, by decide⟩ : wa n 10 168) _ ) zy_X1_move mw_32_17 rfl rfl (show 11 ≤ 62 by decide) (show 62 < n by omega) rfl rfl (Nat.le_of_ble_eq_true rfl) ⟨rfl, rfl, Nat.le_of_ble_eq_true rfl, Nat.le_of_ble_eq_true rfl⟩ ?_
  refine j_nmS (fun t5 et5 => ?_)
  refine j_aload_n C dX2_climb_51 rfl rfl ?_
  refine j_getR C dX2_climb_52 (fx_RX2_44 D kc ad n) (show 11 ≤ 175 by decide) (show 175 < n by omega) ?_
  refine j_aload_n C dX2_climb_55 rfl rfl ?_
  refine j_getR C dX2_climb_56 (fx_RX2_26 D kc ad n) (show 11 ≤ 175 by decide) (show 175 < n by omega) ?_
  refine j_lconst (v := 1) C dX2_climb_59 rfl ?_
  refine j_callV0 (T := TX1) (N := 8) C dX2_climb_60 (k_X1_become l D kc ad n (by omega) 169 (⟨⟨rfl, rfl, by omega, by decide⟩, by decide⟩ : wa n 10 169) ((1 : Int64)) _ ) zy_X1_become mw_32_16 rfl rfl (show 11 ≤ 62 by decide) (show 62 < n by omega) rfl rfl (Nat.le_of_ble_eq_true rfl) ⟨rfl, rfl, Nat.le_of_ble_eq_true rfl, Nat.le_of_ble_eq_true rfl⟩ ?_
  refine j_nmS (fun t6 et6 => ?_)
  refine j_sipush (v := nI 254) C dX2_climb_63 (by decide +kernel) ?_
  refine j_istore C dX2_climb_66 (by decide) ?_
  refine j_at [(0, .ref (zad (wX D kc ad n) 175)), (2, .ref (zad (wX D kc ad n) u)), (3, .ref (zad (wX D kc ad n) out)), (4, .int (dI 255))] ⟨rfl, rfl, rfl, congrArg (fun q => some (Value.int q)) (dI_succ _).symm, trivial⟩ ?_
  refine z_dn (α := zSt) (fun (i7 : Nat) (z8 : zSt) => zJ κ (wX D kc ad n) 68 (zlof [(0, .ref (zad (wX D kc ad n) 175)), (2, .ref (zad (wX D kc ad n) u)), (3, .ref (zad (wX D kc ad n) out)), (4, .int (dI i7))]) [] z8) (fX2_climb_68 u) (fun i7 z8 => i7 ≤ 255) ?_ (fun _ _ h => by omega) 255 t6 (Nat.le_refl _) ?_
  · intro i7 z8 hIi7 k0
    refine j_at [(0, .ref (zad (wX D kc ad n) 175)), (2, .ref (zad (wX D kc ad n) u)), (3, .ref (zad (wX D kc ad n) out)), (4, .int (nI (i7)))] ⟨rfl, rfl, rfl, congrArg (fun q => some (Value.int q)) (dI_succ _), trivial⟩ ?_
    refine j_iload C dX2_climb_68 rfl ?_
    refine j_if_lt (tgt := 137) C dX2_climb_70 (by decide) (fun q9 => False.elim (nI_pos (by omega) q9)) (fun q9 => ?_)
    refine j_aload_n C dX2_climb_73 rfl rfl ?_
    refine j_getR C dX2_climb_74 (fx_RX2_9 D kc ad n) (show 11 ≤ 175 by decide) (show 175 < n by omega) ?_
    refine j_iload C dX2_climb_77 rfl ?_
    refine j_callS1 C dX2_climb_79 (k_X8_bit l D kc ad n (by omega) 165 4 (⟨⟨rfl, rfl, by omega, by decide⟩, by decide⟩ : wa n 4 165).1 i7 (by omega) _ (by omega)) zy_X8_bit mw_32_18 rfl rfl (Nat.le_of_ble_eq_true rfl) ⟨rfl, rfl, Nat.le_of_ble_eq_true rfl, Nat.le_of_ble_eq_true rfl⟩ ?_
    refine j_nmN (fun x10 ex10 => ?_)
    have hx10 : x10 < 2 := by rw [ex10]; exact lt_bit _ _ _ _
    refine j_iconst (v := nI 1) C dX2_climb_82 (by decide +kernel) ?_
    refine j_icmp_neN (tgt := 110) C dX2_climb_83 (by decide) (by omega) (by omega) (fun q11 => ?_) (fun q11 => ?_)
    · have hA12 : (fX2_climb_68 u) i7 z8 = fX2_climb_a1 u z8 := by (try rw [ex10]); have q11z := q11; (try rw [ex10] at q11z); (try dsimp only at q11z); unfold fX2_climb_68; (try dsimp only); rw [if_pos q11z]; (try rfl)
      refine j_aload_n C dX2_climb_110 rfl rfl ?_
      refine j_aload_n C dX2_climb_111 rfl rfl ?_
      refine j_getR C dX2_climb_112 (fx_RX2_17 D kc ad n) (show 11 ≤ 175 by decide) (show 175 < n by omega) ?_
      refine j_aload_n C dX2_climb_115 rfl rfl ?_
      refine j_getR C dX2_climb_116 (fx_RX2_20 D kc ad n) (show 11 ≤ 175 by decide) (show 175 < n by omega) ?_
      refine j_aload_n C dX2_climb_119 rfl rfl ?_
      refine j_getR C dX2_climb_120 (fx_RX2_23 D kc ad n) (show 11 ≤ 175 by decide) (show 175 < n by omega) ?_
      refine j_aload_n C dX2_climb_123 rfl rfl ?_
      refine j_getR C dX2_climb_124 (fx_RX2_26 D kc ad n) (show 11 ≤ 175 by decide) (show 175 < n by omega) ?_
      refine j_aload_n C dX2_climb_127 rfl rfl ?_
      refine j_callV0 (T := TX2) (N := 11) C dX2_climb_128 (k_X2_step l D kc ad n (by omega) 166 (⟨⟨rfl, rfl, by omega, by decide⟩, by decide⟩ : wa n 10 166) 167 (⟨⟨rfl, rfl, by omega, by decide⟩, by decide⟩ : wa n 10 167) 168 (⟨⟨rfl, rfl, by omega, by decide⟩, by decide⟩ : wa n 10 168) 169 (⟨⟨rfl, rfl, by omega, by decide⟩, by decide⟩ : wa n 10 169) u hu _ ) zy_X2_step mw_32_19 rfl rfl (show 11 ≤ 175 by decide) (show 175 < n by omega) rfl rfl (Nat.le_of_ble_eq_true rfl) ⟨rfl, rfl, Nat.le_of_ble_eq_true rfl, Nat.le_of_ble_eq_true rfl⟩ ?_
      refine j_nmS (fun t13 et13 => ?_)
      refine j_iincD C dX2_climb_131 rfl (by decide) ?_
      refine j_goto (tgt := 68) C dX2_climb_134 (by decide) ?_
      refine j_nmS (fun t14 et14 => ?_)
      refine j_at [(0, .ref (zad (wX D kc ad n) 175)), (2, .ref (zad (wX D kc ad n) u)), (3, .ref (zad (wX D kc ad n) out)), (4, .int (dI i7))] ⟨rfl, rfl, rfl, rfl, trivial⟩ ?_
      have eF : (fX2_climb_68 u) i7 z8 = t14 := by rw [hA12]; rw [et14]; (try rw [et13]); unfold fX2_climb_a1; first | done | (dsimp only; done) | rfl
      exact Eq.mp (congrArg (fun (z15 : zSt) => zJ κ (wX D kc ad n) 68 (zlof [(0, .ref (zad (wX D kc ad n) 175)), (2, .ref (zad (wX D kc ad n) u)), (3, .ref (zad (wX D kc ad n) out)), (4, .int (dI i7))]) [] z15) eF) (k0 ((by omega)))
    · have hA16 : (fX2_climb_68 u) i7 z8 = fX2_climb_a2 u z8 := by (try rw [ex10]); have q11z : ¬ (x10 ≠ 1) := (by omega); (try rw [ex10] at q11z); (try dsimp only at q11z); unfold fX2_climb_68; (try dsimp only); rw [if_neg q11z]; (try rfl)
      refine j_aload_n C dX2_climb_86 rfl rfl ?_
      refine j_aload_n C dX2_climb_87 rfl rfl ?_
      refine j_getR C dX2_climb_88 (fx_RX2_23 D kc ad n) (show 11 ≤ 175 by decide) (show 175 < n by omega) ?_
      refine j_aload_n C dX2_climb_91 rfl rfl ?_
      refine j_getR C dX2_climb_92 (fx_RX2_26 D kc ad n) (show 11 ≤ 175 by decide) (show 175 < n by omega) ?_
      refine j_aload_n C dX2_climb_95 rfl rfl ?_
      refine j_getR C dX2_climb_96 (fx_RX2_17 D kc ad n) (show 11 ≤ 175 by decide) (show 175 < n by omega) ?_
      refine j_aload_n C dX2_climb_99 rfl rfl ?_
      refine j_getR C dX2_climb_100 (fx_RX2_20 D kc ad n) (show 11 ≤ 175 by decide) (show 175 < n by omega) ?_
      refine j_aload_n C dX2_climb_103 rfl rfl ?_
      refine j_callV0 (T := TX2) (N := 11) C dX2_climb_104 (k_X2_step l D kc ad n (by omega) 168 (⟨⟨rfl, rfl, by omega, by decide⟩, by decide⟩ : wa n 10 168) 169 (⟨⟨rfl, rfl, by omega, by decide⟩, by decide⟩ : wa n 10 169) 166 (⟨⟨rfl, rfl, by omega, by decide⟩, by decide⟩ : wa n 10 166) 167 (⟨⟨rfl, rfl, by omega, by decide⟩, by decide⟩ : wa n 10 167) u hu _ ) zy_X2_step mw_32_19 rfl rfl (show 11 ≤ 175 by decide) (show 175 < n by omega) rfl rfl (Nat.le_of_ble_eq_true rfl) ⟨rfl, rfl, Nat.le_of_ble_eq_true rfl, Nat.le_of_ble_eq_true rfl⟩ ?_
      refine j_nmS (fun t17 et17 => ?_)
      refine j_goto (tgt := 131) C dX2_climb_107 (by decide) ?_
      refine j_iincD C dX2_climb_131 rfl (by decide) ?_
      refine j_goto (tgt := 68) C dX2_climb_134 (by decide) ?_
      refine j_nmS (fun t18 et18 => ?_)
      refine j_at [(0, .ref (zad (wX D kc ad n) 175)), (2, .ref (zad (wX D kc ad n) u)), (3, .ref (zad (wX D kc ad n) out)), (4, .int (dI i7))] ⟨rfl, rfl, rfl, rfl, trivial⟩ ?_
      have eF : (fX2_climb_68 u) i7 z8 = t18 := by rw [hA16]; rw [et18]; (try rw [et17]); unfold fX2_climb_a2; first | done | (dsimp only; done) | rfl
      exact Eq.mp (congrArg (fun (z19 : zSt) => zJ κ (wX D kc ad n) 68 (zlof [(0, .ref (zad (wX D kc ad n) 175)), (2, .ref (zad (wX D kc ad n) u)), (3, .ref (zad (wX D kc ad n) out)), (4, .int (dI i7))]) [] z19) eF) (k0 ((by omega)))
  · intro hIi7
    revert hIi7
    refine z_nm (P := fun (z8 : zSt) => (fun i7 z8 => i7 ≤ 255) 0 z8 → zJ κ (wX D kc ad n) 68 (zlof [(0, .ref (zad (wX D kc ad n) 175)), (2, .ref (zad (wX D kc ad n) u)), (3, .ref (zad (wX D kc ad n) out)), (4, .int (dI 0))]) [] z8) (fun u20 eu20 => ?_)
    intro hIi7
    refine j_iload C dX2_climb_68 rfl ?_
    refine j_if_lt (tgt := 137) C dX2_climb_70 (by decide) (fun q21 => ?_) (fun q21 => False.elim (q21 dI_0))
    refine j_aload_n C dX2_climb_137 rfl rfl ?_
    refine j_getR C dX2_climb_138 (fx_RX2_44 D kc ad n) (show 11 ≤ 175 by decide) (show 175 < n by omega) ?_
    refine j_aload_n C dX2_climb_141 rfl rfl ?_
    refine j_getR C dX2_climb_142 (fx_RX2_20 D kc ad n) (show 11 ≤ 175 by decide) (show 175 < n by omega) ?_
    refine j_aload_n C dX2_climb_145 rfl rfl ?_
    refine j_getR C dX2_climb_146 (fx_RX2_20 D kc ad n) (show 11 ≤ 175 by decide) (show 175 < n by omega) ?_
    refine j_callV0 (T := TX1) (N := 8) C dX2_climb_149 (k_X1_invert l D kc ad n (by omega) 167 (⟨⟨rfl, rfl, by omega, by decide⟩, by decide⟩ : wa n 10 167).1 167 (⟨⟨rfl, rfl, by omega, by decide⟩, by decide⟩ : wa n 10 167) _ ) zy_X1_invert mw_33_8 rfl rfl (show 11 ≤ 62 by decide) (show 62 < n by omega) rfl rfl (Nat.le_of_ble_eq_true rfl) ⟨rfl, rfl, Nat.le_of_ble_eq_true rfl, Nat.le_of_ble_eq_true rfl⟩ ?_
    refine j_nmS (fun t22 et22 => ?_)
    refine j_aload_n C dX2_climb_152 rfl rfl ?_
    refine j_getR C dX2_climb_153 (fx_RX2_44 D kc ad n) (show 11 ≤ 175 by decide) (show 175 < n by omega) ?_
    refine j_aload_n C dX2_climb_156 rfl rfl ?_
    refine j_getR C dX2_climb_157 (fx_RX2_17 D kc ad n) (show 11 ≤ 175 by decide) (show 175 < n by omega) ?_
    refine j_aload_n C dX2_climb_160 rfl rfl ?_
    refine j_getR C dX2_climb_161 (fx_RX2_20 D kc ad n) (show 11 ≤ 175 by decide) (show 175 < n by omega) ?_
    refine j_aload_n C dX2_climb_164 rfl rfl ?_
    refine j_callV0 (T := TX1) (N := 8) C dX2_climb_165 (k_X1_multiply l D kc ad n (by omega) 166 (⟨⟨rfl, rfl, by omega, by decide⟩, by decide⟩ : wa n 10 166).1 167 (⟨⟨rfl, rfl, by omega, by decide⟩, by decide⟩ : wa n 10 167).1 out hout _ ) zy_X1_multiply mw_33_2 rfl rfl (show 11 ≤ 62 by decide) (show 62 < n by omega) rfl rfl (Nat.le_of_ble_eq_true rfl) ⟨rfl, rfl, Nat.le_of_ble_eq_true rfl, Nat.le_of_ble_eq_true rfl⟩ ?_
    refine j_nmS (fun t23 et23 => ?_)
    exact j_vret (st := []) C R0 dX2_climb_168 ⟨rfl, (by (try rw [et23]); (try rw [et22]); (try rw [eu20]); (try rw [et6]); (try rw [et5]); (try rw [et4]); (try rw [et3]); (try rw [et2]); (try rw [et1]); unfold fX2_climb; (try dsimp only); all_goals ((try simp only [zfst_mk, zsnd_mk]); all_goals rfl))⟩
theorem k2_fX2_climb_a1 (u : Nat) (z8 : zSt) : zk2 (fX2_climb_a1 u z8) = zk2 z8 := by
  unfold fX2_climb_a1
  (try dsimp only)
  all_goals (simp only [zW_2, zL_2, k2_fX2_step]; done)
theorem k2_fX2_climb_a2 (u : Nat) (z8 : zSt) : zk2 (fX2_climb_a2 u z8) = zk2 z8 := by
  unfold fX2_climb_a2
  (try dsimp only)
  all_goals (simp only [zW_2, zL_2, k2_fX2_step]; done)
theorem k2_fX2_climb_68 (u : Nat) (i7 : Nat) (z8 : zSt) : zk2 (fX2_climb_68 u i7 z8) = zk2 z8 := by
  unfold fX2_climb_68
  (try dsimp only)
  all_goals (refine ite_keep (fun r : zSt => zk2 r) _ _ ?_ ?_ <;> (simp only [zW_2, zL_2, k2_fX2_climb_a1, k2_fX2_climb_a2]; done))
theorem k2it_fX2_climb_68 (u : Nat) (nn : Nat) (xx : zSt) : zk2 (zdown (fX2_climb_68 u) nn xx) = zk2 xx := zdown_keep (fun x => zk2 x) _ (k2_fX2_climb_68 u) nn xx
theorem k2_fX2_climb (ks : Nat) (u : Nat) (out : Nat) (s0 : zSt) : zk2 (fX2_climb ks u out s0) = zk2 s0 := by
  unfold fX2_climb
  (try dsimp only)
  all_goals (simp only [zW_2, zL_2, k2_fX1_become, k2_fX1_invert, k2_fX1_move, k2_fX1_multiply, k2_fX2_climb_68, k2_fX8_clamp, k2_fX8_move, k2it_fX2_climb_68]; done)
theorem i2_fX2_climb (ks : Nat) (u : Nat) (out : Nat) (s0 : zSt) (kk9 : Nat) : (fX2_climb ks u out s0).2.2 kk9 = s0.2.2 kk9 := z2_I (k2_fX2_climb ks u out s0) kk9
theorem i3_fX2_climb (ks : Nat) (u : Nat) (out : Nat) (s0 : zSt) (kk9 : Nat) : zi (fX2_climb ks u out s0) kk9 = zi s0 kk9 := zi_of (k2_fX2_climb ks u out s0) kk9
