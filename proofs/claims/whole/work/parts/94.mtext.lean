theorem mat_of {x : Int32} {b : Nat} {s : zSt} (hb : b ≤ 400) (h : vX10_in x (nI 0) (nI b - nI 1) s = true) : x = nI x.toNatClampNeg ∧ x.toNatClampNeg < b := by
  unfold vX10_in at h
  by_cases h1 : x < nI 0
  · rw [if_pos h1] at h; cases h
  · rw [if_neg h1] at h
    unfold fX10_in_a4 at h
    by_cases h2 : nI b - nI 1 < x
    · rw [if_pos h2] at h; cases h
    · refine nI_self (by omega) h1 (Or.inl (Int32.lt_iff_toInt_lt.mpr ?_))
      have h3 := Int32.le_iff_toInt_le.mp (Int32.not_lt.mp h2)
      have h4 : (nI b - nI 1).toInt = (b : Int) - 1 := by
        rw [Int32.toInt_sub, nI_toInt (by omega), nI_toInt (by omega)]
        exact Int.bmod_eq_of_le (by omega) (by omega)
      rw [h4] at h3
      rw [nI_toInt (by omega)]
      omega
theorem mty_of {x : Int32} {s : zSt} (h : vX10_in x (nI 1) (nI 8) s = true) : x = nI x.toNatClampNeg ∧ x.toNatClampNeg < 9 := by
  unfold vX10_in at h
  by_cases h1 : x < nI 1
  · rw [if_pos h1] at h; cases h
  · rw [if_neg h1] at h
    unfold fX10_in_a4 at h
    by_cases h2 : nI 8 < x
    · rw [if_pos h2] at h; cases h
    · exact ty_of h1 (Int32.not_lt.mp h2)
def fX10_at_a1 (s0 : zSt) : Int32 :=
    (-1 : Int32)
def fX10_at_a2 (i : Int32) (s0 : zSt) : Int32 :=
    s0.2.1 1 i.toNatClampNeg
def vX10_at (i : Int32) (T0 : Nat) (s0 : zSt) : Int32 :=
    bif (vX10_in i (nI (0)) ((s0.2.2 0) - (nI (1))) s0) then
      fX10_at_a2 i s0
    else
      fX10_at_a1 s0
set_option maxHeartbeats 4000000 in
set_option maxRecDepth 100000 in
theorem k_X10_at (l : Launch) (D : va_G) (kc : Nat → ClassId) (ad : Nat → Nat) (i : Int32) (T0 : Nat) (s0 : zSt) (htx : s0.2.2 0 = nI T0) (hT0 : T0 ≤ 400) : zM l yX10_at cX10_at 2 (some .int) rX10_at (wM D kc ad) [.ref (zad (wM D kc ad) 17), .int i] s0 (zV1 (.int (vX10_at i T0 s0)) s0) := by
  refine z_of (own := RX10) (by decide +kernel) rfl (Nat.le_of_ble_eq_true rfl) ?_
  intro κ C R0
  refine j_at [(0, .ref (zad (wM D kc ad) 17)), (1, .int i)] ⟨rfl, rfl, trivial⟩ ?_
  refine j_iload_n C dX10_at_0 rfl rfl ?_
  refine j_iconst (v := nI 0) C dX10_at_1 (by decide +kernel) ?_
  refine j_aload_n C dX10_at_2 rfl rfl ?_
  refine j_getI C dX10_at_3 (fx_RX10_203 D kc ad) (Nat.zero_le _) (show 17 < 18 by decide) ?_
  refine j_iconst (v := nI 1) C dX10_at_6 (by decide +kernel) ?_
  refine j_isub C dX10_at_7 ?_
  refine j_callS1 C dX10_at_8 (k_X10_in l D kc ad (i) (nI (0)) ((s0.2.2 0) - (nI (1))) _ ) zy_X10_in mw_15_6 rfl rfl (Nat.le_of_ble_eq_true rfl) ⟨rfl, rfl, Nat.le_of_ble_eq_true rfl, Nat.le_of_ble_eq_true rfl⟩ ?_
  refine j_if_eqB (tgt := 23) C dX10_at_11 (by decide) (fun q1 => ?_) (fun q1 => ?_)
  · have hA2 : vX10_at i T0 s0 = fX10_at_a1 s0 := by have q1z := q1; (try dsimp only at q1z); unfold vX10_at; (try dsimp only); rw [q1z, cond_false]; (try rfl)
    refine j_iconst (v := -1) C dX10_at_23 (by decide +kernel) ?_
    exact j_iret (st := []) C R0 dX10_at_24 ⟨(by rw [hA2]; unfold fX10_at_a1; (try dsimp only); all_goals ((try simp only [zfst_mk, zsnd_mk]); all_goals rfl)), ((by rfl))⟩
  · have hA3 : vX10_at i T0 s0 = fX10_at_a2 i s0 := by have q1z := q1; (try dsimp only at q1z); unfold vX10_at; (try dsimp only); rw [q1z, cond_true]; (try rfl)
    have hc4 := mat_of (x := i) (b := T0) (by omega) (by rw [← htx]; assumption)
    have hc4b := hc4.2
    refine j_at [(0, .ref (zad (wM D kc ad) 17)), (1, .int (nI (i.toNatClampNeg)))] ⟨rfl, congrArg (fun q => some (Value.int q)) hc4.1, trivial⟩ ?_
    refine j_aload_n C dX10_at_14 rfl rfl ?_
    refine j_getR C dX10_at_15 (fx_RX10_13 D kc ad) (Nat.zero_le _) (show 17 < 18 by decide) ?_
    refine j_iload_n C dX10_at_18 rfl rfl ?_
    refine m_iald C dX10_at_19 (⟨rfl, rfl, by decide, by decide⟩ : mi 400 1) (by omega) ?_
    refine j_goto (tgt := 24) C dX10_at_20 (by decide) ?_
    exact j_iret (st := []) C R0 dX10_at_24 ⟨(by rw [hA3]; unfold fX10_at_a2; (try dsimp only); all_goals ((try simp only [zfst_mk, zsnd_mk]); all_goals rfl)), ((by rfl))⟩

def fX10_type_31 (x : Int64) (T0 : Nat) (j1 : Nat) (z6 : zSt) : zSt :=
    let t8 := zV z6 1 (T0 + j1) (nI (((zus x (8 * j1)).toInt32).toBitVec.toNat % 2 ^ 8))
    let t9 := zI t8 0 (nI ((T0 + j1) + 1))
    t9
def fX10_type_a1 (x : Int64) (k : Int32) (T0 : Nat) (s0 : zSt) : Int32 × zSt :=
    let u12 := ziter (fX10_type_31 x T0) 0 k.toNatClampNeg s0
    (u12.2.2 0, u12)
def fX10_type_a2 (s0 : zSt) : Int32 × zSt :=
    ((-104 : Int32), s0)
def fX10_type_a3 (x : Int64) (k : Int32) (T0 : Nat) (s0 : zSt) : Int32 × zSt :=
    if T0 + k.toNatClampNeg ≤ 400 then
      fX10_type_a1 x k T0 s0
    else
      fX10_type_a2 s0
def fX10_type_a4 (s0 : zSt) : Int32 × zSt :=
    ((-102 : Int32), s0)
def fX10_type (x : Int64) (k : Int32) (T0 : Nat) (s0 : zSt) : Int32 × zSt :=
    bif (vX10_in k (nI (1)) (nI (8)) s0) then
      fX10_type_a3 x k T0 s0
    else
      fX10_type_a4 s0
set_option maxHeartbeats 4000000 in
set_option maxRecDepth 100000 in
theorem k_X10_type (l : Launch) (D : va_G) (kc : Nat → ClassId) (ad : Nat → Nat) (x : Int64) (k : Int32) (T0 : Nat) (s0 : zSt) (htx : s0.2.2 0 = nI T0) (hT0 : T0 ≤ 400) : zM l yX10_type cX10_type 5 (some .int) rX10_type (wM D kc ad) [.ref (zad (wM D kc ad) 17), .long x, .int k] s0 (zV1 (.int (zfst (fX10_type x k T0 s0))) (zsnd (fX10_type x k T0 s0))) := by
  refine z_of (own := RX10) (by decide +kernel) rfl (Nat.le_of_ble_eq_true rfl) ?_
  intro κ C R0
  refine j_at [(0, .ref (zad (wM D kc ad) 17)), (1, .long x), (3, .int k)] ⟨rfl, rfl, rfl, trivial⟩ ?_
  refine j_iload_n C dX10_type_0 rfl rfl ?_
  refine j_iconst (v := nI 1) C dX10_type_1 (by decide +kernel) ?_
  refine j_bipush (v := nI 8) C dX10_type_2 (by decide +kernel) ?_
  refine j_callS1 C dX10_type_4 (k_X10_in l D kc ad (k) (nI (1)) (nI (8)) _ ) zy_X10_in mw_15_6 rfl rfl (Nat.le_of_ble_eq_true rfl) ⟨rfl, rfl, Nat.le_of_ble_eq_true rfl, Nat.le_of_ble_eq_true rfl⟩ ?_
  refine j_if_neB (tgt := 13) C dX10_type_7 (by decide) (fun q1 => ?_) (fun q1 => ?_)
  · have hA2 : fX10_type x k T0 s0 = fX10_type_a3 x k T0 s0 := by have q1z := q1; (try dsimp only at q1z); unfold fX10_type; (try dsimp only); rw [q1z, cond_true]; (try rfl)
    have hc3 := mty_of (x := k) (by assumption)
    have hc3b := hc3.2
    refine j_at [(0, .ref (zad (wM D kc ad) 17)), (1, .long x), (3, .int (nI (k.toNatClampNeg)))] ⟨rfl, rfl, congrArg (fun q => some (Value.int q)) hc3.1, trivial⟩ ?_
    refine j_aload_n C dX10_type_13 rfl rfl ?_
    refine j_getI C dX10_type_14 (fx_RX10_203 D kc ad) (Nat.zero_le _) (show 17 < 18 by decide) ?_
    refine j_top (v := .int (nI (T0))) (congrArg Value.int (htx)) ?_
    refine j_iload_n C dX10_type_17 rfl rfl ?_
    refine j_iaddN C dX10_type_18 ?_
    refine j_sipush (v := nI 400) C dX10_type_19 (by decide +kernel) ?_
    refine j_icmp_leN (tgt := 28) C dX10_type_22 (by decide) (by omega) (by omega) (fun q4 => ?_) (fun q4 => ?_)
    · have hA5 : fX10_type_a3 x k T0 s0 = fX10_type_a1 x k T0 s0 := by have q4z := q4; (try dsimp only at q4z); unfold fX10_type_a3; (try dsimp only); rw [if_pos q4z]; (try rfl)
      refine j_iconst (v := nI 0) C dX10_type_28 (by decide +kernel) ?_
      refine j_istore C dX10_type_29 (by decide) ?_
      refine j_at [(0, .ref (zad (wM D kc ad) 17)), (1, .long x), (3, .int (nI (k.toNatClampNeg))), (4, .int (nI (0)))] ⟨rfl, rfl, rfl, rfl, trivial⟩ ?_
      refine z_up (α := zSt) (fun (j1 : Nat) (z6 : zSt) => zJ κ (wM D kc ad) 31 (zlof [(0, .ref (zad (wM D kc ad) 17)), (1, .long x), (3, .int (nI (k.toNatClampNeg))), (4, .int (nI (j1)))]) [] z6) (fX10_type_31 x T0) (fun j1 z6 => z6.2.2 0 = nI (T0 + j1)) k.toNatClampNeg ?_ (fun i x _ h => rfl) k.toNatClampNeg 0 s0 (by omega) htx ?_
      · intro j1 z6 hj1 hIj1 k0
        refine j_iload C dX10_type_31 rfl ?_
        refine j_iload_n C dX10_type_33 rfl rfl ?_
        refine j_icmp_geN (tgt := 74) C dX10_type_34 (by decide) (by omega) (by omega) (fun q7 => False.elim (by omega)) (fun q7 => ?_)
        refine j_aload_n C dX10_type_37 rfl rfl ?_
        refine j_getR C dX10_type_38 (fx_RX10_13 D kc ad) (Nat.zero_le _) (show 17 < 18 by decide) ?_
        refine j_aload_n C dX10_type_41 rfl rfl ?_
        refine j_getI C dX10_type_42 (fx_RX10_203 D kc ad) (Nat.zero_le _) (show 17 < 18 by decide) ?_
        refine j_top (v := .int (nI (T0 + j1))) (congrArg Value.int (by  exact hIj1)) ?_
        refine j_lload_n C dX10_type_45 rfl rfl ?_
        refine j_bipush (v := nI 8) C dX10_type_46 (by decide +kernel) ?_
        refine j_iload C dX10_type_48 rfl ?_
        refine j_imulN C dX10_type_50 ?_
        refine j_lushr C dX10_type_51 (by omega) ?_
        refine j_l2i C dX10_type_52 ?_
        refine j_sipush (v := nI 255) C dX10_type_53 (by decide +kernel) ?_
        refine j_iand C dX10_type_56 ?_
        refine j_top (v := .int (nI (((zus x (8 * j1)).toInt32).toBitVec.toNat % 2 ^ 8))) (congrArg Value.int (pk_and _ 8 (by decide +kernel))) ?_
        refine m_iast C dX10_type_57 (⟨rfl, rfl, by decide, by decide⟩ : mi 400 1) (by omega) ?_
        refine j_nmS (fun t8 et8 => ?_)
        refine j_aload_n C dX10_type_58 rfl rfl ?_
        refine j_dup C dX10_type_59 rfl ?_
        refine j_getI C dX10_type_60 (fx_RX10_203 D kc ad) (Nat.zero_le _) (show 17 < 18 by decide) ?_
        refine j_top (v := .int (nI (T0 + j1))) (congrArg Value.int (by (try rw [et8]);  exact hIj1)) ?_
        refine j_iconst (v := nI 1) C dX10_type_63 (by decide +kernel) ?_
        refine j_iaddN C dX10_type_64 ?_
        refine j_putI C dX10_type_65 (pfx_RX10_203 D kc ad) (om_0 D kc ad) (Nat.zero_le _) (show 17 < 18 by decide) ?_
        refine j_nmS (fun t9 et9 => ?_)
        refine j_iincN (b := 1) C dX10_type_68 rfl (by decide +kernel) (by decide) ?_
        refine j_goto (tgt := 31) C dX10_type_71 (by decide) ?_
        refine j_nmS (fun t10 et10 => ?_)
        refine j_at [(0, .ref (zad (wM D kc ad) 17)), (1, .long x), (3, .int (nI (k.toNatClampNeg))), (4, .int (nI (j1 + 1)))] ⟨rfl, rfl, rfl, rfl, trivial⟩ ?_
        have eF : (fX10_type_31 x T0) j1 z6 = t10 := by rw [et10]; (try rw [et9]); (try rw [et8]); unfold fX10_type_31; first | done | (dsimp only; done) | rfl
        exact Eq.mp (congrArg (fun (z11 : zSt) => zJ κ (wM D kc ad) 31 (zlof [(0, .ref (zad (wM D kc ad) 17)), (1, .long x), (3, .int (nI (k.toNatClampNeg))), (4, .int (nI (j1 + 1)))]) [] z11) eF) (k0 rfl)
      · intro hIj1
        revert hIj1
        refine z_nm (P := fun (z6 : zSt) => (fun j1 z6 => z6.2.2 0 = nI (T0 + j1)) k.toNatClampNeg z6 → zJ κ (wM D kc ad) 31 (zlof [(0, .ref (zad (wM D kc ad) 17)), (1, .long x), (3, .int (nI (k.toNatClampNeg))), (4, .int (nI (k.toNatClampNeg)))]) [] z6) (fun u12 eu12 => ?_)
        intro hIj1
        refine j_iload C dX10_type_31 rfl ?_
        refine j_iload_n C dX10_type_33 rfl rfl ?_
        refine j_icmp_geN (tgt := 74) C dX10_type_34 (by decide) (by omega) (by omega) (fun q13 => ?_) (fun q13 => False.elim (by omega))
        refine j_aload_n C dX10_type_74 rfl rfl ?_
        refine j_getI C dX10_type_75 (fx_RX10_203 D kc ad) (Nat.zero_le _) (show 17 < 18 by decide) ?_
        exact j_iret (st := []) C R0 dX10_type_78 ⟨(by rw [hA2, hA5]; (try rw [eu12]); unfold fX10_type_a1; (try dsimp only); all_goals ((try simp only [zfst_mk, zsnd_mk]); all_goals rfl)), ((by rw [hA2, hA5]; (try rw [eu12]); unfold fX10_type_a1; (try dsimp only); all_goals ((try simp only [zfst_mk, zsnd_mk]); all_goals rfl)))⟩
    · have hA14 : fX10_type_a3 x k T0 s0 = fX10_type_a2 s0 := by have q4z : ¬ (T0 + k.toNatClampNeg ≤ 400) := (by omega); (try dsimp only at q4z); unfold fX10_type_a3; (try dsimp only); rw [if_neg q4z]; (try rfl)
      refine j_bipush (v := -104) C dX10_type_25 (by decide +kernel) ?_
      exact j_iret (st := []) C R0 dX10_type_27 ⟨(by rw [hA2, hA14]; unfold fX10_type_a2; (try dsimp only); all_goals ((try simp only [zfst_mk, zsnd_mk]); all_goals rfl)), ((by rw [hA2, hA14]; unfold fX10_type_a2; (try dsimp only); all_goals ((try simp only [zfst_mk, zsnd_mk]); all_goals rfl)))⟩
  · have hA15 : fX10_type x k T0 s0 = fX10_type_a4 s0 := by have q1z := q1; (try dsimp only at q1z); unfold fX10_type; (try dsimp only); rw [q1z, cond_false]; (try rfl)
    refine j_bipush (v := -102) C dX10_type_10 (by decide +kernel) ?_
    exact j_iret (st := []) C R0 dX10_type_12 ⟨(by rw [hA15]; unfold fX10_type_a4; (try dsimp only); all_goals ((try simp only [zfst_mk, zsnd_mk]); all_goals rfl)), ((by rw [hA15]; unfold fX10_type_a4; (try dsimp only); all_goals ((try simp only [zfst_mk, zsnd_mk]); all_goals rfl)))⟩
