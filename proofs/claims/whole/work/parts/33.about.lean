def blX (row : Nat) (s : zSt) : Nat → Nat
  | 0 => 0
  | i + 1 => if vX8_bit row 4 i s = 1 then i + 1 else blX row s i
theorem bit_lt (row k i : Nat) (s : zSt) : vX8_bit row k i s < 2 := Nat.mod_lt _ (by decide)
theorem blX_le (row : Nat) (s : zSt) : ∀ i, blX row s i ≤ i
  | 0 => Nat.le_refl _
  | i + 1 => by
    unfold blX
    split
    · exact Nat.le_refl _
    · exact Nat.le_succ_of_le (blX_le row s i)
def vX8_bitLength (row : Nat) (s0 : zSt) : Nat := blX row s0 256
set_option maxHeartbeats 4000000 in
set_option maxRecDepth 100000 in
theorem k_X8_bitLength (l : Launch) (D : va_G) (kc : Nat → ClassId) (ad : Nat → Nat) (n : Nat) (hn : 0 ≤ n) (row : Nat) (hrow : ra n 4 row) (s0 : zSt) : zM l yX8_bitLength cX8_bitLength 2 (some .int) rX8_bitLength (wX D kc ad n) [.ref (zad (wX D kc ad n) row)] s0 (zV1 (.int (nI (vX8_bitLength row s0))) s0) := by
  refine z_of (own := RX8) (by decide +kernel) rfl (Nat.le_of_ble_eq_true rfl) ?_
  intro κ C R0
  refine j_at [(0, .ref (zad (wX D kc ad n) row))] ⟨rfl, trivial⟩ ?_
  refine j_sipush (v := nI 255) C dX8_bitLength_0 (by decide +kernel) ?_
  refine j_istore_n C dX8_bitLength_3 rfl (by decide) ?_
  suffices H : ∀ i, i ≤ 256 → vX8_bitLength row s0 = blX row s0 i → zJ κ (wX D kc ad n) 4 (zlof [(0, .ref (zad (wX D kc ad n) row)), (1, .int (dI i))]) [] s0 from
    j_at [(0, .ref (zad (wX D kc ad n) row)), (1, .int (dI 256))] ⟨rfl, congrArg (fun q => some (Value.int q)) (dI_succ _).symm, trivial⟩ (H 256 (Nat.le_refl _) rfl)
  intro i
  induction i with
  | zero =>
    intro _ e
    refine j_iload_n C dX8_bitLength_4 rfl rfl ?_
    refine j_if_lt (tgt := 27) C dX8_bitLength_5 (by decide) (fun q => ?_) (fun q => False.elim (q dI_0))
    refine j_iconst (v := nI 0) C dX8_bitLength_27 (by decide +kernel) ?_
    exact j_iret (st := []) C R0 dX8_bitLength_28 ⟨(by rw [e]; rfl), rfl⟩
  | succ i ih =>
    intro hi e
    refine j_at [(0, .ref (zad (wX D kc ad n) row)), (1, .int (nI i))] ⟨rfl, congrArg (fun q => some (Value.int q)) (dI_succ _), trivial⟩ ?_
    refine j_iload_n C dX8_bitLength_4 rfl rfl ?_
    refine j_if_lt (tgt := 27) C dX8_bitLength_5 (by decide) (fun q => False.elim (nI_pos (by omega) q)) (fun q => ?_)
    refine j_aload_n C dX8_bitLength_8 rfl rfl ?_
    refine j_iload_n C dX8_bitLength_9 rfl rfl ?_
    refine j_callS1 C dX8_bitLength_10 (k_X8_bit l D kc ad n (by omega) row 4 hrow i (by omega) _ (by omega)) zy_X8_bit mw_23_16 rfl rfl (Nat.le_of_ble_eq_true rfl) ⟨rfl, rfl, Nat.le_of_ble_eq_true rfl, Nat.le_of_ble_eq_true rfl⟩ ?_
    have hb := bit_lt row 4 i s0
    refine j_iconst (v := nI 1) C dX8_bitLength_13 (by decide +kernel) ?_
    refine j_icmp_neN (tgt := 21) C dX8_bitLength_14 (by decide) (by omega) (by omega) (fun q1 => ?_) (fun q1 => ?_)
    · refine j_iincD C dX8_bitLength_21 rfl (by decide) ?_
      refine j_goto (tgt := 4) C dX8_bitLength_24 (by decide) ?_
      refine j_at [(0, .ref (zad (wX D kc ad n) row)), (1, .int (dI i))] ⟨rfl, rfl, trivial⟩ ?_
      exact ih (by omega) (e.trans (if_neg q1))
    · refine j_iload_n C dX8_bitLength_17 rfl rfl ?_
      refine j_iconst (v := nI 1) C dX8_bitLength_18 (by decide +kernel) ?_
      refine j_iaddN C dX8_bitLength_19 ?_
      exact j_iret (st := []) C R0 dX8_bitLength_20 ⟨(by rw [e.trans (if_pos q1)]), rfl⟩
def blM (p : Nat) (s : zSt) : Nat → Nat
  | 0 => 0
  | i + 1 => if vX10_bit p i s = 0 then blM p s i else i + 1
set_option maxHeartbeats 4000000 in
set_option maxRecDepth 100000 in
theorem lp_about {κ : zK} {l : Launch} {D : va_G} {kc : Nat → ClassId} {ad : Nat → Nat} (C : zC κ l (wM D kc ad) cX10_about RX10 rX10_about 4) (s : zSt) (K : zJ κ (wM D kc ad) 146 (zlof [(3, .int (nI (blM 4 s 256)))]) [] s) : zJ κ (wM D kc ad) 125 (zlof [(0, .ref (zad (wM D kc ad) 17)), (3, .int (nI 256))]) [] s := by
  suffices H : ∀ i, i ≤ 256 → blM 4 s 256 = blM 4 s i → zJ κ (wM D kc ad) 125 (zlof [(0, .ref (zad (wM D kc ad) 17)), (3, .int (nI i))]) [] s from H 256 (Nat.le_refl _) rfl
  intro i
  induction i with
  | zero =>
    intro _ e
    refine j_iload_n C dX10_about_125 rfl rfl ?_
    refine j_if_le (tgt := 146) C dX10_about_126 (by decide) (fun q => ?_) (fun q => False.elim (q (by decide +kernel)))
    refine j_at [(3, .int (nI 0))] ⟨rfl, trivial⟩ ?_
    rw [e] at K
    exact K
  | succ i ih =>
    intro hi e
    refine j_iload_n C dX10_about_125 rfl rfl ?_
    refine j_if_le (tgt := 146) C dX10_about_126 (by decide) (fun q => False.elim ?_) (fun q => ?_)
    · have q2 : nI (i + 1) ≤ nI 0 := q
      have := (nI_leI (by omega) (by omega)).mp q2
      omega
    refine j_aload_n C dX10_about_129 rfl rfl ?_
    refine j_iconst (v := nI 4) C dX10_about_130 (by decide +kernel) ?_
    refine j_iload_n C dX10_about_131 rfl rfl ?_
    refine j_iconst (v := nI 1) C dX10_about_132 (by decide +kernel) ?_
    refine j_isubN C dX10_about_133 (by omega) ?_
    refine j_callV1 (T := TX10) (N := 23) C dX10_about_134 (k_X10_bit l D kc ad 4 (by omega) (i + 1 - 1) (by omega) _ ) zy_X10_bit mw_11_13 rfl rfl (Nat.zero_le _) (show 17 < 18 by decide) rfl rfl (Nat.le_of_ble_eq_true rfl) ⟨rfl, rfl, Nat.le_of_ble_eq_true rfl, Nat.le_of_ble_eq_true rfl⟩ ?_
    have hb := lt_mbit 4 i s
    have h2 : nI (vX10_bit 4 i s) = 0 ↔ vX10_bit 4 i s = 0 := ⟨fun q => (nI_eq (a := vX10_bit 4 i s) (b := 0) (by omega) (by omega)).mp q, fun q => by rw [q]; rfl⟩
    refine j_if_ne (tgt := 146) C dX10_about_137 (by decide) (fun q1 => ?_) (fun q1 => ?_)
    · refine j_at [(3, .int (nI (i + 1)))] ⟨rfl, trivial⟩ ?_
      rw [e.trans (if_neg (fun z => q1 (h2.mpr z)))] at K
      exact K
    · refine j_iincD C dX10_about_140 rfl (by decide) ?_
      refine j_goto (tgt := 125) C dX10_about_143 (by decide) ?_
      refine j_at [(0, .ref (zad (wM D kc ad) 17)), (3, .int (nI i))] ⟨rfl, congrArg (fun q => some (Value.int q)) (dI_succ _), trivial⟩ ?_
      exact ih (by omega) (e.trans (if_pos (h2.mp q1)))

def fX9_about_a1 (t7 : zSt) : Int32 × zSt :=
    (vX9_told false t7, t7)
def fX9_about_a2 (t7 : zSt) : Int32 × zSt :=
    (vX9_told true t7, t7)
def fX9_about_a3 (v : Int32) (t7 : zSt) : Int32 × zSt :=
    if 0 ≤ vX8_order (11 + v.toNatClampNeg) 0 t7 then
      fX9_about_a1 t7
    else
      fX9_about_a2 t7
def fX9_about_a4 (v : Int32) (t7 : zSt) : Int32 × zSt :=
    (vX9_told (vX4_isBelowOrder (11 + v.toNatClampNeg) t7) t7, t7)
def fX9_about_a5 (t7 : zSt) : Int32 × zSt :=
    let t19 := zsnd (fX1_isZero 202 t7)
    (vX9_told (zfst (fX1_isZero 202 t7)) t19, t19)
def fX9_about_a6 (t7 : zSt) : Int32 × zSt :=
    let t23 := zsnd (fX1_isOdd 202 t7)
    (vX9_told (zfst (fX1_isOdd 202 t7)) t23, t23)
def fX9_about_a7 (v : Int32) (t7 : zSt) : Int32 × zSt :=
    (nI (vX8_bitLength (11 + v.toNatClampNeg) t7), t7)
def fX9_about_a8 (v : Int32) (what : Int32) (t7 : zSt) : Int32 × zSt :=
    if nI (what.toNatClampNeg) = nI 3 then
      fX9_about_a6 t7
    else
      fX9_about_a7 v t7
def fX9_about_a9 (v : Int32) (what : Int32) (t7 : zSt) : Int32 × zSt :=
    if nI (what.toNatClampNeg) = nI 2 then
      fX9_about_a5 t7
    else
      fX9_about_a8 v what t7
def fX9_about_a10 (v : Int32) (what : Int32) (t7 : zSt) : Int32 × zSt :=
    if nI (what.toNatClampNeg) = nI 1 then
      fX9_about_a4 v t7
    else
      fX9_about_a9 v what t7
def fX9_about_a11 (v : Int32) (what : Int32) (s0 : zSt) : Int32 × zSt :=
    let t7 := fX1_load (11 + v.toNatClampNeg) 202 s0
    if nI (what.toNatClampNeg) = nI 0 then
      fX9_about_a3 v t7
    else
      fX9_about_a10 v what t7
def fX9_about_a12 (s0 : zSt) : Int32 × zSt :=
    ((-102 : Int32), s0)
def fX9_about_a13 (v : Int32) (what : Int32) (s0 : zSt) : Int32 × zSt :=
    bif (vX9_isWithin what (nI (5)) s0) then
      fX9_about_a11 v what s0
    else
      fX9_about_a12 s0
def fX9_about_a14 (s0 : zSt) : Int32 × zSt :=
    ((-101 : Int32), s0)
def fX9_about (v : Int32) (what : Int32) (s0 : zSt) : Int32 × zSt :=
    bif (vX9_isSlot v s0) then
      fX9_about_a13 v what s0
    else
      fX9_about_a14 s0
set_option maxHeartbeats 4000000 in
set_option maxRecDepth 100000 in
theorem k_X9_about (l : Launch) (D : va_G) (kc : Nat → ClassId) (ad : Nat → Nat) (n : Nat) (hn : 216 ≤ n) (v : Int32) (what : Int32) (s0 : zSt) : zM l yX9_about cX9_about 4 (some .int) rX9_about (wX D kc ad n) [.ref (zad (wX D kc ad n) 215), .int v, .int what] s0 (zV1 (.int (zfst (fX9_about v what s0))) (zsnd (fX9_about v what s0))) := by
  refine z_of (own := RX9) (by decide +kernel) rfl (Nat.le_of_ble_eq_true rfl) ?_
  intro κ C R0
  refine j_at [(0, .ref (zad (wX D kc ad n) 215)), (1, .int v), (2, .int what)] ⟨rfl, rfl, rfl, trivial⟩ ?_
  refine j_iload_n C dX9_about_0 rfl rfl ?_
  refine j_callS1 C dX9_about_1 (k_X9_isSlot l D kc ad n (by omega) (v) _ ) zy_X9_isSlot mw_14_17 rfl rfl (Nat.le_of_ble_eq_true rfl) ⟨rfl, rfl, Nat.le_of_ble_eq_true rfl, Nat.le_of_ble_eq_true rfl⟩ ?_
  refine j_if_neB (tgt := 10) C dX9_about_4 (by decide) (fun q1 => ?_) (fun q1 => ?_)
  · have hA2 : fX9_about v what s0 = fX9_about_a13 v what s0 := by have q1z := q1; (try dsimp only at q1z); unfold fX9_about; (try dsimp only); rw [q1z, cond_true]; (try rfl)
    have hc3 := sl_of (x := v) (by assumption)
    have hc3b := hc3.2
    refine j_at [(0, .ref (zad (wX D kc ad n) 215)), (1, .int (nI (v.toNatClampNeg))), (2, .int what)] ⟨rfl, congrArg (fun q => some (Value.int q)) hc3.1, rfl, trivial⟩ ?_
    refine j_iload_n C dX9_about_10 rfl rfl ?_
    refine j_iconst (v := nI 5) C dX9_about_11 (by decide +kernel) ?_
    refine j_callS1 C dX9_about_12 (k_X9_isWithin l D kc ad n (by omega) (what) (nI (5)) _ ) zy_X9_isWithin mw_14_20 rfl rfl (Nat.le_of_ble_eq_true rfl) ⟨rfl, rfl, Nat.le_of_ble_eq_true rfl, Nat.le_of_ble_eq_true rfl⟩ ?_
    refine j_if_neB (tgt := 21) C dX9_about_15 (by decide) (fun q4 => ?_) (fun q4 => ?_)
    · have hA5 : fX9_about_a13 v what s0 = fX9_about_a11 v what s0 := by have q4z := q4; (try dsimp only at q4z); unfold fX9_about_a13; (try dsimp only); rw [q4z, cond_true]; (try rfl)
      have hc6 := wi_of (x := what) (b := 5) (by decide) (by assumption)
      have hc6b := hc6.2
      refine j_at [(0, .ref (zad (wX D kc ad n) 215)), (1, .int (nI (v.toNatClampNeg))), (2, .int (nI (what.toNatClampNeg)))] ⟨rfl, rfl, congrArg (fun q => some (Value.int q)) hc6.1, trivial⟩ ?_
      refine j_aload_n C dX9_about_21 rfl rfl ?_
      refine j_getR C dX9_about_22 (fx_RX9_13 D kc ad n) (show 11 ≤ 215 by decide) (show 215 < n by omega) ?_
      refine j_iload_n C dX9_about_25 rfl rfl ?_
      refine x_aald35 C dX9_about_26 (by omega) (by omega) ?_
      refine j_astore_n C dX9_about_27 rfl (by decide) ?_
      refine j_aload_n C dX9_about_28 rfl rfl ?_
      refine j_getR C dX9_about_29 (fx_RX9_39 D kc ad n) (show 11 ≤ 215 by decide) (show 215 < n by omega) ?_
      refine j_aload_n C dX9_about_32 rfl rfl ?_
      refine j_aload_n C dX9_about_33 rfl rfl ?_
      refine j_getR C dX9_about_34 (fx_RX9_82 D kc ad n) (show 11 ≤ 215 by decide) (show 215 < n by omega) ?_
      refine j_callV0 (T := TX1) (N := 8) C dX9_about_37 (k_X1_load l D kc ad n (by omega) (11 + v.toNatClampNeg) (sl_wa (n := n) v.toNatClampNeg (by omega) (by omega)).1 202 (⟨⟨rfl, rfl, by omega, by decide⟩, by decide⟩ : wa n 10 202) _ ) zy_X1_load mw_18_18 rfl rfl (show 11 ≤ 62 by decide) (show 62 < n by omega) rfl rfl (Nat.le_of_ble_eq_true rfl) ⟨rfl, rfl, Nat.le_of_ble_eq_true rfl, Nat.le_of_ble_eq_true rfl⟩ ?_
      refine j_nmS (fun t7 et7 => ?_)
      refine j_iload_n C dX9_about_40 rfl rfl ?_
      by_cases q8 : nI (what.toNatClampNeg) = nI 0
      · have hA9 : fX9_about_a11 v what s0 = fX9_about_a3 v t7 := by (try rw [et7]); have q8z := q8; (try rw [et7] at q8z); (try dsimp only at q8z); unfold fX9_about_a11; (try dsimp only); rw [if_pos q8z]; (try rfl)
        refine j_top (v := .int (nI 0)) (congrArg Value.int q8) ?_
        refine j_tabIn (c := 0) (off := 31) (tgt := 72) C dX9_about_41 (by decide +kernel) (by decide) ?_
        refine j_aload_n C dX9_about_72 rfl rfl ?_
        refine j_gets (id := 0) C dX9_about_73 (show 0 < 11 by decide) rfl mw_22_23 ?_
        refine j_callS1 C dX9_about_76 (k_X8_order l D kc ad n (by omega) (11 + v.toNatClampNeg) (sl_wa (n := n) v.toNatClampNeg (by omega) (by omega)).1 0 (⟨rfl, rfl, by omega, by decide⟩ : ra n 4 0) _ ) zy_X8_order mw_23_0 rfl rfl (Nat.le_of_ble_eq_true rfl) ⟨rfl, rfl, Nat.le_of_ble_eq_true rfl, Nat.le_of_ble_eq_true rfl⟩ ?_
        refine j_if_ge (tgt := 86) C dX9_about_79 (by decide) (fun q10 => ?_) (fun q10 => ?_)
        · have hA11 : fX9_about_a3 v t7 = fX9_about_a1 t7 := by have q10z := q10; (try dsimp only at q10z); unfold fX9_about_a3; (try dsimp only); rw [if_pos q10z]; (try rfl)
          refine j_iconst (v := nI 0) C dX9_about_86 (by decide +kernel) ?_
          refine j_top (v := .int (bI false)) (by decide +kernel) ?_
          refine j_callS1 C dX9_about_87 (k_X9_told l D kc ad n (by omega) false _ ) zy_X9_told mw_23_4 rfl rfl (Nat.le_of_ble_eq_true rfl) ⟨rfl, rfl, Nat.le_of_ble_eq_true rfl, Nat.le_of_ble_eq_true rfl⟩ ?_
          exact j_iret (st := []) C R0 dX9_about_90 ⟨(by rw [hA2, hA5, hA9, hA11]; unfold fX9_about_a1; (try dsimp only); all_goals ((try simp only [zfst_mk, zsnd_mk]); all_goals rfl)), ((by rw [hA2, hA5, hA9, hA11]; unfold fX9_about_a1; (try dsimp only); all_goals ((try simp only [zfst_mk, zsnd_mk]); all_goals rfl)))⟩
        · have hA12 : fX9_about_a3 v t7 = fX9_about_a2 t7 := by have q10z := q10; (try dsimp only at q10z); unfold fX9_about_a3; (try dsimp only); rw [if_neg q10z]; (try rfl)
          refine j_iconst (v := nI 1) C dX9_about_82 (by decide +kernel) ?_
          refine j_goto (tgt := 87) C dX9_about_83 (by decide) ?_
          refine j_top (v := .int (bI true)) (by decide +kernel) ?_
          refine j_callS1 C dX9_about_87 (k_X9_told l D kc ad n (by omega) true _ ) zy_X9_told mw_23_4 rfl rfl (Nat.le_of_ble_eq_true rfl) ⟨rfl, rfl, Nat.le_of_ble_eq_true rfl, Nat.le_of_ble_eq_true rfl⟩ ?_
          exact j_iret (st := []) C R0 dX9_about_90 ⟨(by rw [hA2, hA5, hA9, hA12]; unfold fX9_about_a2; (try dsimp only); all_goals ((try simp only [zfst_mk, zsnd_mk]); all_goals rfl)), ((by rw [hA2, hA5, hA9, hA12]; unfold fX9_about_a2; (try dsimp only); all_goals ((try simp only [zfst_mk, zsnd_mk]); all_goals rfl)))⟩
      · have hA13 : fX9_about_a11 v what s0 = fX9_about_a10 v what t7 := by (try rw [et7]); have q8z := q8; (try rw [et7] at q8z); (try dsimp only at q8z); unfold fX9_about_a11; (try dsimp only); rw [if_neg q8z]; (try rfl)
        by_cases q14 : nI (what.toNatClampNeg) = nI 1
        · have hA15 : fX9_about_a10 v what t7 = fX9_about_a4 v t7 := by have q14z := q14; (try dsimp only at q14z); unfold fX9_about_a10; (try dsimp only); rw [if_pos q14z]; (try rfl)
          refine j_top (v := .int (nI 1)) (congrArg Value.int q14) ?_
          refine j_tabIn (c := 1) (off := 50) (tgt := 91) C dX9_about_41 (by decide +kernel) (by decide) ?_
          refine j_aload_n C dX9_about_91 rfl rfl ?_
          refine j_callS1 C dX9_about_92 (k_X4_isBelowOrder l D kc ad n (by omega) (11 + v.toNatClampNeg) (sl_wa (n := n) v.toNatClampNeg (by omega) (by omega)).1 _ ) zy_X4_isBelowOrder mw_23_7 rfl rfl (Nat.le_of_ble_eq_true rfl) ⟨rfl, rfl, Nat.le_of_ble_eq_true rfl, Nat.le_of_ble_eq_true rfl⟩ ?_
          refine j_callS1 C dX9_about_95 (k_X9_told l D kc ad n (by omega) (vX4_isBelowOrder (11 + v.toNatClampNeg) t7) _ ) zy_X9_told mw_23_4 rfl rfl (Nat.le_of_ble_eq_true rfl) ⟨rfl, rfl, Nat.le_of_ble_eq_true rfl, Nat.le_of_ble_eq_true rfl⟩ ?_
          exact j_iret (st := []) C R0 dX9_about_98 ⟨(by rw [hA2, hA5, hA13, hA15]; unfold fX9_about_a4; (try dsimp only); all_goals ((try simp only [zfst_mk, zsnd_mk]); all_goals rfl)), ((by rw [hA2, hA5, hA13, hA15]; unfold fX9_about_a4; (try dsimp only); all_goals ((try simp only [zfst_mk, zsnd_mk]); all_goals rfl)))⟩
        · have hA16 : fX9_about_a10 v what t7 = fX9_about_a9 v what t7 := by have q14z := q14; (try dsimp only at q14z); unfold fX9_about_a10; (try dsimp only); rw [if_neg q14z]; (try rfl)
          by_cases q17 : nI (what.toNatClampNeg) = nI 2
          · have hA18 : fX9_about_a9 v what t7 = fX9_about_a5 t7 := by have q17z := q17; (try dsimp only at q17z); unfold fX9_about_a9; (try dsimp only); rw [if_pos q17z]; (try rfl)
            refine j_top (v := .int (nI 2)) (congrArg Value.int q17) ?_
            refine j_tabIn (c := 2) (off := 58) (tgt := 99) C dX9_about_41 (by decide +kernel) (by decide) ?_
            refine j_aload_n C dX9_about_99 rfl rfl ?_
            refine j_getR C dX9_about_100 (fx_RX9_39 D kc ad n) (show 11 ≤ 215 by decide) (show 215 < n by omega) ?_
            refine j_aload_n C dX9_about_103 rfl rfl ?_
            refine j_getR C dX9_about_104 (fx_RX9_82 D kc ad n) (show 11 ≤ 215 by decide) (show 215 < n by omega) ?_
            refine j_callV1 (T := TX1) (N := 8) C dX9_about_107 (k_X1_isZero l D kc ad n (by omega) 202 (⟨⟨rfl, rfl, by omega, by decide⟩, by decide⟩ : wa n 10 202).1 _ ) zy_X1_isZero mw_18_19 rfl rfl (show 11 ≤ 62 by decide) (show 62 < n by omega) rfl rfl (Nat.le_of_ble_eq_true rfl) ⟨rfl, rfl, Nat.le_of_ble_eq_true rfl, Nat.le_of_ble_eq_true rfl⟩ ?_
            refine j_nmS (fun t19 et19 => ?_)
            refine j_callS1 C dX9_about_110 (k_X9_told l D kc ad n (by omega) (zfst (fX1_isZero 202 t7)) _ ) zy_X9_told mw_23_4 rfl rfl (Nat.le_of_ble_eq_true rfl) ⟨rfl, rfl, Nat.le_of_ble_eq_true rfl, Nat.le_of_ble_eq_true rfl⟩ ?_
            exact j_iret (st := []) C R0 dX9_about_113 ⟨(by rw [hA2, hA5, hA13, hA16, hA18]; (try rw [et19]); unfold fX9_about_a5; (try dsimp only); all_goals ((try simp only [zfst_mk, zsnd_mk]); all_goals rfl)), ((by rw [hA2, hA5, hA13, hA16, hA18]; (try rw [et19]); unfold fX9_about_a5; (try dsimp only); all_goals ((try simp only [zfst_mk, zsnd_mk]); all_goals rfl)))⟩
          · have hA20 : fX9_about_a9 v what t7 = fX9_about_a8 v what t7 := by have q17z := q17; (try dsimp only at q17z); unfold fX9_about_a9; (try dsimp only); rw [if_neg q17z]; (try rfl)
            by_cases q21 : nI (what.toNatClampNeg) = nI 3
            · have hA22 : fX9_about_a8 v what t7 = fX9_about_a6 t7 := by have q21z := q21; (try dsimp only at q21z); unfold fX9_about_a8; (try dsimp only); rw [if_pos q21z]; (try rfl)
              refine j_top (v := .int (nI 3)) (congrArg Value.int q21) ?_
              refine j_tabIn (c := 3) (off := 73) (tgt := 114) C dX9_about_41 (by decide +kernel) (by decide) ?_
              refine j_aload_n C dX9_about_114 rfl rfl ?_
              refine j_getR C dX9_about_115 (fx_RX9_39 D kc ad n) (show 11 ≤ 215 by decide) (show 215 < n by omega) ?_
              refine j_aload_n C dX9_about_118 rfl rfl ?_
              refine j_getR C dX9_about_119 (fx_RX9_82 D kc ad n) (show 11 ≤ 215 by decide) (show 215 < n by omega) ?_
              refine j_callV1 (T := TX1) (N := 8) C dX9_about_122 (k_X1_isOdd l D kc ad n (by omega) 202 (⟨⟨rfl, rfl, by omega, by decide⟩, by decide⟩ : wa n 10 202).1 _ ) zy_X1_isOdd mw_23_12 rfl rfl (show 11 ≤ 62 by decide) (show 62 < n by omega) rfl rfl (Nat.le_of_ble_eq_true rfl) ⟨rfl, rfl, Nat.le_of_ble_eq_true rfl, Nat.le_of_ble_eq_true rfl⟩ ?_
              refine j_nmS (fun t23 et23 => ?_)
              refine j_callS1 C dX9_about_125 (k_X9_told l D kc ad n (by omega) (zfst (fX1_isOdd 202 t7)) _ ) zy_X9_told mw_23_4 rfl rfl (Nat.le_of_ble_eq_true rfl) ⟨rfl, rfl, Nat.le_of_ble_eq_true rfl, Nat.le_of_ble_eq_true rfl⟩ ?_
              exact j_iret (st := []) C R0 dX9_about_128 ⟨(by rw [hA2, hA5, hA13, hA16, hA20, hA22]; (try rw [et23]); unfold fX9_about_a6; (try dsimp only); all_goals ((try simp only [zfst_mk, zsnd_mk]); all_goals rfl)), ((by rw [hA2, hA5, hA13, hA16, hA20, hA22]; (try rw [et23]); unfold fX9_about_a6; (try dsimp only); all_goals ((try simp only [zfst_mk, zsnd_mk]); all_goals rfl)))⟩
            · have hA24 : fX9_about_a8 v what t7 = fX9_about_a7 v t7 := by have q21z := q21; (try dsimp only at q21z); unfold fX9_about_a8; (try dsimp only); rw [if_neg q21z]; (try rfl)
              refine j_tabOut (dflt := 88) (tgt := 129) C dX9_about_41 (tab_out 4 (by decide) (fun c hc => by rcases (show c = 0 ∨ c = 1 ∨ c = 2 ∨ c = 3 by omega) with rfl | rfl | rfl | rfl <;> assumption)) (by decide) ?_
              refine j_aload_n C dX9_about_129 rfl rfl ?_
              refine j_callS1 C dX9_about_130 (k_X8_bitLength l D kc ad n (by omega) (11 + v.toNatClampNeg) (sl_wa (n := n) v.toNatClampNeg (by omega) (by omega)).1 _ ) zy_X8_bitLength mw_23_13 rfl rfl (Nat.le_of_ble_eq_true rfl) ⟨rfl, rfl, Nat.le_of_ble_eq_true rfl, Nat.le_of_ble_eq_true rfl⟩ ?_
              exact j_iret (st := []) C R0 dX9_about_133 ⟨(by rw [hA2, hA5, hA13, hA16, hA20, hA24]; unfold fX9_about_a7; (try dsimp only); all_goals ((try simp only [zfst_mk, zsnd_mk]); all_goals rfl)), ((by rw [hA2, hA5, hA13, hA16, hA20, hA24]; unfold fX9_about_a7; (try dsimp only); all_goals ((try simp only [zfst_mk, zsnd_mk]); all_goals rfl)))⟩
    · have hA25 : fX9_about_a13 v what s0 = fX9_about_a12 s0 := by have q4z := q4; (try dsimp only at q4z); unfold fX9_about_a13; (try dsimp only); rw [q4z, cond_false]; (try rfl)
      refine j_bipush (v := -102) C dX9_about_18 (by decide +kernel) ?_
      exact j_iret (st := []) C R0 dX9_about_20 ⟨(by rw [hA2, hA25]; unfold fX9_about_a12; (try dsimp only); all_goals ((try simp only [zfst_mk, zsnd_mk]); all_goals rfl)), ((by rw [hA2, hA25]; unfold fX9_about_a12; (try dsimp only); all_goals ((try simp only [zfst_mk, zsnd_mk]); all_goals rfl)))⟩
  · have hA26 : fX9_about v what s0 = fX9_about_a14 s0 := by have q1z := q1; (try dsimp only at q1z); unfold fX9_about; (try dsimp only); rw [q1z, cond_false]; (try rfl)
    refine j_bipush (v := -101) C dX9_about_7 (by decide +kernel) ?_
    exact j_iret (st := []) C R0 dX9_about_9 ⟨(by rw [hA26]; unfold fX9_about_a14; (try dsimp only); all_goals ((try simp only [zfst_mk, zsnd_mk]); all_goals rfl)), ((by rw [hA26]; unfold fX9_about_a14; (try dsimp only); all_goals ((try simp only [zfst_mk, zsnd_mk]); all_goals rfl)))⟩
theorem k2q_fX9_about_a1 (t7 : zSt) : zk2s (fX9_about_a1 t7) = zk2 t7 := by
  unfold fX9_about_a1
  (try dsimp only)
  all_goals (simp only [zW_2, zL_2, zk2s_mk]; done)
theorem k2_fX9_about_a1 (t7 : zSt) : zk2 (zsnd (fX9_about_a1 t7)) = zk2 t7 := k2q_fX9_about_a1 t7
theorem k2q_fX9_about_a2 (t7 : zSt) : zk2s (fX9_about_a2 t7) = zk2 t7 := by
  unfold fX9_about_a2
  (try dsimp only)
  all_goals (simp only [zW_2, zL_2, zk2s_mk]; done)
theorem k2_fX9_about_a2 (t7 : zSt) : zk2 (zsnd (fX9_about_a2 t7)) = zk2 t7 := k2q_fX9_about_a2 t7
theorem k2q_fX9_about_a3 (v : Int32) (t7 : zSt) : zk2s (fX9_about_a3 v t7) = zk2 t7 := by
  unfold fX9_about_a3
  (try dsimp only)
  all_goals (refine ite_keep (fun r : Int32 × zSt => zk2s r) _ _ ?_ ?_ <;> (simp only [zW_2, zL_2, k2_fX9_about_a1, k2_fX9_about_a2, k2q_fX9_about_a1, k2q_fX9_about_a2, zk2s_mk]; done))
theorem k2_fX9_about_a3 (v : Int32) (t7 : zSt) : zk2 (zsnd (fX9_about_a3 v t7)) = zk2 t7 := k2q_fX9_about_a3 v t7
theorem k2q_fX9_about_a4 (v : Int32) (t7 : zSt) : zk2s (fX9_about_a4 v t7) = zk2 t7 := by
  unfold fX9_about_a4
  (try dsimp only)
  all_goals (simp only [zW_2, zL_2, zk2s_mk]; done)
theorem k2_fX9_about_a4 (v : Int32) (t7 : zSt) : zk2 (zsnd (fX9_about_a4 v t7)) = zk2 t7 := k2q_fX9_about_a4 v t7
theorem k2q_fX9_about_a5 (t7 : zSt) : zk2s (fX9_about_a5 t7) = zk2 t7 := by
  unfold fX9_about_a5
  (try dsimp only)
  all_goals (simp only [zW_2, zL_2, k2_fX1_isZero, k2q_fX1_isZero, zk2s_mk]; done)
theorem k2_fX9_about_a5 (t7 : zSt) : zk2 (zsnd (fX9_about_a5 t7)) = zk2 t7 := k2q_fX9_about_a5 t7
theorem k2q_fX9_about_a6 (t7 : zSt) : zk2s (fX9_about_a6 t7) = zk2 t7 := by
  unfold fX9_about_a6
  (try dsimp only)
  all_goals (simp only [zW_2, zL_2, k2_fX1_isOdd, k2q_fX1_isOdd, zk2s_mk]; done)
theorem k2_fX9_about_a6 (t7 : zSt) : zk2 (zsnd (fX9_about_a6 t7)) = zk2 t7 := k2q_fX9_about_a6 t7
theorem k2q_fX9_about_a7 (v : Int32) (t7 : zSt) : zk2s (fX9_about_a7 v t7) = zk2 t7 := by
  unfold fX9_about_a7
  (try dsimp only)
  all_goals (simp only [zW_2, zL_2, zk2s_mk]; done)
theorem k2_fX9_about_a7 (v : Int32) (t7 : zSt) : zk2 (zsnd (fX9_about_a7 v t7)) = zk2 t7 := k2q_fX9_about_a7 v t7
theorem k2q_fX9_about_a8 (v : Int32) (what : Int32) (t7 : zSt) : zk2s (fX9_about_a8 v what t7) = zk2 t7 := by
  unfold fX9_about_a8
  (try dsimp only)
  all_goals (refine ite_keep (fun r : Int32 × zSt => zk2s r) _ _ ?_ ?_ <;> (simp only [zW_2, zL_2, k2_fX9_about_a6, k2_fX9_about_a7, k2q_fX9_about_a6, k2q_fX9_about_a7, zk2s_mk]; done))
theorem k2_fX9_about_a8 (v : Int32) (what : Int32) (t7 : zSt) : zk2 (zsnd (fX9_about_a8 v what t7)) = zk2 t7 := k2q_fX9_about_a8 v what t7
theorem k2q_fX9_about_a9 (v : Int32) (what : Int32) (t7 : zSt) : zk2s (fX9_about_a9 v what t7) = zk2 t7 := by
  unfold fX9_about_a9
  (try dsimp only)
  all_goals (refine ite_keep (fun r : Int32 × zSt => zk2s r) _ _ ?_ ?_ <;> (simp only [zW_2, zL_2, k2_fX9_about_a5, k2_fX9_about_a8, k2q_fX9_about_a5, k2q_fX9_about_a8, zk2s_mk]; done))
theorem k2_fX9_about_a9 (v : Int32) (what : Int32) (t7 : zSt) : zk2 (zsnd (fX9_about_a9 v what t7)) = zk2 t7 := k2q_fX9_about_a9 v what t7
theorem k2q_fX9_about_a10 (v : Int32) (what : Int32) (t7 : zSt) : zk2s (fX9_about_a10 v what t7) = zk2 t7 := by
  unfold fX9_about_a10
  (try dsimp only)
  all_goals (refine ite_keep (fun r : Int32 × zSt => zk2s r) _ _ ?_ ?_ <;> (simp only [zW_2, zL_2, k2_fX9_about_a4, k2_fX9_about_a9, k2q_fX9_about_a4, k2q_fX9_about_a9, zk2s_mk]; done))
theorem k2_fX9_about_a10 (v : Int32) (what : Int32) (t7 : zSt) : zk2 (zsnd (fX9_about_a10 v what t7)) = zk2 t7 := k2q_fX9_about_a10 v what t7
theorem k2q_fX9_about_a11 (v : Int32) (what : Int32) (s0 : zSt) : zk2s (fX9_about_a11 v what s0) = zk2 s0 := by
  unfold fX9_about_a11
  (try dsimp only)
  all_goals (refine ite_keep (fun r : Int32 × zSt => zk2s r) _ _ ?_ ?_ <;> (simp only [zW_2, zL_2, k2_fX1_load, k2_fX9_about_a10, k2_fX9_about_a3, k2q_fX9_about_a10, k2q_fX9_about_a3, zk2s_mk]; done))
theorem k2_fX9_about_a11 (v : Int32) (what : Int32) (s0 : zSt) : zk2 (zsnd (fX9_about_a11 v what s0)) = zk2 s0 := k2q_fX9_about_a11 v what s0
theorem k2q_fX9_about_a12 (s0 : zSt) : zk2s (fX9_about_a12 s0) = zk2 s0 := by
  unfold fX9_about_a12
  (try dsimp only)
  all_goals (simp only [zW_2, zL_2, zk2s_mk]; done)
theorem k2_fX9_about_a12 (s0 : zSt) : zk2 (zsnd (fX9_about_a12 s0)) = zk2 s0 := k2q_fX9_about_a12 s0
theorem k2q_fX9_about_a13 (v : Int32) (what : Int32) (s0 : zSt) : zk2s (fX9_about_a13 v what s0) = zk2 s0 := by
  unfold fX9_about_a13
  (try dsimp only)
  all_goals (refine cond_keep (fun r : Int32 × zSt => zk2s r) _ ?_ ?_ <;> (simp only [zW_2, zL_2, k2_fX9_about_a11, k2_fX9_about_a12, k2q_fX9_about_a11, k2q_fX9_about_a12, zk2s_mk]; done))
theorem k2_fX9_about_a13 (v : Int32) (what : Int32) (s0 : zSt) : zk2 (zsnd (fX9_about_a13 v what s0)) = zk2 s0 := k2q_fX9_about_a13 v what s0
theorem k2q_fX9_about_a14 (s0 : zSt) : zk2s (fX9_about_a14 s0) = zk2 s0 := by
  unfold fX9_about_a14
  (try dsimp only)
  all_goals (simp only [zW_2, zL_2, zk2s_mk]; done)
theorem k2_fX9_about_a14 (s0 : zSt) : zk2 (zsnd (fX9_about_a14 s0)) = zk2 s0 := k2q_fX9_about_a14 s0
theorem k2q_fX9_about (v : Int32) (what : Int32) (s0 : zSt) : zk2s (fX9_about v what s0) = zk2 s0 := by
  unfold fX9_about
  (try dsimp only)
  all_goals (refine cond_keep (fun r : Int32 × zSt => zk2s r) _ ?_ ?_ <;> (simp only [zW_2, zL_2, k2_fX9_about_a13, k2_fX9_about_a14, k2q_fX9_about_a13, k2q_fX9_about_a14, zk2s_mk]; done))
theorem k2_fX9_about (v : Int32) (what : Int32) (s0 : zSt) : zk2 (zsnd (fX9_about v what s0)) = zk2 s0 := k2q_fX9_about v what s0
theorem i2_fX9_about (v : Int32) (what : Int32) (s0 : zSt) (kk9 : Nat) : (zsnd (fX9_about v what s0)).2.2 kk9 = s0.2.2 kk9 := z2_I (k2_fX9_about v what s0) kk9
theorem i3_fX9_about (v : Int32) (what : Int32) (s0 : zSt) (kk9 : Nat) : zi (zsnd (fX9_about v what s0)) kk9 = zi s0 kk9 := zi_of (k2_fX9_about v what s0) kk9

def fX10_about_a1 (t4 : zSt) : Int32 × zSt :=
    (nI (0), t4)
def fX10_about_a2 (t4 : zSt) : Int32 × zSt :=
    (nI (1), t4)
def fX10_about_a3 (t4 : zSt) : Int32 × zSt :=
    if 0 ≤ vX10_against 4 36 t4 then
      fX10_about_a1 t4
    else
      fX10_about_a2 t4
def fX10_about_a4 (t4 : zSt) : Int32 × zSt :=
    (nI (0), t4)
def fX10_about_a5 (t4 : zSt) : Int32 × zSt :=
    (nI (1), t4)
def fX10_about_a6 (t4 : zSt) : Int32 × zSt :=
    if 0 ≤ vX10_against 4 32 t4 then
      fX10_about_a4 t4
    else
      fX10_about_a5 t4
def fX10_about_a7 (t20 : zSt) : Int32 × zSt :=
    (nI (0), t20)
def fX10_about_a8 (t20 : zSt) : Int32 × zSt :=
    (nI (1), t20)
def fX10_about_a9 (t4 : zSt) : Int32 × zSt :=
    let t19 := fX10_unpack 40 4 t4
    let t20 := zsnd (fX10_isSame 40 0 t19)
    bif (zfst (fX10_isSame 40 0 t19)) then
      fX10_about_a8 t20
    else
      fX10_about_a7 t20
def fX10_about_a10 (t4 : zSt) : Int32 × zSt :=
    let t27 := fX10_unpack 40 4 t4
    let t28 := zsnd (fX10_lowest 40 t27)
    (zfst (fX10_lowest 40 t27), t28)
def fX10_about_a11 (t4 : zSt) : Int32 × zSt :=
    (nI (blM 4 t4 256), t4)
def fX10_about_a12 (t4 : zSt) : Int32 × zSt :=
    ((-102 : Int32), t4)
def fX10_about_a13 (what : Int32) (t4 : zSt) : Int32 × zSt :=
    if what = nI 4 then
      fX10_about_a11 t4
    else
      fX10_about_a12 t4
def fX10_about_a14 (what : Int32) (t4 : zSt) : Int32 × zSt :=
    if what = nI 3 then
      fX10_about_a10 t4
    else
      fX10_about_a13 what t4
def fX10_about_a15 (what : Int32) (t4 : zSt) : Int32 × zSt :=
    if what = nI 2 then
      fX10_about_a9 t4
    else
      fX10_about_a14 what t4
def fX10_about_a16 (what : Int32) (t4 : zSt) : Int32 × zSt :=
    if what = nI 1 then
      fX10_about_a6 t4
    else
      fX10_about_a15 what t4
def fX10_about_a17 (v : Int32) (what : Int32) (s0 : zSt) : Int32 × zSt :=
    let t4 := fX10_fromSlot 4 v.toNatClampNeg s0
    if what = nI 0 then
      fX10_about_a3 t4
    else
      fX10_about_a16 what t4
def fX10_about_a18 (s0 : zSt) : Int32 × zSt :=
    ((-101 : Int32), s0)
def fX10_about (v : Int32) (what : Int32) (s0 : zSt) : Int32 × zSt :=
    bif (vX10_isSlot v s0) then
      fX10_about_a17 v what s0
    else
      fX10_about_a18 s0
set_option maxHeartbeats 4000000 in
set_option maxRecDepth 100000 in
theorem k_X10_about (l : Launch) (D : va_G) (kc : Nat → ClassId) (ad : Nat → Nat) (v : Int32) (what : Int32) (s0 : zSt) : zM l yX10_about cX10_about 4 (some .int) rX10_about (wM D kc ad) [.ref (zad (wM D kc ad) 17), .int v, .int what] s0 (zV1 (.int (zfst (fX10_about v what s0))) (zsnd (fX10_about v what s0))) := by
  refine z_of (own := RX10) (by decide +kernel) rfl (Nat.le_of_ble_eq_true rfl) ?_
  intro κ C R0
  refine j_at [(0, .ref (zad (wM D kc ad) 17)), (1, .int v), (2, .int what)] ⟨rfl, rfl, rfl, trivial⟩ ?_
  refine j_iload_n C dX10_about_0 rfl rfl ?_
  refine j_callS1 C dX10_about_1 (k_X10_isSlot l D kc ad (v) _ ) zy_X10_isSlot mw_15_3 rfl rfl (Nat.le_of_ble_eq_true rfl) ⟨rfl, rfl, Nat.le_of_ble_eq_true rfl, Nat.le_of_ble_eq_true rfl⟩ ?_
  refine j_if_neB (tgt := 10) C dX10_about_4 (by decide) (fun q1 => ?_) (fun q1 => ?_)
  · have hA2 : fX10_about v what s0 = fX10_about_a17 v what s0 := by have q1z := q1; (try dsimp only at q1z); unfold fX10_about; (try dsimp only); rw [q1z, cond_true]; (try rfl)
    have hc3 := msl_of (x := v) (by assumption)
    have hc3b := hc3.2
    refine j_at [(0, .ref (zad (wM D kc ad) 17)), (1, .int (nI (v.toNatClampNeg))), (2, .int what)] ⟨rfl, congrArg (fun q => some (Value.int q)) hc3.1, rfl, trivial⟩ ?_
    refine j_aload_n C dX10_about_10 rfl rfl ?_
    refine j_iconst (v := nI 4) C dX10_about_11 (by decide +kernel) ?_
    refine j_iload_n C dX10_about_12 rfl rfl ?_
    refine j_callV0 (T := TX10) (N := 23) C dX10_about_13 (k_X10_fromSlot l D kc ad 4 (by omega) v.toNatClampNeg (by omega) _ ) zy_X10_fromSlot mw_16_9 rfl rfl (Nat.zero_le _) (show 17 < 18 by decide) rfl rfl (Nat.le_of_ble_eq_true rfl) ⟨rfl, rfl, Nat.le_of_ble_eq_true rfl, Nat.le_of_ble_eq_true rfl⟩ ?_
    refine j_nmS (fun t4 et4 => ?_)
    refine j_iload_n C dX10_about_16 rfl rfl ?_
    by_cases q5 : what = nI 0
    · have hA6 : fX10_about_a17 v what s0 = fX10_about_a3 t4 := by (try rw [et4]); have q5z := q5; (try rw [et4] at q5z); (try dsimp only at q5z); unfold fX10_about_a17; (try dsimp only); rw [if_pos q5z]; (try rfl)
      refine j_top (v := .int (nI 0)) (congrArg Value.int q5) ?_
      refine j_tabIn (c := 0) (off := 35) (tgt := 52) C dX10_about_17 (by decide +kernel) (by decide) ?_
      refine j_aload_n C dX10_about_52 rfl rfl ?_
      refine j_iconst (v := nI 4) C dX10_about_53 (by decide +kernel) ?_
      refine j_bipush (v := nI 36) C dX10_about_54 (by decide +kernel) ?_
      refine j_callV1 (T := TX10) (N := 23) C dX10_about_56 (k_X10_against l D kc ad 4 (by omega) 36 (by omega) _ ) zy_X10_against mw_12_20 rfl rfl (Nat.zero_le _) (show 17 < 18 by decide) rfl rfl (Nat.le_of_ble_eq_true rfl) ⟨rfl, rfl, Nat.le_of_ble_eq_true rfl, Nat.le_of_ble_eq_true rfl⟩ ?_
      refine j_if_ge (tgt := 66) C dX10_about_59 (by decide) (fun q7 => ?_) (fun q7 => ?_)
      · have hA8 : fX10_about_a3 t4 = fX10_about_a1 t4 := by have q7z := q7; (try dsimp only at q7z); unfold fX10_about_a3; (try dsimp only); rw [if_pos q7z]; (try rfl)
        refine j_iconst (v := nI 0) C dX10_about_66 (by decide +kernel) ?_
        exact j_iret (st := []) C R0 dX10_about_67 ⟨(by rw [hA2, hA6, hA8]; unfold fX10_about_a1; (try dsimp only); all_goals ((try simp only [zfst_mk, zsnd_mk]); all_goals rfl)), ((by rw [hA2, hA6, hA8]; unfold fX10_about_a1; (try dsimp only); all_goals ((try simp only [zfst_mk, zsnd_mk]); all_goals rfl)))⟩
      · have hA9 : fX10_about_a3 t4 = fX10_about_a2 t4 := by have q7z := q7; (try dsimp only at q7z); unfold fX10_about_a3; (try dsimp only); rw [if_neg q7z]; (try rfl)
        refine j_iconst (v := nI 1) C dX10_about_62 (by decide +kernel) ?_
        refine j_goto (tgt := 67) C dX10_about_63 (by decide) ?_
        exact j_iret (st := []) C R0 dX10_about_67 ⟨(by rw [hA2, hA6, hA9]; unfold fX10_about_a2; (try dsimp only); all_goals ((try simp only [zfst_mk, zsnd_mk]); all_goals rfl)), ((by rw [hA2, hA6, hA9]; unfold fX10_about_a2; (try dsimp only); all_goals ((try simp only [zfst_mk, zsnd_mk]); all_goals rfl)))⟩
    · have hA10 : fX10_about_a17 v what s0 = fX10_about_a16 what t4 := by (try rw [et4]); have q5z := q5; (try rw [et4] at q5z); (try dsimp only at q5z); unfold fX10_about_a17; (try dsimp only); rw [if_neg q5z]; (try rfl)
      by_cases q11 : what = nI 1
      · have hA12 : fX10_about_a16 what t4 = fX10_about_a6 t4 := by have q11z := q11; (try dsimp only at q11z); unfold fX10_about_a16; (try dsimp only); rw [if_pos q11z]; (try rfl)
        refine j_top (v := .int (nI 1)) (congrArg Value.int q11) ?_
        refine j_tabIn (c := 1) (off := 51) (tgt := 68) C dX10_about_17 (by decide +kernel) (by decide) ?_
        refine j_aload_n C dX10_about_68 rfl rfl ?_
        refine j_iconst (v := nI 4) C dX10_about_69 (by decide +kernel) ?_
        refine j_bipush (v := nI 32) C dX10_about_70 (by decide +kernel) ?_
        refine j_callV1 (T := TX10) (N := 23) C dX10_about_72 (k_X10_against l D kc ad 4 (by omega) 32 (by omega) _ ) zy_X10_against mw_12_20 rfl rfl (Nat.zero_le _) (show 17 < 18 by decide) rfl rfl (Nat.le_of_ble_eq_true rfl) ⟨rfl, rfl, Nat.le_of_ble_eq_true rfl, Nat.le_of_ble_eq_true rfl⟩ ?_
        refine j_if_ge (tgt := 82) C dX10_about_75 (by decide) (fun q13 => ?_) (fun q13 => ?_)
        · have hA14 : fX10_about_a6 t4 = fX10_about_a4 t4 := by have q13z := q13; (try dsimp only at q13z); unfold fX10_about_a6; (try dsimp only); rw [if_pos q13z]; (try rfl)
          refine j_iconst (v := nI 0) C dX10_about_82 (by decide +kernel) ?_
          exact j_iret (st := []) C R0 dX10_about_83 ⟨(by rw [hA2, hA10, hA12, hA14]; unfold fX10_about_a4; (try dsimp only); all_goals ((try simp only [zfst_mk, zsnd_mk]); all_goals rfl)), ((by rw [hA2, hA10, hA12, hA14]; unfold fX10_about_a4; (try dsimp only); all_goals ((try simp only [zfst_mk, zsnd_mk]); all_goals rfl)))⟩
        · have hA15 : fX10_about_a6 t4 = fX10_about_a5 t4 := by have q13z := q13; (try dsimp only at q13z); unfold fX10_about_a6; (try dsimp only); rw [if_neg q13z]; (try rfl)
          refine j_iconst (v := nI 1) C dX10_about_78 (by decide +kernel) ?_
          refine j_goto (tgt := 83) C dX10_about_79 (by decide) ?_
          exact j_iret (st := []) C R0 dX10_about_83 ⟨(by rw [hA2, hA10, hA12, hA15]; unfold fX10_about_a5; (try dsimp only); all_goals ((try simp only [zfst_mk, zsnd_mk]); all_goals rfl)), ((by rw [hA2, hA10, hA12, hA15]; unfold fX10_about_a5; (try dsimp only); all_goals ((try simp only [zfst_mk, zsnd_mk]); all_goals rfl)))⟩
      · have hA16 : fX10_about_a16 what t4 = fX10_about_a15 what t4 := by have q11z := q11; (try dsimp only at q11z); unfold fX10_about_a16; (try dsimp only); rw [if_neg q11z]; (try rfl)
        by_cases q17 : what = nI 2
        · have hA18 : fX10_about_a15 what t4 = fX10_about_a9 t4 := by have q17z := q17; (try dsimp only at q17z); unfold fX10_about_a15; (try dsimp only); rw [if_pos q17z]; (try rfl)
          refine j_top (v := .int (nI 2)) (congrArg Value.int q17) ?_
          refine j_tabIn (c := 2) (off := 67) (tgt := 84) C dX10_about_17 (by decide +kernel) (by decide) ?_
          refine j_aload_n C dX10_about_84 rfl rfl ?_
          refine j_bipush (v := nI 40) C dX10_about_85 (by decide +kernel) ?_
          refine j_iconst (v := nI 4) C dX10_about_87 (by decide +kernel) ?_
          refine j_callV0 (T := TX10) (N := 23) C dX10_about_88 (k_X10_unpack l D kc ad 40 (by omega) 4 (by omega) _ ) zy_X10_unpack mw_13_4 rfl rfl (Nat.zero_le _) (show 17 < 18 by decide) rfl rfl (Nat.le_of_ble_eq_true rfl) ⟨rfl, rfl, Nat.le_of_ble_eq_true rfl, Nat.le_of_ble_eq_true rfl⟩ ?_
          refine j_nmS (fun t19 et19 => ?_)
          refine j_aload_n C dX10_about_91 rfl rfl ?_
          refine j_bipush (v := nI 40) C dX10_about_92 (by decide +kernel) ?_
          refine j_iconst (v := nI 0) C dX10_about_94 (by decide +kernel) ?_
          refine j_callV1 (T := TX10) (N := 23) C dX10_about_95 (k_X10_isSame l D kc ad 40 (by omega) 0 (by omega) _ ) zy_X10_isSame mw_13_14 rfl rfl (Nat.zero_le _) (show 17 < 18 by decide) rfl rfl (Nat.le_of_ble_eq_true rfl) ⟨rfl, rfl, Nat.le_of_ble_eq_true rfl, Nat.le_of_ble_eq_true rfl⟩ ?_
          refine j_nmS (fun t20 et20 => ?_)
          refine j_if_eqB (tgt := 105) C dX10_about_98 (by decide) (fun q21 => ?_) (fun q21 => ?_)
          · have hA22 : fX10_about_a9 t4 = fX10_about_a7 t20 := by (try rw [et20]); (try rw [et19]); have q21z := q21; (try rw [et20] at q21z); (try rw [et19] at q21z); (try dsimp only at q21z); unfold fX10_about_a9; (try dsimp only); rw [q21z, cond_false]; (try rfl)
            refine j_iconst (v := nI 0) C dX10_about_105 (by decide +kernel) ?_
            exact j_iret (st := []) C R0 dX10_about_106 ⟨(by rw [hA2, hA10, hA16, hA18, hA22]; unfold fX10_about_a7; (try dsimp only); all_goals ((try simp only [zfst_mk, zsnd_mk]); all_goals rfl)), ((by rw [hA2, hA10, hA16, hA18, hA22]; unfold fX10_about_a7; (try dsimp only); all_goals ((try simp only [zfst_mk, zsnd_mk]); all_goals rfl)))⟩
          · have hA23 : fX10_about_a9 t4 = fX10_about_a8 t20 := by (try rw [et20]); (try rw [et19]); have q21z := q21; (try rw [et20] at q21z); (try rw [et19] at q21z); (try dsimp only at q21z); unfold fX10_about_a9; (try dsimp only); rw [q21z, cond_true]; (try rfl)
            refine j_iconst (v := nI 1) C dX10_about_101 (by decide +kernel) ?_
            refine j_goto (tgt := 106) C dX10_about_102 (by decide) ?_
            exact j_iret (st := []) C R0 dX10_about_106 ⟨(by rw [hA2, hA10, hA16, hA18, hA23]; unfold fX10_about_a8; (try dsimp only); all_goals ((try simp only [zfst_mk, zsnd_mk]); all_goals rfl)), ((by rw [hA2, hA10, hA16, hA18, hA23]; unfold fX10_about_a8; (try dsimp only); all_goals ((try simp only [zfst_mk, zsnd_mk]); all_goals rfl)))⟩
        · have hA24 : fX10_about_a15 what t4 = fX10_about_a14 what t4 := by have q17z := q17; (try dsimp only at q17z); unfold fX10_about_a15; (try dsimp only); rw [if_neg q17z]; (try rfl)
          by_cases q25 : what = nI 3
          · have hA26 : fX10_about_a14 what t4 = fX10_about_a10 t4 := by have q25z := q25; (try dsimp only at q25z); unfold fX10_about_a14; (try dsimp only); rw [if_pos q25z]; (try rfl)
            refine j_top (v := .int (nI 3)) (congrArg Value.int q25) ?_
            refine j_tabIn (c := 3) (off := 90) (tgt := 107) C dX10_about_17 (by decide +kernel) (by decide) ?_
            refine j_aload_n C dX10_about_107 rfl rfl ?_
            refine j_bipush (v := nI 40) C dX10_about_108 (by decide +kernel) ?_
            refine j_iconst (v := nI 4) C dX10_about_110 (by decide +kernel) ?_
            refine j_callV0 (T := TX10) (N := 23) C dX10_about_111 (k_X10_unpack l D kc ad 40 (by omega) 4 (by omega) _ ) zy_X10_unpack mw_13_4 rfl rfl (Nat.zero_le _) (show 17 < 18 by decide) rfl rfl (Nat.le_of_ble_eq_true rfl) ⟨rfl, rfl, Nat.le_of_ble_eq_true rfl, Nat.le_of_ble_eq_true rfl⟩ ?_
            refine j_nmS (fun t27 et27 => ?_)
            refine j_aload_n C dX10_about_114 rfl rfl ?_
            refine j_bipush (v := nI 40) C dX10_about_115 (by decide +kernel) ?_
            refine j_callV1 (T := TX10) (N := 23) C dX10_about_117 (k_X10_lowest l D kc ad 40 (by omega) _ ) zy_X10_lowest mw_13_18 rfl rfl (Nat.zero_le _) (show 17 < 18 by decide) rfl rfl (Nat.le_of_ble_eq_true rfl) ⟨rfl, rfl, Nat.le_of_ble_eq_true rfl, Nat.le_of_ble_eq_true rfl⟩ ?_
            refine j_nmS (fun t28 et28 => ?_)
            exact j_iret (st := []) C R0 dX10_about_120 ⟨(by rw [hA2, hA10, hA16, hA24, hA26]; (try rw [et28]); (try rw [et27]); unfold fX10_about_a10; (try dsimp only); all_goals ((try simp only [zfst_mk, zsnd_mk]); all_goals rfl)), ((by rw [hA2, hA10, hA16, hA24, hA26]; (try rw [et28]); (try rw [et27]); unfold fX10_about_a10; (try dsimp only); all_goals ((try simp only [zfst_mk, zsnd_mk]); all_goals rfl)))⟩
          · have hA29 : fX10_about_a14 what t4 = fX10_about_a13 what t4 := by have q25z := q25; (try dsimp only at q25z); unfold fX10_about_a14; (try dsimp only); rw [if_neg q25z]; (try rfl)
            by_cases q30 : what = nI 4
            · have hA31 : fX10_about_a13 what t4 = fX10_about_a11 t4 := by have q30z := q30; (try dsimp only at q30z); unfold fX10_about_a13; (try dsimp only); rw [if_pos q30z]; (try rfl)
              refine j_top (v := .int (nI 4)) (congrArg Value.int q30) ?_
              refine j_tabIn (c := 4) (off := 104) (tgt := 121) C dX10_about_17 (by decide +kernel) (by decide) ?_
              refine j_sipush (v := nI 256) C dX10_about_121 (by decide +kernel) ?_
              refine j_istore_n C dX10_about_124 rfl (by decide) ?_
              refine j_at [(0, .ref (zad (wM D kc ad) 17)), (3, .int (nI 256))] ⟨rfl, rfl, trivial⟩ (lp_about C t4 ?_)
              refine j_iload_n C dX10_about_146 rfl rfl ?_
              exact j_iret (st := []) C R0 dX10_about_147 ⟨(by rw [hA2, hA10, hA16, hA24, hA29, hA31]; unfold fX10_about_a11; (try dsimp only); all_goals ((try simp only [zfst_mk, zsnd_mk]); all_goals rfl)), ((by rw [hA2, hA10, hA16, hA24, hA29, hA31]; unfold fX10_about_a11; (try dsimp only); all_goals ((try simp only [zfst_mk, zsnd_mk]); all_goals rfl)))⟩
            · have hA32 : fX10_about_a13 what t4 = fX10_about_a12 t4 := by have q30z := q30; (try dsimp only at q30z); unfold fX10_about_a13; (try dsimp only); rw [if_neg q30z]; (try rfl)
              refine j_tabOut (dflt := 131) (tgt := 148) C dX10_about_17 (tab_out 5 (by decide) (fun c hc => by rcases (show c = 0 ∨ c = 1 ∨ c = 2 ∨ c = 3 ∨ c = 4 by omega) with rfl | rfl | rfl | rfl | rfl <;> assumption)) (by decide) ?_
              refine j_bipush (v := -102) C dX10_about_148 (by decide +kernel) ?_
              exact j_iret (st := []) C R0 dX10_about_150 ⟨(by rw [hA2, hA10, hA16, hA24, hA29, hA32]; unfold fX10_about_a12; (try dsimp only); all_goals ((try simp only [zfst_mk, zsnd_mk]); all_goals rfl)), ((by rw [hA2, hA10, hA16, hA24, hA29, hA32]; unfold fX10_about_a12; (try dsimp only); all_goals ((try simp only [zfst_mk, zsnd_mk]); all_goals rfl)))⟩
  · have hA33 : fX10_about v what s0 = fX10_about_a18 s0 := by have q1z := q1; (try dsimp only at q1z); unfold fX10_about; (try dsimp only); rw [q1z, cond_false]; (try rfl)
    refine j_bipush (v := -101) C dX10_about_7 (by decide +kernel) ?_
    exact j_iret (st := []) C R0 dX10_about_9 ⟨(by rw [hA33]; unfold fX10_about_a18; (try dsimp only); all_goals ((try simp only [zfst_mk, zsnd_mk]); all_goals rfl)), ((by rw [hA33]; unfold fX10_about_a18; (try dsimp only); all_goals ((try simp only [zfst_mk, zsnd_mk]); all_goals rfl)))⟩
theorem k2q_fX10_about_a1 (t4 : zSt) : zk2s (fX10_about_a1 t4) = zk2 t4 := by
  unfold fX10_about_a1
  (try dsimp only)
  all_goals (simp only [zW_2, zL_2, zk2s_mk]; done)
theorem k2_fX10_about_a1 (t4 : zSt) : zk2 (zsnd (fX10_about_a1 t4)) = zk2 t4 := k2q_fX10_about_a1 t4
theorem k2q_fX10_about_a2 (t4 : zSt) : zk2s (fX10_about_a2 t4) = zk2 t4 := by
  unfold fX10_about_a2
  (try dsimp only)
  all_goals (simp only [zW_2, zL_2, zk2s_mk]; done)
theorem k2_fX10_about_a2 (t4 : zSt) : zk2 (zsnd (fX10_about_a2 t4)) = zk2 t4 := k2q_fX10_about_a2 t4
theorem k2q_fX10_about_a3 (t4 : zSt) : zk2s (fX10_about_a3 t4) = zk2 t4 := by
  unfold fX10_about_a3
  (try dsimp only)
  all_goals (refine ite_keep (fun r : Int32 × zSt => zk2s r) _ _ ?_ ?_ <;> (simp only [zW_2, zL_2, k2_fX10_about_a1, k2_fX10_about_a2, k2q_fX10_about_a1, k2q_fX10_about_a2, zk2s_mk]; done))
theorem k2_fX10_about_a3 (t4 : zSt) : zk2 (zsnd (fX10_about_a3 t4)) = zk2 t4 := k2q_fX10_about_a3 t4
theorem k2q_fX10_about_a4 (t4 : zSt) : zk2s (fX10_about_a4 t4) = zk2 t4 := by
  unfold fX10_about_a4
  (try dsimp only)
  all_goals (simp only [zW_2, zL_2, zk2s_mk]; done)
theorem k2_fX10_about_a4 (t4 : zSt) : zk2 (zsnd (fX10_about_a4 t4)) = zk2 t4 := k2q_fX10_about_a4 t4
theorem k2q_fX10_about_a5 (t4 : zSt) : zk2s (fX10_about_a5 t4) = zk2 t4 := by
  unfold fX10_about_a5
  (try dsimp only)
  all_goals (simp only [zW_2, zL_2, zk2s_mk]; done)
theorem k2_fX10_about_a5 (t4 : zSt) : zk2 (zsnd (fX10_about_a5 t4)) = zk2 t4 := k2q_fX10_about_a5 t4
theorem k2q_fX10_about_a6 (t4 : zSt) : zk2s (fX10_about_a6 t4) = zk2 t4 := by
  unfold fX10_about_a6
  (try dsimp only)
  all_goals (refine ite_keep (fun r : Int32 × zSt => zk2s r) _ _ ?_ ?_ <;> (simp only [zW_2, zL_2, k2_fX10_about_a4, k2_fX10_about_a5, k2q_fX10_about_a4, k2q_fX10_about_a5, zk2s_mk]; done))
theorem k2_fX10_about_a6 (t4 : zSt) : zk2 (zsnd (fX10_about_a6 t4)) = zk2 t4 := k2q_fX10_about_a6 t4
theorem k2q_fX10_about_a7 (t20 : zSt) : zk2s (fX10_about_a7 t20) = zk2 t20 := by
  unfold fX10_about_a7
  (try dsimp only)
  all_goals (simp only [zW_2, zL_2, zk2s_mk]; done)
theorem k2_fX10_about_a7 (t20 : zSt) : zk2 (zsnd (fX10_about_a7 t20)) = zk2 t20 := k2q_fX10_about_a7 t20
theorem k2q_fX10_about_a8 (t20 : zSt) : zk2s (fX10_about_a8 t20) = zk2 t20 := by
  unfold fX10_about_a8
  (try dsimp only)
  all_goals (simp only [zW_2, zL_2, zk2s_mk]; done)
theorem k2_fX10_about_a8 (t20 : zSt) : zk2 (zsnd (fX10_about_a8 t20)) = zk2 t20 := k2q_fX10_about_a8 t20
theorem k2q_fX10_about_a9 (t4 : zSt) : zk2s (fX10_about_a9 t4) = zk2 t4 := by
  unfold fX10_about_a9
  (try dsimp only)
  all_goals (refine cond_keep (fun r : Int32 × zSt => zk2s r) _ ?_ ?_ <;> (simp only [zW_2, zL_2, k2_fX10_about_a7, k2_fX10_about_a8, k2_fX10_isSame, k2_fX10_unpack, k2q_fX10_about_a7, k2q_fX10_about_a8, k2q_fX10_isSame, zk2s_mk]; done))
theorem k2_fX10_about_a9 (t4 : zSt) : zk2 (zsnd (fX10_about_a9 t4)) = zk2 t4 := k2q_fX10_about_a9 t4
theorem k2q_fX10_about_a10 (t4 : zSt) : zk2s (fX10_about_a10 t4) = zk2 t4 := by
  unfold fX10_about_a10
  (try dsimp only)
  all_goals (simp only [zW_2, zL_2, k2_fX10_lowest, k2_fX10_unpack, k2q_fX10_lowest, zk2s_mk]; done)
theorem k2_fX10_about_a10 (t4 : zSt) : zk2 (zsnd (fX10_about_a10 t4)) = zk2 t4 := k2q_fX10_about_a10 t4
theorem k2q_fX10_about_a11 (t4 : zSt) : zk2s (fX10_about_a11 t4) = zk2 t4 := by
  unfold fX10_about_a11
  (try dsimp only)
  all_goals (simp only [zW_2, zL_2, zk2s_mk]; done)
theorem k2_fX10_about_a11 (t4 : zSt) : zk2 (zsnd (fX10_about_a11 t4)) = zk2 t4 := k2q_fX10_about_a11 t4
theorem k2q_fX10_about_a12 (t4 : zSt) : zk2s (fX10_about_a12 t4) = zk2 t4 := by
  unfold fX10_about_a12
  (try dsimp only)
  all_goals (simp only [zW_2, zL_2, zk2s_mk]; done)
theorem k2_fX10_about_a12 (t4 : zSt) : zk2 (zsnd (fX10_about_a12 t4)) = zk2 t4 := k2q_fX10_about_a12 t4
theorem k2q_fX10_about_a13 (what : Int32) (t4 : zSt) : zk2s (fX10_about_a13 what t4) = zk2 t4 := by
  unfold fX10_about_a13
  (try dsimp only)
  all_goals (refine ite_keep (fun r : Int32 × zSt => zk2s r) _ _ ?_ ?_ <;> (simp only [zW_2, zL_2, k2_fX10_about_a11, k2_fX10_about_a12, k2q_fX10_about_a11, k2q_fX10_about_a12, zk2s_mk]; done))
theorem k2_fX10_about_a13 (what : Int32) (t4 : zSt) : zk2 (zsnd (fX10_about_a13 what t4)) = zk2 t4 := k2q_fX10_about_a13 what t4
theorem k2q_fX10_about_a14 (what : Int32) (t4 : zSt) : zk2s (fX10_about_a14 what t4) = zk2 t4 := by
  unfold fX10_about_a14
  (try dsimp only)
  all_goals (refine ite_keep (fun r : Int32 × zSt => zk2s r) _ _ ?_ ?_ <;> (simp only [zW_2, zL_2, k2_fX10_about_a10, k2_fX10_about_a13, k2q_fX10_about_a10, k2q_fX10_about_a13, zk2s_mk]; done))
theorem k2_fX10_about_a14 (what : Int32) (t4 : zSt) : zk2 (zsnd (fX10_about_a14 what t4)) = zk2 t4 := k2q_fX10_about_a14 what t4
theorem k2q_fX10_about_a15 (what : Int32) (t4 : zSt) : zk2s (fX10_about_a15 what t4) = zk2 t4 := by
  unfold fX10_about_a15
  (try dsimp only)
  all_goals (refine ite_keep (fun r : Int32 × zSt => zk2s r) _ _ ?_ ?_ <;> (simp only [zW_2, zL_2, k2_fX10_about_a14, k2_fX10_about_a9, k2q_fX10_about_a14, k2q_fX10_about_a9, zk2s_mk]; done))
theorem k2_fX10_about_a15 (what : Int32) (t4 : zSt) : zk2 (zsnd (fX10_about_a15 what t4)) = zk2 t4 := k2q_fX10_about_a15 what t4
theorem k2q_fX10_about_a16 (what : Int32) (t4 : zSt) : zk2s (fX10_about_a16 what t4) = zk2 t4 := by
  unfold fX10_about_a16
  (try dsimp only)
  all_goals (refine ite_keep (fun r : Int32 × zSt => zk2s r) _ _ ?_ ?_ <;> (simp only [zW_2, zL_2, k2_fX10_about_a15, k2_fX10_about_a6, k2q_fX10_about_a15, k2q_fX10_about_a6, zk2s_mk]; done))
theorem k2_fX10_about_a16 (what : Int32) (t4 : zSt) : zk2 (zsnd (fX10_about_a16 what t4)) = zk2 t4 := k2q_fX10_about_a16 what t4
theorem k2q_fX10_about_a17 (v : Int32) (what : Int32) (s0 : zSt) : zk2s (fX10_about_a17 v what s0) = zk2 s0 := by
  unfold fX10_about_a17
  (try dsimp only)
  all_goals (refine ite_keep (fun r : Int32 × zSt => zk2s r) _ _ ?_ ?_ <;> (simp only [zW_2, zL_2, k2_fX10_about_a16, k2_fX10_about_a3, k2_fX10_fromSlot, k2q_fX10_about_a16, k2q_fX10_about_a3, zk2s_mk]; done))
theorem k2_fX10_about_a17 (v : Int32) (what : Int32) (s0 : zSt) : zk2 (zsnd (fX10_about_a17 v what s0)) = zk2 s0 := k2q_fX10_about_a17 v what s0
theorem k2q_fX10_about_a18 (s0 : zSt) : zk2s (fX10_about_a18 s0) = zk2 s0 := by
  unfold fX10_about_a18
  (try dsimp only)
  all_goals (simp only [zW_2, zL_2, zk2s_mk]; done)
theorem k2_fX10_about_a18 (s0 : zSt) : zk2 (zsnd (fX10_about_a18 s0)) = zk2 s0 := k2q_fX10_about_a18 s0
theorem k2q_fX10_about (v : Int32) (what : Int32) (s0 : zSt) : zk2s (fX10_about v what s0) = zk2 s0 := by
  unfold fX10_about
  (try dsimp only)
  all_goals (refine cond_keep (fun r : Int32 × zSt => zk2s r) _ ?_ ?_ <;> (simp only [zW_2, zL_2, k2_fX10_about_a17, k2_fX10_about_a18, k2q_fX10_about_a17, k2q_fX10_about_a18, zk2s_mk]; done))
theorem k2_fX10_about (v : Int32) (what : Int32) (s0 : zSt) : zk2 (zsnd (fX10_about v what s0)) = zk2 s0 := k2q_fX10_about v what s0
theorem i2_fX10_about (v : Int32) (what : Int32) (s0 : zSt) (kk9 : Nat) : (zsnd (fX10_about v what s0)).2.2 kk9 = s0.2.2 kk9 := z2_I (k2_fX10_about v what s0) kk9
theorem i3_fX10_about (v : Int32) (what : Int32) (s0 : zSt) (kk9 : Nat) : zi (zsnd (fX10_about v what s0)) kk9 = zi s0 kk9 := zi_of (k2_fX10_about v what s0) kk9
