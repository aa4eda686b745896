def fX10_tell (b : Int32) (M0 : Nat) (s0 : zSt) : zSt :=
    let t1 := zV s0 10 M0 (b)
    let t2 := zI t1 5 (nI (M0 + 1))
    t2
set_option maxHeartbeats 4000000 in
set_option maxRecDepth 100000 in
theorem k_X10_tell (l : Launch) (D : va_G) (kc : Nat → ClassId) (ad : Nat → Nat) (b : Int32) (M0 : Nat) (s0 : zSt) (hlen : s0.2.2 5 = nI M0) (hroom : M0 < 768) : zM l yX10_tell cX10_tell 2 none rX10_tell (wM D kc ad) [.ref (zad (wM D kc ad) 17), .int b] s0 (zV0 (fX10_tell b M0 s0)) := by
  refine z_of (own := RX10) (by decide +kernel) rfl (Nat.le_of_ble_eq_true rfl) ?_
  intro κ C R0
  refine j_at [(0, .ref (zad (wM D kc ad) 17)), (1, .int b)] ⟨rfl, rfl, trivial⟩ ?_
  refine j_aload_n C dX10_tell_0 rfl rfl ?_
  refine j_getR C dX10_tell_1 (fx_RX10_45 D kc ad) (Nat.zero_le _) (show 17 < 18 by decide) ?_
  refine j_aload_n C dX10_tell_4 rfl rfl ?_
  refine j_getI C dX10_tell_5 (fx_RX10_197 D kc ad) (Nat.zero_le _) (show 17 < 18 by decide) ?_
  refine j_top (v := .int (nI (M0))) (congrArg Value.int (by  exact hlen)) ?_
  refine j_iload_n C dX10_tell_8 rfl rfl ?_
  refine m_iast C dX10_tell_9 (⟨rfl, rfl, by decide, by decide⟩ : mi 768 10) (by omega) ?_
  refine j_nmS (fun t1 et1 => ?_)
  refine j_aload_n C dX10_tell_10 rfl rfl ?_
  refine j_dup C dX10_tell_11 rfl ?_
  refine j_getI C dX10_tell_12 (fx_RX10_197 D kc ad) (Nat.zero_le _) (show 17 < 18 by decide) ?_
  refine j_top (v := .int (nI (M0))) (congrArg Value.int (by (try rw [et1]);  exact hlen)) ?_
  refine j_iconst (v := nI 1) C dX10_tell_15 (by decide +kernel) ?_
  refine j_iaddN C dX10_tell_16 ?_
  refine j_putI C dX10_tell_17 (pfx_RX10_197 D kc ad) (om_5 D kc ad) (Nat.zero_le _) (show 17 < 18 by decide) ?_
  refine j_nmS (fun t2 et2 => ?_)
  exact j_vret (st := []) C R0 dX10_tell_20 ⟨rfl, (by (try rw [et2]); (try rw [et1]); unfold fX10_tell; (try dsimp only); all_goals ((try simp only [zfst_mk, zsnd_mk]); all_goals rfl))⟩

theorem tell_len (b : Int32) (M : Nat) (s : zSt) : (fX10_tell b M s).2.2 5 = nI (M + 1) := rfl
theorem tell_oth (b : Int32) (M : Nat) (s : zSt) (k : Nat) (h : k ≠ 5) : (fX10_tell b M s).2.2 k = s.2.2 k := by
  show (zI _ 5 _).2.2 k = _
  rw [zI_n _ _ h]
  rfl
def fX10_tellWords_2 (p : Nat) (M0 : Nat) (j1 : Nat) (z1 : zSt) : zSt :=
    let t3 := fX10_tell (nI (((zus (z1.1 4 (p + (j1 / 2 ^ 3))) (8 * (j1 % 2 ^ 3))).toInt32).toBitVec.toNat % 2 ^ 8)) (M0 + j1) z1
    t3
def fX10_tellWords (p : Nat) (M0 : Nat) (s0 : zSt) : zSt :=
    let u6 := ziter (fX10_tellWords_2 p M0) 0 32 s0
    u6
set_option maxHeartbeats 4000000 in
set_option maxRecDepth 100000 in
theorem k_X10_tellWords (l : Launch) (D : va_G) (kc : Nat → ClassId) (ad : Nat → Nat) (p : Nat) (hp : p ≤ 60) (M0 : Nat) (s0 : zSt) (hlen : s0.2.2 5 = nI M0) (hroom : M0 + 32 ≤ 768) : zM l yX10_tellWords cX10_tellWords 3 none rX10_tellWords (wM D kc ad) [.ref (zad (wM D kc ad) 17), .int (nI (p))] s0 (zV0 (fX10_tellWords p M0 s0)) := by
  refine z_of (own := RX10) (by decide +kernel) rfl (Nat.le_of_ble_eq_true rfl) ?_
  intro κ C R0
  refine j_at [(0, .ref (zad (wM D kc ad) 17)), (1, .int (nI (p)))] ⟨rfl, rfl, trivial⟩ ?_
  refine j_iconst (v := nI 0) C dX10_tellWords_0 (by decide +kernel) ?_
  refine j_istore_n C dX10_tellWords_1 rfl (by decide) ?_
  refine j_at [(0, .ref (zad (wM D kc ad) 17)), (1, .int (nI (p))), (2, .int (nI (0)))] ⟨rfl, rfl, rfl, trivial⟩ ?_
  refine z_up (α := zSt) (fun (j1 : Nat) (z1 : zSt) => zJ κ (wM D kc ad) 2 (zlof [(0, .ref (zad (wM D kc ad) 17)), (1, .int (nI (p))), (2, .int (nI (j1)))]) [] z1) (fX10_tellWords_2 p M0) (fun j1 z1 => z1.2.2 5 = nI (M0 + j1)) 32 ?_ (fun i x _ h => tell_len _ _ _) 32 0 s0 (by omega) hlen ?_
  · intro j1 z1 hj1 hIj1 k0
    refine j_iload_n C dX10_tellWords_2 rfl rfl ?_
    refine j_bipush (v := nI 32) C dX10_tellWords_3 (by decide +kernel) ?_
    refine j_icmp_geN (tgt := 41) C dX10_tellWords_5 (by decide) (by omega) (by omega) (fun q2 => False.elim (by omega)) (fun q2 => ?_)
    refine j_aload_n C dX10_tellWords_8 rfl rfl ?_
    refine j_aload_n C dX10_tellWords_9 rfl rfl ?_
    refine j_getR C dX10_tellWords_10 (fx_RX10_27 D kc ad) (Nat.zero_le _) (show 17 < 18 by decide) ?_
    refine j_iload_n C dX10_tellWords_13 rfl rfl ?_
    refine j_iload_n C dX10_tellWords_14 rfl rfl ?_
    refine j_iconst (v := nI 3) C dX10_tellWords_15 (by decide +kernel) ?_
    refine j_ishrN C dX10_tellWords_16 (by omega) (by decide +kernel) ?_
    refine j_iaddN C dX10_tellWords_17 ?_
    refine m_lald C dX10_tellWords_18 (⟨rfl, rfl, by decide, by decide⟩ : ma 64 4) (by omega) ?_
    refine j_bipush (v := nI 8) C dX10_tellWords_19 (by decide +kernel) ?_
    refine j_iload_n C dX10_tellWords_21 rfl rfl ?_
    refine j_bipush (v := nI 7) C dX10_tellWords_22 (by decide +kernel) ?_
    refine j_iandN C 3 dX10_tellWords_24 (by omega) (by decide +kernel) ?_
    refine j_imulN C dX10_tellWords_25 ?_
    refine j_lushr C dX10_tellWords_26 (by omega) ?_
    refine j_l2i C dX10_tellWords_27 ?_
    refine j_sipush (v := nI 255) C dX10_tellWords_28 (by decide +kernel) ?_
    refine j_iand C dX10_tellWords_31 ?_
    refine j_top (v := .int (nI (((zus (z1.1 4 (p + (j1 / 2 ^ 3))) (8 * (j1 % 2 ^ 3))).toInt32).toBitVec.toNat % 2 ^ 8))) (congrArg Value.int (pk_and _ 8 (by decide +kernel))) ?_
    refine j_callV0 (T := TX10) (N := 23) C dX10_tellWords_32 (k_X10_tell l D kc ad (nI (((zus (z1.1 4 (p + (j1 / 2 ^ 3))) (8 * (j1 % 2 ^ 3))).toInt32).toBitVec.toNat % 2 ^ 8)) (M0 + j1) _ hIj1 (by omega)) zy_X10_tell mw_36_8 rfl rfl (Nat.zero_le _) (show 17 < 18 by decide) rfl rfl (Nat.le_of_ble_eq_true rfl) ⟨rfl, rfl, Nat.le_of_ble_eq_true rfl, Nat.le_of_ble_eq_true rfl⟩ ?_
    refine j_nmS (fun t3 et3 => ?_)
    refine j_iincN (b := 1) C dX10_tellWords_35 rfl (by decide +kernel) (by decide) ?_
    refine j_goto (tgt := 2) C dX10_tellWords_38 (by decide) ?_
    refine j_nmS (fun t4 et4 => ?_)
    refine j_at [(0, .ref (zad (wM D kc ad) 17)), (1, .int (nI (p))), (2, .int (nI (j1 + 1)))] ⟨rfl, rfl, rfl, trivial⟩ ?_
    have eF : (fX10_tellWords_2 p M0) j1 z1 = t4 := by rw [et4]; (try rw [et3]); unfold fX10_tellWords_2; first | done | (dsimp only; done) | rfl
    exact Eq.mp (congrArg (fun (z5 : zSt) => zJ κ (wM D kc ad) 2 (zlof [(0, .ref (zad (wM D kc ad) 17)), (1, .int (nI (p))), (2, .int (nI (j1 + 1)))]) [] z5) eF) (k0 ((tell_len _ _ _)))
  · intro hIj1
    revert hIj1
    refine z_nm (P := fun (z1 : zSt) => (fun j1 z1 => z1.2.2 5 = nI (M0 + j1)) 32 z1 → zJ κ (wM D kc ad) 2 (zlof [(0, .ref (zad (wM D kc ad) 17)), (1, .int (nI (p))), (2, .int (nI (32)))]) [] z1) (fun u6 eu6 => ?_)
    intro hIj1
    refine j_iload_n C dX10_tellWords_2 rfl rfl ?_
    refine j_bipush (v := nI 32) C dX10_tellWords_3 (by decide +kernel) ?_
    refine j_icmp_geN (tgt := 41) C dX10_tellWords_5 (by decide) (by omega) (by omega) (fun q7 => ?_) (fun q7 => False.elim (by omega))
    exact j_vret (st := []) C R0 dX10_tellWords_41 ⟨rfl, (by (try rw [eu6]); unfold fX10_tellWords; (try dsimp only); all_goals ((try simp only [zfst_mk, zsnd_mk]); all_goals rfl))⟩

def fX10_tellText_2 (M0 : Nat) (j1 : Nat) (z1 : zSt) : zSt :=
    let t3 := fX10_tell (z1.2.1 1 j1) (M0 + j1) z1
    t3
def fX10_tellText (M0 : Nat) (T0 : Nat) (s0 : zSt) : zSt :=
    let u6 := ziter (fX10_tellText_2 M0) 0 T0 s0
    u6
set_option maxHeartbeats 4000000 in
set_option maxRecDepth 100000 in
theorem k_X10_tellText (l : Launch) (D : va_G) (kc : Nat → ClassId) (ad : Nat → Nat) (M0 : Nat) (T0 : Nat) (s0 : zSt) (hlen : s0.2.2 5 = nI M0) (htx : s0.2.2 0 = nI T0) (hroom : M0 + T0 ≤ 768) (hT0 : T0 ≤ 400) : zM l yX10_tellText cX10_tellText 2 none rX10_tellText (wM D kc ad) [.ref (zad (wM D kc ad) 17)] s0 (zV0 (fX10_tellText M0 T0 s0)) := by
  refine z_of (own := RX10) (by decide +kernel) rfl (Nat.le_of_ble_eq_true rfl) ?_
  intro κ C R0
  refine j_at [(0, .ref (zad (wM D kc ad) 17))] ⟨rfl, trivial⟩ ?_
  refine j_iconst (v := nI 0) C dX10_tellText_0 (by decide +kernel) ?_
  refine j_istore_n C dX10_tellText_1 rfl (by decide) ?_
  refine j_at [(0, .ref (zad (wM D kc ad) 17)), (1, .int (nI (0)))] ⟨rfl, rfl, trivial⟩ ?_
  refine z_up (α := zSt) (fun (j1 : Nat) (z1 : zSt) => zJ κ (wM D kc ad) 2 (zlof [(0, .ref (zad (wM D kc ad) 17)), (1, .int (nI (j1)))]) [] z1) (fX10_tellText_2 M0) (fun j1 z1 => z1.2.2 5 = nI (M0 + j1) ∧ z1.2.2 0 = nI T0) T0 ?_ (fun i x _ h => ⟨tell_len _ _ _, (tell_oth _ _ _ 0 (by decide)).trans h.2⟩) T0 0 s0 (by omega) (⟨hlen, htx⟩) ?_
  · intro j1 z1 hj1 hIj1 k0
    refine j_iload_n C dX10_tellText_2 rfl rfl ?_
    refine j_aload_n C dX10_tellText_3 rfl rfl ?_
    refine j_getI C dX10_tellText_4 (fx_RX10_203 D kc ad) (Nat.zero_le _) (show 17 < 18 by decide) ?_
    refine j_top (v := .int (nI (T0))) (congrArg Value.int (hIj1.2)) ?_
    refine j_icmp_geN (tgt := 26) C dX10_tellText_7 (by decide) (by omega) (by omega) (fun q2 => False.elim (by omega)) (fun q2 => ?_)
    refine j_aload_n C dX10_tellText_10 rfl rfl ?_
    refine j_aload_n C dX10_tellText_11 rfl rfl ?_
    refine j_getR C dX10_tellText_12 (fx_RX10_13 D kc ad) (Nat.zero_le _) (show 17 < 18 by decide) ?_
    refine j_iload_n C dX10_tellText_15 rfl rfl ?_
    refine m_iald C dX10_tellText_16 (⟨rfl, rfl, by decide, by decide⟩ : mi 400 1) (by omega) ?_
    refine j_callV0 (T := TX10) (N := 23) C dX10_tellText_17 (k_X10_tell l D kc ad (z1.2.1 1 j1) (M0 + j1) _ hIj1.1 (by omega)) zy_X10_tell mw_36_8 rfl rfl (Nat.zero_le _) (show 17 < 18 by decide) rfl rfl (Nat.le_of_ble_eq_true rfl) ⟨rfl, rfl, Nat.le_of_ble_eq_true rfl, Nat.le_of_ble_eq_true rfl⟩ ?_
    refine j_nmS (fun t3 et3 => ?_)
    refine j_iincN (b := 1) C dX10_tellText_20 rfl (by decide +kernel) (by decide) ?_
    refine j_goto (tgt := 2) C dX10_tellText_23 (by decide) ?_
    refine j_nmS (fun t4 et4 => ?_)
    refine j_at [(0, .ref (zad (wM D kc ad) 17)), (1, .int (nI (j1 + 1)))] ⟨rfl, rfl, trivial⟩ ?_
    have eF : (fX10_tellText_2 M0) j1 z1 = t4 := by rw [et4]; (try rw [et3]); unfold fX10_tellText_2; first | done | (dsimp only; done) | rfl
    exact Eq.mp (congrArg (fun (z5 : zSt) => zJ κ (wM D kc ad) 2 (zlof [(0, .ref (zad (wM D kc ad) 17)), (1, .int (nI (j1 + 1)))]) [] z5) eF) (k0 (⟨tell_len _ _ _, (tell_oth _ _ _ 0 (by decide)).trans hIj1.2⟩))
  · intro hIj1
    revert hIj1
    refine z_nm (P := fun (z1 : zSt) => (fun j1 z1 => z1.2.2 5 = nI (M0 + j1) ∧ z1.2.2 0 = nI T0) T0 z1 → zJ κ (wM D kc ad) 2 (zlof [(0, .ref (zad (wM D kc ad) 17)), (1, .int (nI (T0)))]) [] z1) (fun u6 eu6 => ?_)
    intro hIj1
    refine j_iload_n C dX10_tellText_2 rfl rfl ?_
    refine j_aload_n C dX10_tellText_3 rfl rfl ?_
    refine j_getI C dX10_tellText_4 (fx_RX10_203 D kc ad) (Nat.zero_le _) (show 17 < 18 by decide) ?_
    refine j_top (v := .int (nI (T0))) (congrArg Value.int (hIj1.2)) ?_
    refine j_icmp_geN (tgt := 26) C dX10_tellText_7 (by decide) (by omega) (by omega) (fun q7 => ?_) (fun q7 => False.elim (by omega))
    exact j_vret (st := []) C R0 dX10_tellText_26 ⟨rfl, (by (try rw [eu6]); unfold fX10_tellText; (try dsimp only); all_goals ((try simp only [zfst_mk, zsnd_mk]); all_goals rfl))⟩

def vX10_turned (x : Int64) (k : Nat) (s0 : zSt) : Int64 :=
    (zus x k) ||| (zsl x (64 - k))
set_option maxHeartbeats 4000000 in
set_option maxRecDepth 100000 in
theorem k_X10_turned (l : Launch) (D : va_G) (kc : Nat → ClassId) (ad : Nat → Nat) (x : Int64) (k : Nat) (hk : 1 ≤ k ∧ k < 64) (s0 : zSt) : zM l yX10_turned cX10_turned 3 (some .long) rX10_turned (wM D kc ad) [.long x, .int (nI (k))] s0 (zV1 (.long (vX10_turned x k s0)) s0) := by
  refine z_of (own := RX10) (by decide +kernel) rfl (Nat.le_of_ble_eq_true rfl) ?_
  intro κ C R0
  refine j_at [(0, .long x), (2, .int (nI (k)))] ⟨rfl, rfl, trivial⟩ ?_
  refine j_lload_n C dX10_turned_0 rfl rfl ?_
  refine j_iload_n C dX10_turned_1 rfl rfl ?_
  refine j_lushr C dX10_turned_2 (by omega) ?_
  refine j_lload_n C dX10_turned_3 rfl rfl ?_
  refine j_bipush (v := nI 64) C dX10_turned_4 (by decide +kernel) ?_
  refine j_iload_n C dX10_turned_6 rfl rfl ?_
  refine j_isubN C dX10_turned_7 (by omega) ?_
  refine j_lshl C dX10_turned_8 (by omega) ?_
  refine j_lor C dX10_turned_9 ?_
  exact j_lret (st := []) C R0 dX10_turned_10 ⟨(by unfold vX10_turned; (try dsimp only); all_goals ((try simp only [zfst_mk, zsnd_mk]); all_goals rfl)), ((by rfl))⟩

def fX10_block_13 (b0 : Nat) (i1 : Nat) (z2 : zSt) (i5 : Nat) (z6 : Int64) : Int64 :=
    let x8 := (zsl z6 8) ||| ((z2.2.1 10 ((b0 + (8 * i1)) + i5)).toInt64)
    x8
def fX10_block_2 (b0 : Nat) (i1 : Nat) (z2 : zSt) : zSt :=
    let x4 := (0 : Int64)
    let u11 := ziter (fX10_block_13 b0 i1 z2) 0 8 x4
    let t13 := zW z2 11 i1 u11
    t13
def fX10_block_63  (i18 : Nat) (z19 : zSt) : zSt :=
    let x21 := z19.1 11 (i18 - 15)
    let x22 := z19.1 11 (i18 - 2)
    let t23 := zW z19 11 i18 ((((z19.1 11 (i18 - 16)) + (((vX10_turned x21 1 z19) ^^^ (vX10_turned x21 8 z19)) ^^^ (zus x21 7))) + (z19.1 11 (i18 - 7))) + (((vX10_turned x22 19 z19) ^^^ (vX10_turned x22 61 z19)) ^^^ (zus x22 6)))
    t23
def fX10_block_162  (i28 : Nat) (z29 : zSt) : zSt :=
    let t31 := zW z29 13 i28 (z29.1 12 i28)
    t31
def fX10_block_368  (i41 : Nat) (z42 : zSt) : zSt :=
    let t44 := zW z42 13 (i41 + 1) (z42.1 13 ((i41 + 1) - 1))
    t44
def fX10_block_188  (i36 : Nat) (z37 : zSt) : zSt :=
    let x39 := ((((z37.1 13 7) + (((vX10_turned (z37.1 13 4) 14 z37) ^^^ (vX10_turned (z37.1 13 4) 18 z37)) ^^^ (vX10_turned (z37.1 13 4) 41 z37))) + (((z37.1 13 4) &&& (z37.1 13 5)) ^^^ (((z37.1 13 4) ^^^ ((-1 : Int64))) &&& (z37.1 13 6)))) + (z37.1 6 i36)) + (z37.1 11 i36)
    let x40 := (((vX10_turned (z37.1 13 0) 28 z37) ^^^ (vX10_turned (z37.1 13 0) 34 z37)) ^^^ (vX10_turned (z37.1 13 0) 39 z37)) + ((((z37.1 13 0) &&& (z37.1 13 1)) ^^^ ((z37.1 13 0) &&& (z37.1 13 2))) ^^^ ((z37.1 13 1) &&& (z37.1 13 2)))
    let u47 := zdown fX10_block_368 7 z37
    let t49 := zW u47 13 4 ((u47.1 13 4) + x39)
    let t50 := zW t49 13 0 (x39 + x40)
    t50
def fX10_block_423  (i55 : Nat) (z56 : zSt) : zSt :=
    let t58 := zW z56 12 i55 ((z56.1 12 i55) + (z56.1 13 i55))
    t58
def fX10_block (b0 : Nat) (s0 : zSt) : zSt :=
    let u16 := ziter (fX10_block_2 b0) 0 16 s0
    let u26 := ziter fX10_block_63 16 64 u16
    let u34 := ziter fX10_block_162 0 8 u26
    let u53 := ziter fX10_block_188 0 80 u34
    let u61 := ziter fX10_block_423 0 8 u53
    u61
set_option maxHeartbeats 4000000 in
set_option maxRecDepth 100000 in
theorem k_X10_block (l : Launch) (D : va_G) (kc : Nat → ClassId) (ad : Nat → Nat) (b0 : Nat) (hb0 : b0 ≤ 640) (s0 : zSt) : zM l yX10_block cX10_block 8 none rX10_block (wM D kc ad) [.ref (zad (wM D kc ad) 17), .int (nI (b0))] s0 (zV0 (fX10_block b0 s0)) := by
  refine z_of (own := RX10) (by decide +kernel) rfl (Nat.le_of_ble_eq_true rfl) ?_
  intro κ C R0
  refine j_at [(0, .ref (zad (wM D kc ad) 17)), (1, .int (nI (b0)))] ⟨rfl, rfl, trivial⟩ ?_
  refine j_iconst (v := nI 0) C dX10_block_0 (by decide +kernel) ?_
  refine j_istore_n C dX10_block_1 rfl (by decide) ?_
  refine j_at [(0, .ref (zad (wM D kc ad) 17)), (1, .int (nI (b0))), (2, .int (nI (0)))] ⟨rfl, rfl, rfl, trivial⟩ ?_
  refine z_up (α := zSt) (fun (i1 : Nat) (z2 : zSt) => zJ κ (wM D kc ad) 2 (zlof [(0, .ref (zad (wM D kc ad) 17)), (1, .int (nI (b0))), (2, .int (nI (i1)))]) [] z2) (fX10_block_2 b0) (fun _ _ => True) 16 ?_ (fun _ _ _ _ => trivial) 16 0 s0 (by omega) trivial ?_
  · intro i1 z2 hi1 hIi1 k0
    refine j_iload_n C dX10_block_2 rfl rfl ?_
    refine j_bipush (v := nI 16) C dX10_block_3 (by decide +kernel) ?_
    refine j_icmp_geN (tgt := 60) C dX10_block_5 (by decide) (by omega) (by omega) (fun q3 => False.elim (by omega)) (fun q3 => ?_)
    refine j_lconst (v := 0) C dX10_block_8 rfl ?_
    refine j_nmL (fun x4 ex4 => ?_)
    refine j_lstore_n C dX10_block_9 rfl (by decide) ?_
    refine j_iconst (v := nI 0) C dX10_block_10 (by decide +kernel) ?_
    refine j_istore C dX10_block_11 (by decide) ?_
    refine j_at [(0, .ref (zad (wM D kc ad) 17)), (1, .int (nI (b0))), (2, .int (nI (i1))), (3, .long x4), (5, .int (nI (0)))] ⟨rfl, rfl, rfl, rfl, rfl, trivial⟩ ?_
    refine z_up (α := Int64) (fun (i5 : Nat) (z6 : Int64) => zJ κ (wM D kc ad) 13 (zlof [(0, .ref (zad (wM D kc ad) 17)), (1, .int (nI (b0))), (2, .int (nI (i1))), (3, .long z6), (5, .int (nI (i5)))]) [] z2) (fX10_block_13 b0 i1 z2) (fun _ _ => True) 8 ?_ (fun _ _ _ _ => trivial) 8 0 x4 (by omega) trivial ?_
    · intro i5 z6 hi5 hIi5 k0
      refine j_iload C dX10_block_13 rfl ?_
      refine j_bipush (v := nI 8) C dX10_block_15 (by decide +kernel) ?_
      refine j_icmp_geN (tgt := 47) C dX10_block_17 (by decide) (by omega) (by omega) (fun q7 => False.elim (by omega)) (fun q7 => ?_)
      refine j_lload_n C dX10_block_20 rfl rfl ?_
      refine j_bipush (v := nI 8) C dX10_block_21 (by decide +kernel) ?_
      refine j_lshl C dX10_block_23 (by omega) ?_
      refine j_aload_n C dX10_block_24 rfl rfl ?_
      refine j_getR C dX10_block_25 (fx_RX10_45 D kc ad) (Nat.zero_le _) (show 17 < 18 by decide) ?_
      refine j_iload_n C dX10_block_28 rfl rfl ?_
      refine j_bipush (v := nI 8) C dX10_block_29 (by decide +kernel) ?_
      refine j_iload_n C dX10_block_31 rfl rfl ?_
      refine j_imulN C dX10_block_32 ?_
      refine j_iaddN C dX10_block_33 ?_
      refine j_iload C dX10_block_34 rfl ?_
      refine j_iaddN C dX10_block_36 ?_
      refine m_iald C dX10_block_37 (⟨rfl, rfl, by decide, by decide⟩ : mi 768 10) (by omega) ?_
      refine j_i2l C dX10_block_38 ?_
      refine j_lor C dX10_block_39 ?_
      refine j_nmL (fun x8 ex8 => ?_)
      refine j_lstore_n C dX10_block_40 rfl (by decide) ?_
      refine j_iincN (b := 1) C dX10_block_41 rfl (by decide +kernel) (by decide) ?_
      refine j_goto (tgt := 13) C dX10_block_44 (by decide) ?_
      refine j_at [(0, .ref (zad (wM D kc ad) 17)), (1, .int (nI (b0))), (2, .int (nI (i1))), (3, .long x8), (5, .int (nI (i5 + 1)))] ⟨rfl, rfl, rfl, rfl, rfl, trivial⟩ ?_
      have eF : (fX10_block_13 b0 i1 z2) i5 z6 = x8 := by (try rw [ex8]); unfold fX10_block_13; first | done | (dsimp only; done) | rfl
      exact Eq.mp (congrArg (fun (z10 : Int64) => zJ κ (wM D kc ad) 13 (zlof [(0, .ref (zad (wM D kc ad) 17)), (1, .int (nI (b0))), (2, .int (nI (i1))), (3, .long z10), (5, .int (nI (i5 + 1)))]) [] z2) eF) (k0 trivial)
    · intro hIi5
      refine z_nm (P := fun (z6 : Int64) => zJ κ (wM D kc ad) 13 (zlof [(0, .ref (zad (wM D kc ad) 17)), (1, .int (nI (b0))), (2, .int (nI (i1))), (3, .long z6), (5, .int (nI (8)))]) [] z2) (fun u11 eu11 => ?_)
      refine j_iload C dX10_block_13 rfl ?_
      refine j_bipush (v := nI 8) C dX10_block_15 (by decide +kernel) ?_
      refine j_icmp_geN (tgt := 47) C dX10_block_17 (by decide) (by omega) (by omega) (fun q12 => ?_) (fun q12 => False.elim (by omega))
      refine j_aload_n C dX10_block_47 rfl rfl ?_
      refine j_getR C dX10_block_48 (fx_RX10_48 D kc ad) (Nat.zero_le _) (show 17 < 18 by decide) ?_
      refine j_iload_n C dX10_block_51 rfl rfl ?_
      refine j_lload_n C dX10_block_52 rfl rfl ?_
      refine m_last C dX10_block_53 (⟨rfl, rfl, by decide, by decide⟩ : ma 80 11) (by omega) ?_
      refine j_nmS (fun t13 et13 => ?_)
      refine j_iincN (b := 1) C dX10_block_54 rfl (by decide +kernel) (by decide) ?_
      refine j_goto (tgt := 2) C dX10_block_57 (by decide) ?_
      refine j_nmS (fun t14 et14 => ?_)
      refine j_at [(0, .ref (zad (wM D kc ad) 17)), (1, .int (nI (b0))), (2, .int (nI (i1 + 1)))] ⟨rfl, rfl, rfl, trivial⟩ ?_
      have eF : (fX10_block_2 b0) i1 z2 = t14 := by rw [et14]; (try rw [et13]); (try rw [eu11]); (try rw [ex4]); unfold fX10_block_2; first | done | (dsimp only; done) | rfl
      exact Eq.mp (congrArg (fun (z15 : zSt) => zJ κ (wM D kc ad) 2 (zlof [(0, .ref (zad (wM D kc ad) 17)), (1, .int (nI (b0))), (2, .int (nI (i1 + 1)))]) [] z15) eF) (k0 trivial)
  · intro hIi1
    refine z_nm (P := fun (z2 : zSt) => zJ κ (wM D kc ad) 2 (zlof [(0, .ref (zad (wM D kc ad) 17)), (1, .int (nI (b0))), (2, .int (nI (16)))]) [] z2) (fun u16 eu16 => ?_)
    refine j_iload_n C dX10_block_2 rfl rfl ?_
    refine j_bipush (v := nI 16) C dX10_block_3 (by decide +kernel) ?_
    refine j_icmp_geN (tgt := 60) C dX10_block_5 (by decide) (by omega) (by omega) (fun q17 => ?_) (fun q17 => False.elim (by omega))
    refine j_bipush (v := nI 16) C dX10_block_60 (by decide +kernel) ?_
    refine j_istore_n C dX10_block_62 rfl (by decide) ?_
    refine j_at [(0, .ref (zad (wM D kc ad) 17)), (2, .int (nI (16)))] ⟨rfl, rfl, trivial⟩ ?_
    refine z_up (α := zSt) (fun (i18 : Nat) (z19 : zSt) => zJ κ (wM D kc ad) 63 (zlof [(0, .ref (zad (wM D kc ad) 17)), (2, .int (nI (i18)))]) [] z19) fX10_block_63 (fun i18 z19 => 16 ≤ i18) 80 ?_ (fun _ _ _ h => by omega) 64 16 u16 (by omega) ((Nat.le_refl _)) ?_
    · intro i18 z19 hi18 hIi18 k0
      refine j_iload_n C dX10_block_63 rfl rfl ?_
      refine j_bipush (v := nI 80) C dX10_block_64 (by decide +kernel) ?_
      refine j_icmp_geN (tgt := 160) C dX10_block_66 (by decide) (by omega) (by omega) (fun q20 => False.elim (by omega)) (fun q20 => ?_)
      refine j_aload_n C dX10_block_69 rfl rfl ?_
      refine j_getR C dX10_block_70 (fx_RX10_48 D kc ad) (Nat.zero_le _) (show 17 < 18 by decide) ?_
      refine j_iload_n C dX10_block_73 rfl rfl ?_
      refine j_bipush (v := nI 15) C dX10_block_74 (by decide +kernel) ?_
      refine j_isubN C dX10_block_76 (by omega) ?_
      refine m_lald C dX10_block_77 (⟨rfl, rfl, by decide, by decide⟩ : ma 80 11) (by omega) ?_
      refine j_nmL (fun x21 ex21 => ?_)
      refine j_lstore_n C dX10_block_78 rfl (by decide) ?_
      refine j_aload_n C dX10_block_79 rfl rfl ?_
      refine j_getR C dX10_block_80 (fx_RX10_48 D kc ad) (Nat.zero_le _) (show 17 < 18 by decide) ?_
      refine j_iload_n C dX10_block_83 rfl rfl ?_
      refine j_iconst (v := nI 2) C dX10_block_84 (by decide +kernel) ?_
      refine j_isubN C dX10_block_85 (by omega) ?_
      refine m_lald C dX10_block_86 (⟨rfl, rfl, by decide, by decide⟩ : ma 80 11) (by omega) ?_
      refine j_nmL (fun x22 ex22 => ?_)
      refine j_lstore C dX10_block_87 (by decide) ?_
      refine j_aload_n C dX10_block_89 rfl rfl ?_
      refine j_getR C dX10_block_90 (fx_RX10_48 D kc ad) (Nat.zero_le _) (show 17 < 18 by decide) ?_
      refine j_iload_n C dX10_block_93 rfl rfl ?_
      refine j_aload_n C dX10_block_94 rfl rfl ?_
      refine j_getR C dX10_block_95 (fx_RX10_48 D kc ad) (Nat.zero_le _) (show 17 < 18 by decide) ?_
      refine j_iload_n C dX10_block_98 rfl rfl ?_
      refine j_bipush (v := nI 16) C dX10_block_99 (by decide +kernel) ?_
      refine j_isubN C dX10_block_101 (by omega) ?_
      refine m_lald C dX10_block_102 (⟨rfl, rfl, by decide, by decide⟩ : ma 80 11) (by omega) ?_
      refine j_lload_n C dX10_block_103 rfl rfl ?_
      refine j_iconst (v := nI 1) C dX10_block_104 (by decide +kernel) ?_
      refine j_callS1 C dX10_block_105 (k_X10_turned l D kc ad x21 1 (by omega) _ ) zy_X10_turned mw_36_21 rfl rfl (Nat.le_of_ble_eq_true rfl) ⟨rfl, rfl, Nat.le_of_ble_eq_true rfl, Nat.le_of_ble_eq_true rfl⟩ ?_
      refine j_lload_n C dX10_block_108 rfl rfl ?_
      refine j_bipush (v := nI 8) C dX10_block_109 (by decide +kernel) ?_
      refine j_callS1 C dX10_block_111 (k_X10_turned l D kc ad x21 8 (by omega) _ ) zy_X10_turned mw_36_21 rfl rfl (Nat.le_of_ble_eq_true rfl) ⟨rfl, rfl, Nat.le_of_ble_eq_true rfl, Nat.le_of_ble_eq_true rfl⟩ ?_
      refine j_lxor C dX10_block_114 ?_
      refine j_lload_n C dX10_block_115 rfl rfl ?_
      refine j_bipush (v := nI 7) C dX10_block_116 (by decide +kernel) ?_
      refine j_lushr C dX10_block_118 (by omega) ?_
      refine j_lxor C dX10_block_119 ?_
      refine j_ladd C dX10_block_120 ?_
      refine j_aload_n C dX10_block_121 rfl rfl ?_
      refine j_getR C dX10_block_122 (fx_RX10_48 D kc ad) (Nat.zero_le _) (show 17 < 18 by decide) ?_
      refine j_iload_n C dX10_block_125 rfl rfl ?_
      refine j_bipush (v := nI 7) C dX10_block_126 (by decide +kernel) ?_
      refine j_isubN C dX10_block_128 (by omega) ?_
      refine m_lald C dX10_block_129 (⟨rfl, rfl, by decide, by decide⟩ : ma 80 11) (by omega) ?_
      refine j_ladd C dX10_block_130 ?_
      refine j_lload C dX10_block_131 rfl ?_
      refine j_bipush (v := nI 19) C dX10_block_133 (by decide +kernel) ?_
      refine j_callS1 C dX10_block_135 (k_X10_turned l D kc ad x22 19 (by omega) _ ) zy_X10_turned mw_36_21 rfl rfl (Nat.le_of_ble_eq_true rfl) ⟨rfl, rfl, Nat.le_of_ble_eq_true rfl, Nat.le_of_ble_eq_true rfl⟩ ?_
      refine j_lload C dX10_block_138 rfl ?_
      refine j_bipush (v := nI 61) C dX10_block_140 (by decide +kernel) ?_
      refine j_callS1 C dX10_block_142 (k_X10_turned l D kc ad x22 61 (by omega) _ ) zy_X10_turned mw_36_21 rfl rfl (Nat.le_of_ble_eq_true rfl) ⟨rfl, rfl, Nat.le_of_ble_eq_true rfl, Nat.le_of_ble_eq_true rfl⟩ ?_
      refine j_lxor C dX10_block_145 ?_
      refine j_lload C dX10_block_146 rfl ?_
      refine j_bipush (v := nI 6) C dX10_block_148 (by decide +kernel) ?_
      refine j_lushr C dX10_block_150 (by omega) ?_
      refine j_lxor C dX10_block_151 ?_
      refine j_ladd C dX10_block_152 ?_
      refine m_last C dX10_block_153 (⟨rfl, rfl, by decide, by decide⟩ : ma 80 11) (by omega) ?_
      refine j_nmS (fun t23 et23 => ?_)
      refine j_iincN (b := 1) C dX10_block_154 rfl (by decide +kernel) (by decide) ?_
      refine j_goto (tgt := 63) C dX10_block_157 (by decide) ?_
      refine j_nmS (fun t24 et24 => ?_)
      refine j_at [(0, .ref (zad (wM D kc ad) 17)), (2, .int (nI (i18 + 1)))] ⟨rfl, rfl, trivial⟩ ?_
      have eF : fX10_block_63 i18 z19 = t24 := by rw [et24]; (try rw [et23]); (try rw [ex22]); (try rw [ex21]); unfold fX10_block_63; first | done | (dsimp only; done) | rfl
      exact Eq.mp (congrArg (fun (z25 : zSt) => zJ κ (wM D kc ad) 63 (zlof [(0, .ref (zad (wM D kc ad) 17)), (2, .int (nI (i18 + 1)))]) [] z25) eF) (k0 ((by omega)))
    · intro hIi18
      revert hIi18
      refine z_nm (P := fun (z19 : zSt) => (fun i18 z19 => 16 ≤ i18) 80 z19 → zJ κ (wM D kc ad) 63 (zlof [(0, .ref (zad (wM D kc ad) 17)), (2, .int (nI (80)))]) [] z19) (fun u26 eu26 => ?_)
      intro hIi18
      refine j_iload_n C dX10_block_63 rfl rfl ?_
      refine j_bipush (v := nI 80) C dX10_block_64 (by decide +kernel) ?_
      refine j_icmp_geN (tgt := 160) C dX10_block_66 (by decide) (by omega) (by omega) (fun q27 => ?_) (fun q27 => False.elim (by omega))
      refine j_iconst (v := nI 0) C dX10_block_160 (by decide +kernel) ?_
      refine j_istore_n C dX10_block_161 rfl (by decide) ?_
      refine j_at [(0, .ref (zad (wM D kc ad) 17)), (2, .int (nI (0)))] ⟨rfl, rfl, trivial⟩ ?_
      refine z_up (α := zSt) (fun (i28 : Nat) (z29 : zSt) => zJ κ (wM D kc ad) 162 (zlof [(0, .ref (zad (wM D kc ad) 17)), (2, .int (nI (i28)))]) [] z29) fX10_block_162 (fun _ _ => True) 8 ?_ (fun _ _ _ _ => trivial) 8 0 u26 (by omega) trivial ?_
      · intro i28 z29 hi28 hIi28 k0
        refine j_iload_n C dX10_block_162 rfl rfl ?_
        refine j_bipush (v := nI 8) C dX10_block_163 (by decide +kernel) ?_
        refine j_icmp_geN (tgt := 186) C dX10_block_165 (by decide) (by omega) (by omega) (fun q30 => False.elim (by omega)) (fun q30 => ?_)
        refine j_aload_n C dX10_block_168 rfl rfl ?_
        refine j_getR C dX10_block_169 (fx_RX10_54 D kc ad) (Nat.zero_le _) (show 17 < 18 by decide) ?_
        refine j_iload_n C dX10_block_172 rfl rfl ?_
        refine j_aload_n C dX10_block_173 rfl rfl ?_
        refine j_getR C dX10_block_174 (fx_RX10_51 D kc ad) (Nat.zero_le _) (show 17 < 18 by decide) ?_
        refine j_iload_n C dX10_block_177 rfl rfl ?_
        refine m_lald C dX10_block_178 (⟨rfl, rfl, by decide, by decide⟩ : ma 8 12) (by omega) ?_
        refine m_last C dX10_block_179 (⟨rfl, rfl, by decide, by decide⟩ : ma 8 13) (by omega) ?_
        refine j_nmS (fun t31 et31 => ?_)
        refine j_iincN (b := 1) C dX10_block_180 rfl (by decide +kernel) (by decide) ?_
        refine j_goto (tgt := 162) C dX10_block_183 (by decide) ?_
        refine j_nmS (fun t32 et32 => ?_)
        refine j_at [(0, .ref (zad (wM D kc ad) 17)), (2, .int (nI (i28 + 1)))] ⟨rfl, rfl, trivial⟩ ?_
        have eF : fX10_block_162 i28 z29 = t32 := by rw [et32]; (try rw [et31]); unfold fX10_block_162; first | done | (dsimp only; done) | rfl
        exact Eq.mp (congrArg (fun (z33 : zSt) => zJ κ (wM D kc ad) 162 (zlof [(0, .ref (zad (wM D kc ad) 17)), (2, .int (nI (i28 + 1)))]) [] z33) eF) (k0 trivial)
      · intro hIi28
        refine z_nm (P := fun (z29 : zSt) => zJ κ (wM D kc ad) 162 (zlof [(0, .ref (zad (wM D kc ad) 17)), (2, .int (nI (8)))]) [] z29) (fun u34 eu34 => ?_)
        refine j_iload_n C dX10_block_162 rfl rfl ?_
        refine j_bipush (v := nI 8) C dX10_block_163 (by decide +kernel) ?_
        refine j_icmp_geN (tgt := 186) C dX10_block_165 (by decide) (by omega) (by omega) (fun q35 => ?_) (fun q35 => False.elim (by omega))
        refine j_iconst (v := nI 0) C dX10_block_186 (by decide +kernel) ?_
        refine j_istore_n C dX10_block_187 rfl (by decide) ?_
        refine j_at [(0, .ref (zad (wM D kc ad) 17)), (2, .int (nI (0)))] ⟨rfl, rfl, trivial⟩ ?_
        refine z_up (α := zSt) (fun (i36 : Nat) (z37 : zSt) => zJ κ (wM D kc ad) 188 (zlof [(0, .ref (zad (wM D kc ad) 17)), (2, .int (nI (i36)))]) [] z37) fX10_block_188 (fun _ _ => True) 80 ?_ (fun _ _ _ _ => trivial) 80 0 u34 (by omega) trivial ?_
        · intro i36 z37 hi36 hIi36 k0
          refine j_iload_n C dX10_block_188 rfl rfl ?_
          refine j_bipush (v := nI 80) C dX10_block_189 (by decide +kernel) ?_
          refine j_icmp_geN (tgt := 421) C dX10_block_191 (by decide) (by omega) (by omega) (fun q38 => False.elim (by omega)) (fun q38 => ?_)
          refine j_aload_n C dX10_block_194 rfl rfl ?_
          refine j_getR C dX10_block_195 (fx_RX10_54 D kc ad) (Nat.zero_le _) (show 17 < 18 by decide) ?_
          refine j_bipush (v := nI 7) C dX10_block_198 (by decide +kernel) ?_
          refine m_lald C dX10_block_200 (⟨rfl, rfl, by decide, by decide⟩ : ma 8 13) (by omega) ?_
          refine j_aload_n C dX10_block_201 rfl rfl ?_
          refine j_getR C dX10_block_202 (fx_RX10_54 D kc ad) (Nat.zero_le _) (show 17 < 18 by decide) ?_
          refine j_iconst (v := nI 4) C dX10_block_205 (by decide +kernel) ?_
          refine m_lald C dX10_block_206 (⟨rfl, rfl, by decide, by decide⟩ : ma 8 13) (by omega) ?_
          refine j_bipush (v := nI 14) C dX10_block_207 (by decide +kernel) ?_
          refine j_callS1 C dX10_block_209 (k_X10_turned l D kc ad (z37.1 13 4) 14 (by omega) _ ) zy_X10_turned mw_36_21 rfl rfl (Nat.le_of_ble_eq_true rfl) ⟨rfl, rfl, Nat.le_of_ble_eq_true rfl, Nat.le_of_ble_eq_true rfl⟩ ?_
          refine j_aload_n C dX10_block_212 rfl rfl ?_
          refine j_getR C dX10_block_213 (fx_RX10_54 D kc ad) (Nat.zero_le _) (show 17 < 18 by decide) ?_
          refine j_iconst (v := nI 4) C dX10_block_216 (by decide +kernel) ?_
          refine m_lald C dX10_block_217 (⟨rfl, rfl, by decide, by decide⟩ : ma 8 13) (by omega) ?_
          refine j_bipush (v := nI 18) C dX10_block_218 (by decide +kernel) ?_
          refine j_callS1 C dX10_block_220 (k_X10_turned l D kc ad (z37.1 13 4) 18 (by omega) _ ) zy_X10_turned mw_36_21 rfl rfl (Nat.le_of_ble_eq_true rfl) ⟨rfl, rfl, Nat.le_of_ble_eq_true rfl, Nat.le_of_ble_eq_true rfl⟩ ?_
          refine j_lxor C dX10_block_223 ?_
          refine j_aload_n C dX10_block_224 rfl rfl ?_
          refine j_getR C dX10_block_225 (fx_RX10_54 D kc ad) (Nat.zero_le _) (show 17 < 18 by decide) ?_
          refine j_iconst (v := nI 4) C dX10_block_228 (by decide +kernel) ?_
          refine m_lald C dX10_block_229 (⟨rfl, rfl, by decide, by decide⟩ : ma 8 13) (by omega) ?_
          refine j_bipush (v := nI 41) C dX10_block_230 (by decide +kernel) ?_
          refine j_callS1 C dX10_block_232 (k_X10_turned l D kc ad (z37.1 13 4) 41 (by omega) _ ) zy_X10_turned mw_36_21 rfl rfl (Nat.le_of_ble_eq_true rfl) ⟨rfl, rfl, Nat.le_of_ble_eq_true rfl, Nat.le_of_ble_eq_true rfl⟩ ?_
          refine j_lxor C dX10_block_235 ?_
          refine j_ladd C dX10_block_236 ?_
          refine j_aload_n C dX10_block_237 rfl rfl ?_
          refine j_getR C dX10_block_238 (fx_RX10_54 D kc ad) (Nat.zero_le _) (show 17 < 18 by decide) ?_
          refine j_iconst (v := nI 4) C dX10_block_241 (by decide +kernel) ?_
          refine m_lald C dX10_block_242 (⟨rfl, rfl, by decide, by decide⟩ : ma 8 13) (by omega) ?_
          refine j_aload_n C dX10_block_243 rfl rfl ?_
          refine j_getR C dX10_block_244 (fx_RX10_54 D kc ad) (Nat.zero_le _) (show 17 < 18 by decide) ?_
          refine j_iconst (v := nI 5) C dX10_block_247 (by decide +kernel) ?_
          refine m_lald C dX10_block_248 (⟨rfl, rfl, by decide, by decide⟩ : ma 8 13) (by omega) ?_
          refine j_land C dX10_block_249 ?_
          refine j_aload_n C dX10_block_250 rfl rfl ?_
          refine j_getR C dX10_block_251 (fx_RX10_54 D kc ad) (Nat.zero_le _) (show 17 < 18 by decide) ?_
          refine j_iconst (v := nI 4) C dX10_block_254 (by decide +kernel) ?_
          refine m_lald C dX10_block_255 (⟨rfl, rfl, by decide, by decide⟩ : ma 8 13) (by omega) ?_
          refine j_ldc2 C dX10_block_256 mw_9_23 ?_
          refine j_lxor C dX10_block_259 ?_
          refine j_aload_n C dX10_block_260 rfl rfl ?_
          refine j_getR C dX10_block_261 (fx_RX10_54 D kc ad) (Nat.zero_le _) (show 17 < 18 by decide) ?_
          refine j_bipush (v := nI 6) C dX10_block_264 (by decide +kernel) ?_
          refine m_lald C dX10_block_266 (⟨rfl, rfl, by decide, by decide⟩ : ma 8 13) (by omega) ?_
          refine j_land C dX10_block_267 ?_
          refine j_lxor C dX10_block_268 ?_
          refine j_ladd C dX10_block_269 ?_
          refine j_aload_n C dX10_block_270 rfl rfl ?_
          refine j_getR C dX10_block_271 (fx_RX10_33 D kc ad) (Nat.zero_le _) (show 17 < 18 by decide) ?_
          refine j_iload_n C dX10_block_274 rfl rfl ?_
          refine m_lald C dX10_block_275 (⟨rfl, rfl, by decide, by decide⟩ : ma 80 6) (by omega) ?_
          refine j_ladd C dX10_block_276 ?_
          refine j_aload_n C dX10_block_277 rfl rfl ?_
          refine j_getR C dX10_block_278 (fx_RX10_48 D kc ad) (Nat.zero_le _) (show 17 < 18 by decide) ?_
          refine j_iload_n C dX10_block_281 rfl rfl ?_
          refine m_lald C dX10_block_282 (⟨rfl, rfl, by decide, by decide⟩ : ma 80 11) (by omega) ?_
          refine j_ladd C dX10_block_283 ?_
          refine j_nmL (fun x39 ex39 => ?_)
          refine j_lstore_n C dX10_block_284 rfl (by decide) ?_
          refine j_aload_n C dX10_block_285 rfl rfl ?_
          refine j_getR C dX10_block_286 (fx_RX10_54 D kc ad) (Nat.zero_le _) (show 17 < 18 by decide) ?_
          refine j_iconst (v := nI 0) C dX10_block_289 (by decide +kernel) ?_
          refine m_lald C dX10_block_290 (⟨rfl, rfl, by decide, by decide⟩ : ma 8 13) (by omega) ?_
          refine j_bipush (v := nI 28) C dX10_block_291 (by decide +kernel) ?_
          refine j_callS1 C dX10_block_293 (k_X10_turned l D kc ad (z37.1 13 0) 28 (by omega) _ ) zy_X10_turned mw_36_21 rfl rfl (Nat.le_of_ble_eq_true rfl) ⟨rfl, rfl, Nat.le_of_ble_eq_true rfl, Nat.le_of_ble_eq_true rfl⟩ ?_
          refine j_aload_n C dX10_block_296 rfl rfl ?_
          refine j_getR C dX10_block_297 (fx_RX10_54 D kc ad) (Nat.zero_le _) (show 17 < 18 by decide) ?_
          refine j_iconst (v := nI 0) C dX10_block_300 (by decide +kernel) ?_
          refine m_lald C dX10_block_301 (⟨rfl, rfl, by decide, by decide⟩ : ma 8 13) (by omega) ?_
          refine j_bipush (v := nI 34) C dX10_block_302 (by decide +kernel) ?_
          refine j_callS1 C dX10_block_304 (k_X10_turned l D kc ad (z37.1 13 0) 34 (by omega) _ ) zy_X10_turned mw_36_21 rfl rfl (Nat.le_of_ble_eq_true rfl) ⟨rfl, rfl, Nat.le_of_ble_eq_true rfl, Nat.le_of_ble_eq_true rfl⟩ ?_
          refine j_lxor C dX10_block_307 ?_
          refine j_aload_n C dX10_block_308 rfl rfl ?_
          refine j_getR C dX10_block_309 (fx_RX10_54 D kc ad) (Nat.zero_le _) (show 17 < 18 by decide) ?_
          refine j_iconst (v := nI 0) C dX10_block_312 (by decide +kernel) ?_
          refine m_lald C dX10_block_313 (⟨rfl, rfl, by decide, by decide⟩ : ma 8 13) (by omega) ?_
          refine j_bipush (v := nI 39) C dX10_block_314 (by decide +kernel) ?_
          refine j_callS1 C dX10_block_316 (k_X10_turned l D kc ad (z37.1 13 0) 39 (by omega) _ ) zy_X10_turned mw_36_21 rfl rfl (Nat.le_of_ble_eq_true rfl) ⟨rfl, rfl, Nat.le_of_ble_eq_true rfl, Nat.le_of_ble_eq_true rfl⟩ ?_
          refine j_lxor C dX10_block_319 ?_
          refine j_aload_n C dX10_block_320 rfl rfl ?_
          refine j_getR C dX10_block_321 (fx_RX10_54 D kc ad) (Nat.zero_le _) (show 17 < 18 by decide) ?_
          refine j_iconst (v := nI 0) C dX10_block_324 (by decide +kernel) ?_
          refine m_lald C dX10_block_325 (⟨rfl, rfl, by decide, by decide⟩ : ma 8 13) (by omega) ?_
          refine j_aload_n C dX10_block_326 rfl rfl ?_
          refine j_getR C dX10_block_327 (fx_RX10_54 D kc ad) (Nat.zero_le _) (show 17 < 18 by decide) ?_
          refine j_iconst (v := nI 1) C dX10_block_330 (by decide +kernel) ?_
          refine m_lald C dX10_block_331 (⟨rfl, rfl, by decide, by decide⟩ : ma 8 13) (by omega) ?_
          refine j_land C dX10_block_332 ?_
          refine j_aload_n C dX10_block_333 rfl rfl ?_
          refine j_getR C dX10_block_334 (fx_RX10_54 D kc ad) (Nat.zero_le _) (show 17 < 18 by decide) ?_
          refine j_iconst (v := nI 0) C dX10_block_337 (by decide +kernel) ?_
          refine m_lald C dX10_block_338 (⟨rfl, rfl, by decide, by decide⟩ : ma 8 13) (by omega) ?_
          refine j_aload_n C dX10_block_339 rfl rfl ?_
          refine j_getR C dX10_block_340 (fx_RX10_54 D kc ad) (Nat.zero_le _) (show 17 < 18 by decide) ?_
          refine j_iconst (v := nI 2) C dX10_block_343 (by decide +kernel) ?_
          refine m_lald C dX10_block_344 (⟨rfl, rfl, by decide, by decide⟩ : ma 8 13) (by omega) ?_
          refine j_land C dX10_block_345 ?_
          refine j_lxor C dX10_block_346 ?_
          refine j_aload_n C dX10_block_347 rfl rfl ?_
          refine j_getR C dX10_block_348 (fx_RX10_54 D kc ad) (Nat.zero_le _) (show 17 < 18 by decide) ?_
          refine j_iconst (v := nI 1) C dX10_block_351 (by decide +kernel) ?_
          refine m_lald C dX10_block_352 (⟨rfl, rfl, by decide, by decide⟩ : ma 8 13) (by omega) ?_
          refine j_aload_n C dX10_block_353 rfl rfl ?_
          refine j_getR C dX10_block_354 (fx_RX10_54 D kc ad) (Nat.zero_le _) (show 17 < 18 by decide) ?_
          refine j_iconst (v := nI 2) C dX10_block_357 (by decide +kernel) ?_
          refine m_lald C dX10_block_358 (⟨rfl, rfl, by decide, by decide⟩ : ma 8 13) (by omega) ?_
          refine j_land C dX10_block_359 ?_
          refine j_lxor C dX10_block_360 ?_
          refine j_ladd C dX10_block_361 ?_
          refine j_nmL (fun x40 ex40 => ?_)
          refine j_lstore C dX10_block_362 (by decide) ?_
          refine j_bipush (v := nI 7) C dX10_block_364 (by decide +kernel) ?_
          refine j_istore C dX10_block_366 (by decide) ?_
          refine j_at [(0, .ref (zad (wM D kc ad) 17)), (2, .int (nI (i36))), (3, .long x39), (5, .long x40), (7, .int (nI (7)))] ⟨rfl, rfl, rfl, rfl, rfl, trivial⟩ ?_
          refine z_dn (α := zSt) (fun (i41 : Nat) (z42 : zSt) => zJ κ (wM D kc ad) 368 (zlof [(0, .ref (zad (wM D kc ad) 17)), (2, .int (nI (i36))), (3, .long x39), (5, .long x40), (7, .int (nI (i41)))]) [] z42) fX10_block_368 (fun i41 z42 => i41 ≤ 7) ?_ (fun _ _ h => by omega) 7 z37 (Nat.le_refl _) ?_
          · intro i41 z42 hIi41 k0
            refine j_iload C dX10_block_368 rfl ?_
            refine j_if_le (tgt := 395) C dX10_block_370 (by decide) (fun q43 => False.elim (nI_nle (by omega) (by omega) q43)) (fun q43 => ?_)
            refine j_aload_n C dX10_block_373 rfl rfl ?_
            refine j_getR C dX10_block_374 (fx_RX10_54 D kc ad) (Nat.zero_le _) (show 17 < 18 by decide) ?_
            refine j_iload C dX10_block_377 rfl ?_
            refine j_aload_n C dX10_block_379 rfl rfl ?_
            refine j_getR C dX10_block_380 (fx_RX10_54 D kc ad) (Nat.zero_le _) (show 17 < 18 by decide) ?_
            refine j_iload C dX10_block_383 rfl ?_
            refine j_iconst (v := nI 1) C dX10_block_385 (by decide +kernel) ?_
            refine j_isubN C dX10_block_386 (by omega) ?_
            refine m_lald C dX10_block_387 (⟨rfl, rfl, by decide, by decide⟩ : ma 8 13) (by omega) ?_
            refine m_last C dX10_block_388 (⟨rfl, rfl, by decide, by decide⟩ : ma 8 13) (by omega) ?_
            refine j_nmS (fun t44 et44 => ?_)
            refine j_iincD C dX10_block_389 rfl (by decide) ?_
            refine j_goto (tgt := 368) C dX10_block_392 (by decide) ?_
            refine j_nmS (fun t45 et45 => ?_)
            refine j_at [(0, .ref (zad (wM D kc ad) 17)), (2, .int (nI (i36))), (3, .long x39), (5, .long x40), (7, .int (nI (i41)))] ⟨rfl, rfl, rfl, rfl, congrArg (fun q => some (Value.int q)) (dI_succ _), trivial⟩ ?_
            have eF : fX10_block_368 i41 z42 = t45 := by rw [et45]; (try rw [et44]); unfold fX10_block_368; first | done | (dsimp only; done) | rfl
            exact Eq.mp (congrArg (fun (z46 : zSt) => zJ κ (wM D kc ad) 368 (zlof [(0, .ref (zad (wM D kc ad) 17)), (2, .int (nI (i36))), (3, .long x39), (5, .long x40), (7, .int (nI (i41)))]) [] z46) eF) (k0 ((by omega)))
          · intro hIi41
            revert hIi41
            refine z_nm (P := fun (z42 : zSt) => (fun i41 z42 => i41 ≤ 7) 0 z42 → zJ κ (wM D kc ad) 368 (zlof [(0, .ref (zad (wM D kc ad) 17)), (2, .int (nI (i36))), (3, .long x39), (5, .long x40), (7, .int (nI (0)))]) [] z42) (fun u47 eu47 => ?_)
            intro hIi41
            refine j_iload C dX10_block_368 rfl ?_
            refine j_if_le (tgt := 395) C dX10_block_370 (by decide) (fun q48 => ?_) (fun q48 => False.elim (q48 (by decide)))
            refine j_aload_n C dX10_block_395 rfl rfl ?_
            refine j_getR C dX10_block_396 (fx_RX10_54 D kc ad) (Nat.zero_le _) (show 17 < 18 by decide) ?_
            refine j_iconst (v := nI 4) C dX10_block_399 (by decide +kernel) ?_
            refine j_dup2 C dX10_block_400 rfl rfl ?_
            refine m_lald C dX10_block_401 (⟨rfl, rfl, by decide, by decide⟩ : ma 8 13) (by omega) ?_
            refine j_lload_n C dX10_block_402 rfl rfl ?_
            refine j_ladd C dX10_block_403 ?_
            refine m_last C dX10_block_404 (⟨rfl, rfl, by decide, by decide⟩ : ma 8 13) (by omega) ?_
            refine j_nmS (fun t49 et49 => ?_)
            refine j_aload_n C dX10_block_405 rfl rfl ?_
            refine j_getR C dX10_block_406 (fx_RX10_54 D kc ad) (Nat.zero_le _) (show 17 < 18 by decide) ?_
            refine j_iconst (v := nI 0) C dX10_block_409 (by decide +kernel) ?_
            refine j_lload_n C dX10_block_410 rfl rfl ?_
            refine j_lload C dX10_block_411 rfl ?_
            refine j_ladd C dX10_block_413 ?_
            refine m_last C dX10_block_414 (⟨rfl, rfl, by decide, by decide⟩ : ma 8 13) (by omega) ?_
            refine j_nmS (fun t50 et50 => ?_)
            refine j_iincN (b := 1) C dX10_block_415 rfl (by decide +kernel) (by decide) ?_
            refine j_goto (tgt := 188) C dX10_block_418 (by decide) ?_
            refine j_nmS (fun t51 et51 => ?_)
            refine j_at [(0, .ref (zad (wM D kc ad) 17)), (2, .int (nI (i36 + 1)))] ⟨rfl, rfl, trivial⟩ ?_
            have eF : fX10_block_188 i36 z37 = t51 := by rw [et51]; (try rw [et50]); (try rw [et49]); (try rw [eu47]); (try rw [ex40]); (try rw [ex39]); unfold fX10_block_188; first | done | (dsimp only; done) | rfl
            exact Eq.mp (congrArg (fun (z52 : zSt) => zJ κ (wM D kc ad) 188 (zlof [(0, .ref (zad (wM D kc ad) 17)), (2, .int (nI (i36 + 1)))]) [] z52) eF) (k0 trivial)
        · intro hIi36
          refine z_nm (P := fun (z37 : zSt) => zJ κ (wM D kc ad) 188 (zlof [(0, .ref (zad (wM D kc ad) 17)), (2, .int (nI (80)))]) [] z37) (fun u53 eu53 => ?_)
          refine j_iload_n C dX10_block_188 rfl rfl ?_
          refine j_bipush (v := nI 80) C dX10_block_189 (by decide +kernel) ?_
          refine j_icmp_geN (tgt := 421) C dX10_block_191 (by decide) (by omega) (by omega) (fun q54 => ?_) (fun q54 => False.elim (by omega))
          refine j_iconst (v := nI 0) C dX10_block_421 (by decide +kernel) ?_
          refine j_istore_n C dX10_block_422 rfl (by decide) ?_
          refine j_at [(0, .ref (zad (wM D kc ad) 17)), (2, .int (nI (0)))] ⟨rfl, rfl, trivial⟩ ?_
          refine z_up (α := zSt) (fun (i55 : Nat) (z56 : zSt) => zJ κ (wM D kc ad) 423 (zlof [(0, .ref (zad (wM D kc ad) 17)), (2, .int (nI (i55)))]) [] z56) fX10_block_423 (fun _ _ => True) 8 ?_ (fun _ _ _ _ => trivial) 8 0 u53 (by omega) trivial ?_
          · intro i55 z56 hi55 hIi55 k0
            refine j_iload_n C dX10_block_423 rfl rfl ?_
            refine j_bipush (v := nI 8) C dX10_block_424 (by decide +kernel) ?_
            refine j_icmp_geN (tgt := 450) C dX10_block_426 (by decide) (by omega) (by omega) (fun q57 => False.elim (by omega)) (fun q57 => ?_)
            refine j_aload_n C dX10_block_429 rfl rfl ?_
            refine j_getR C dX10_block_430 (fx_RX10_51 D kc ad) (Nat.zero_le _) (show 17 < 18 by decide) ?_
            refine j_iload_n C dX10_block_433 rfl rfl ?_
            refine j_dup2 C dX10_block_434 rfl rfl ?_
            refine m_lald C dX10_block_435 (⟨rfl, rfl, by decide, by decide⟩ : ma 8 12) (by omega) ?_
            refine j_aload_n C dX10_block_436 rfl rfl ?_
            refine j_getR C dX10_block_437 (fx_RX10_54 D kc ad) (Nat.zero_le _) (show 17 < 18 by decide) ?_
            refine j_iload_n C dX10_block_440 rfl rfl ?_
            refine m_lald C dX10_block_441 (⟨rfl, rfl, by decide, by decide⟩ : ma 8 13) (by omega) ?_
            refine j_ladd C dX10_block_442 ?_
            refine m_last C dX10_block_443 (⟨rfl, rfl, by decide, by decide⟩ : ma 8 12) (by omega) ?_
            refine j_nmS (fun t58 et58 => ?_)
            refine j_iincN (b := 1) C dX10_block_444 rfl (by decide +kernel) (by decide) ?_
            refine j_goto (tgt := 423) C dX10_block_447 (by decide) ?_
            refine j_nmS (fun t59 et59 => ?_)
            refine j_at [(0, .ref (zad (wM D kc ad) 17)), (2, .int (nI (i55 + 1)))] ⟨rfl, rfl, trivial⟩ ?_
            have eF : fX10_block_423 i55 z56 = t59 := by rw [et59]; (try rw [et58]); unfold fX10_block_423; first | done | (dsimp only; done) | rfl
            exact Eq.mp (congrArg (fun (z60 : zSt) => zJ κ (wM D kc ad) 423 (zlof [(0, .ref (zad (wM D kc ad) 17)), (2, .int (nI (i55 + 1)))]) [] z60) eF) (k0 trivial)
          · intro hIi55
            refine z_nm (P := fun (z56 : zSt) => zJ κ (wM D kc ad) 423 (zlof [(0, .ref (zad (wM D kc ad) 17)), (2, .int (nI (8)))]) [] z56) (fun u61 eu61 => ?_)
            refine j_iload_n C dX10_block_423 rfl rfl ?_
            refine j_bipush (v := nI 8) C dX10_block_424 (by decide +kernel) ?_
            refine j_icmp_geN (tgt := 450) C dX10_block_426 (by decide) (by omega) (by omega) (fun q62 => ?_) (fun q62 => False.elim (by omega))
            exact j_vret (st := []) C R0 dX10_block_450 ⟨rfl, (by (try rw [eu61]); (try rw [eu53]); (try rw [eu34]); (try rw [eu26]); (try rw [eu16]); unfold fX10_block; (try dsimp only); all_goals ((try simp only [zfst_mk, zsnd_mk]); all_goals rfl))⟩
theorem k2_fX10_block_2 (b0 : Nat) (i1 : Nat) (z2 : zSt) : zk2 (fX10_block_2 b0 i1 z2) = zk2 z2 := by
  unfold fX10_block_2
  (try dsimp only)
  all_goals (simp only [zW_2, zL_2]; done)
theorem k2it_fX10_block_2 (b0 : Nat) (nn ii : Nat) (xx : zSt) : zk2 (ziter (fX10_block_2 b0) ii nn xx) = zk2 xx := ziter_keep (fun x => zk2 x) _ (k2_fX10_block_2 b0) nn ii xx
theorem k2_fX10_block_63  (i18 : Nat) (z19 : zSt) : zk2 (fX10_block_63  i18 z19) = zk2 z19 := by
  unfold fX10_block_63
  (try dsimp only)
  all_goals (simp only [zW_2, zL_2]; done)
theorem k2it_fX10_block_63  (nn ii : Nat) (xx : zSt) : zk2 (ziter (fX10_block_63 ) ii nn xx) = zk2 xx := ziter_keep (fun x => zk2 x) _ (k2_fX10_block_63 ) nn ii xx
theorem k2_fX10_block_162  (i28 : Nat) (z29 : zSt) : zk2 (fX10_block_162  i28 z29) = zk2 z29 := by
  unfold fX10_block_162
  (try dsimp only)
  all_goals (simp only [zW_2, zL_2]; done)
theorem k2it_fX10_block_162  (nn ii : Nat) (xx : zSt) : zk2 (ziter (fX10_block_162 ) ii nn xx) = zk2 xx := ziter_keep (fun x => zk2 x) _ (k2_fX10_block_162 ) nn ii xx
theorem k2_fX10_block_368  (i41 : Nat) (z42 : zSt) : zk2 (fX10_block_368  i41 z42) = zk2 z42 := by
  unfold fX10_block_368
  (try dsimp only)
  all_goals (simp only [zW_2, zL_2]; done)
theorem k2it_fX10_block_368  (nn : Nat) (xx : zSt) : zk2 (zdown (fX10_block_368 ) nn xx) = zk2 xx := zdown_keep (fun x => zk2 x) _ (k2_fX10_block_368 ) nn xx
theorem k2_fX10_block_188  (i36 : Nat) (z37 : zSt) : zk2 (fX10_block_188  i36 z37) = zk2 z37 := by
  unfold fX10_block_188
  (try dsimp only)
  all_goals (simp only [zW_2, zL_2, k2_fX10_block_368, k2it_fX10_block_368]; done)
theorem k2it_fX10_block_188  (nn ii : Nat) (xx : zSt) : zk2 (ziter (fX10_block_188 ) ii nn xx) = zk2 xx := ziter_keep (fun x => zk2 x) _ (k2_fX10_block_188 ) nn ii xx
theorem k2_fX10_block_423  (i55 : Nat) (z56 : zSt) : zk2 (fX10_block_423  i55 z56) = zk2 z56 := by
  unfold fX10_block_423
  (try dsimp only)
  all_goals (simp only [zW_2, zL_2]; done)
theorem k2it_fX10_block_423  (nn ii : Nat) (xx : zSt) : zk2 (ziter (fX10_block_423 ) ii nn xx) = zk2 xx := ziter_keep (fun x => zk2 x) _ (k2_fX10_block_423 ) nn ii xx
theorem k2_fX10_block (b0 : Nat) (s0 : zSt) : zk2 (fX10_block b0 s0) = zk2 s0 := by
  unfold fX10_block
  (try dsimp only)
  all_goals (simp only [zW_2, zL_2, k2_fX10_block_162, k2_fX10_block_188, k2_fX10_block_2, k2_fX10_block_423, k2_fX10_block_63, k2it_fX10_block_162, k2it_fX10_block_188, k2it_fX10_block_2, k2it_fX10_block_423, k2it_fX10_block_63]; done)
theorem i2_fX10_block (b0 : Nat) (s0 : zSt) (kk9 : Nat) : (fX10_block b0 s0).2.2 kk9 = s0.2.2 kk9 := z2_I (k2_fX10_block b0 s0) kk9
theorem i3_fX10_block (b0 : Nat) (s0 : zSt) (kk9 : Nat) : zi (fX10_block b0 s0) kk9 = zi s0 kk9 := zi_of (k2_fX10_block b0 s0) kk9

theorem bk_len (b0 : Nat) (s : zSt) (k : Nat) : (fX10_block b0 s).2.2 k = s.2.2 k := z2_I (k2_fX10_block b0 s) k
def fX10_digests_12 (M0 : Nat) (i12 : Nat) (z2 : zSt) : zSt :=
    let t4 := fX10_tell (nI (0)) (M0 + 1 + i12) z2
    t4
def fX10_digests_a1 (M0 : Nat) (i36 : Nat) (z9 : zSt) : zSt :=
    let t13 := fX10_tell (nI ((((nI (8 * M0)).toUInt32 >>> ((nI (8 * i36)).toUInt32 &&& Int32.toUInt32 31)).toInt32).toBitVec.toNat % 2 ^ 8)) (M0 + 1 + (239 - M0 % 128) % 128 + 15 - i36) z9
    t13
def fX10_digests_a2 (M0 : Nat) (i36 : Nat) (z9 : zSt) : zSt :=
    let t17 := fX10_tell (nI (0)) (M0 + 1 + (239 - M0 % 128) % 128 + 15 - i36) z9
    t17
def fX10_digests_36 (M0 : Nat) (i36 : Nat) (z9 : zSt) : zSt :=
    if i36 ≤ 3 then
      fX10_digests_a1 M0 i36 z9
    else
      fX10_digests_a2 M0 i36 z9
def fX10_digests_74  (i74 : Nat) (z22 : zSt) : zSt :=
    let t24 := zW z22 12 i74 (z22.1 5 i74)
    t24
def fX10_digests_100  (i100 : Nat) (z29 : zSt) : zSt :=
    let t31 := fX10_block (128 * i100) z29
    t31
def fX10_digests_124  (i36 : Nat) (z37 : zSt) : zSt :=
    let t39 := zV z37 14 i36 (nI (((zus (z37.1 12 (i36 / 2 ^ 3)) (8 * (7 - (i36 % 2 ^ 3)))).toInt32).toBitVec.toNat % 2 ^ 8))
    t39
def fX10_digests (M0 : Nat) (s0 : zSt) : zSt :=
    let t1 := fX10_tell (nI (128)) M0 s0
    let u7 := ziter (fX10_digests_12 M0) 0 ((239 - M0 % 128) % 128) t1
    let u20 := zdown (fX10_digests_36 M0) 16 u7
    let u27 := ziter fX10_digests_74 0 8 u20
    let u34 := ziter fX10_digests_100 0 ((M0 + 144) / 128) u27
    let u42 := ziter fX10_digests_124 0 64 u34
    let t44 := zI u42 5 (nI (0))
    t44
set_option maxHeartbeats 4000000 in
set_option maxRecDepth 100000 in
theorem k_X10_digests (l : Launch) (D : va_G) (kc : Nat → ClassId) (ad : Nat → Nat) (M0 : Nat) (s0 : zSt) (hlen : s0.2.2 5 = nI M0) (hroom : M0 ≤ 464) : zM l yX10_digests cX10_digests 3 none rX10_digests (wM D kc ad) [.ref (zad (wM D kc ad) 17)] s0 (zV0 (fX10_digests M0 s0)) := by
  refine z_of (own := RX10) (by decide +kernel) rfl (Nat.le_of_ble_eq_true rfl) ?_
  intro κ C R0
  refine j_at [(0, .ref (zad (wM D kc ad) 17))] ⟨rfl, trivial⟩ ?_
  refine j_aload_n C dX10_digests_0 rfl rfl ?_
  refine j_getI C dX10_digests_1 (fx_RX10_197 D kc ad) (Nat.zero_le _) (show 17 < 18 by decide) ?_
  refine j_top (v := .int (nI (M0))) (congrArg Value.int (by  exact hlen)) ?_
  refine j_istore_n C dX10_digests_4 rfl (by decide) ?_
  refine j_aload_n C dX10_digests_5 rfl rfl ?_
  refine j_sipush (v := nI 128) C dX10_digests_6 (by decide +kernel) ?_
  refine j_callV0 (T := TX10) (N := 23) C dX10_digests_9 (k_X10_tell l D kc ad (nI (128)) M0 _ (by  exact hlen) (by omega)) zy_X10_tell mw_36_8 rfl rfl (Nat.zero_le _) (show 17 < 18 by decide) rfl rfl (Nat.le_of_ble_eq_true rfl) ⟨rfl, rfl, Nat.le_of_ble_eq_true rfl, Nat.le_of_ble_eq_true rfl⟩ ?_
  refine j_nmS (fun t1 et1 => ?_)
  refine j_at [(0, .ref (zad (wM D kc ad) 17)), (1, .int (nI (M0)))] ⟨rfl, rfl, trivial⟩ ?_
  refine z_up (α := zSt) (fun (i12 : Nat) (z2 : zSt) => zJ κ (wM D kc ad) 12 (zlof [(0, .ref (zad (wM D kc ad) 17)), (1, .int (nI (M0)))]) [] z2) (fX10_digests_12 M0) (fun i12 z2 => z2.2.2 5 = nI (M0 + 1 + i12)) ((239 - M0 % 128) % 128) ?_ (fun i x _ h => tell_len _ _ _) ((239 - M0 % 128) % 128) 0 t1 (by omega) ((by rw [et1]; exact tell_len _ _ _)) ?_
  · intro i12 z2 hi12 hIi12 k0
    refine j_aload_n C dX10_digests_12 rfl rfl ?_
    refine j_getI C dX10_digests_13 (fx_RX10_197 D kc ad) (Nat.zero_le _) (show 17 < 18 by decide) ?_
    refine j_top (v := .int (nI (M0 + 1 + i12))) (congrArg Value.int (hIi12)) ?_
    refine j_sipush (v := nI 128) C dX10_digests_16 (by decide +kernel) ?_
    refine j_iremN C dX10_digests_19 (by omega) (by decide) (by decide) ?_
    refine j_bipush (v := nI 112) C dX10_digests_20 (by decide +kernel) ?_
    refine j_icmp_eqN (tgt := 33) C dX10_digests_22 (by decide) (by omega) (by omega) (fun q3 => False.elim (by omega)) (fun q3 => ?_)
    refine j_aload_n C dX10_digests_25 rfl rfl ?_
    refine j_iconst (v := nI 0) C dX10_digests_26 (by decide +kernel) ?_
    refine j_callV0 (T := TX10) (N := 23) C dX10_digests_27 (k_X10_tell l D kc ad (nI (0)) (M0 + 1 + i12) _ hIi12 (by omega)) zy_X10_tell mw_36_8 rfl rfl (Nat.zero_le _) (show 17 < 18 by decide) rfl rfl (Nat.le_of_ble_eq_true rfl) ⟨rfl, rfl, Nat.le_of_ble_eq_true rfl, Nat.le_of_ble_eq_true rfl⟩ ?_
    refine j_nmS (fun t4 et4 => ?_)
    refine j_goto (tgt := 12) C dX10_digests_30 (by decide) ?_
    refine j_nmS (fun t5 et5 => ?_)
    refine j_at [(0, .ref (zad (wM D kc ad) 17)), (1, .int (nI (M0)))] ⟨rfl, rfl, trivial⟩ ?_
    have eF : (fX10_digests_12 M0) i12 z2 = t5 := by rw [et5]; (try rw [et4]); unfold fX10_digests_12; first | done | (dsimp only; done) | rfl
    exact Eq.mp (congrArg (fun (z6 : zSt) => zJ κ (wM D kc ad) 12 (zlof [(0, .ref (zad (wM D kc ad) 17)), (1, .int (nI (M0)))]) [] z6) eF) (k0 ((tell_len _ _ _)))
  · intro hIi12
    revert hIi12
    refine z_nm (P := fun (z2 : zSt) => (fun i12 z2 => z2.2.2 5 = nI (M0 + 1 + i12)) ((239 - M0 % 128) % 128) z2 → zJ κ (wM D kc ad) 12 (zlof [(0, .ref (zad (wM D kc ad) 17)), (1, .int (nI (M0)))]) [] z2) (fun u7 eu7 => ?_)
    intro hIi12
    refine j_aload_n C dX10_digests_12 rfl rfl ?_
    refine j_getI C dX10_digests_13 (fx_RX10_197 D kc ad) (Nat.zero_le _) (show 17 < 18 by decide) ?_
    refine j_top (v := .int (nI (M0 + 1 + (239 - M0 % 128) % 128))) (congrArg Value.int (hIi12)) ?_
    refine j_sipush (v := nI 128) C dX10_digests_16 (by decide +kernel) ?_
    refine j_iremN C dX10_digests_19 (by omega) (by decide) (by decide) ?_
    refine j_bipush (v := nI 112) C dX10_digests_20 (by decide +kernel) ?_
    refine j_icmp_eqN (tgt := 33) C dX10_digests_22 (by decide) (by omega) (by omega) (fun q8 => ?_) (fun q8 => False.elim (by omega))
    refine j_bipush (v := nI 15) C dX10_digests_33 (by decide +kernel) ?_
    refine j_istore_n C dX10_digests_35 rfl (by decide) ?_
    refine j_at [(0, .ref (zad (wM D kc ad) 17)), (1, .int (nI (M0))), (2, .int (dI 16))] ⟨rfl, rfl, congrArg (fun q => some (Value.int q)) (dI_succ _).symm, trivial⟩ ?_
    refine z_dn (α := zSt) (fun (i36 : Nat) (z9 : zSt) => zJ κ (wM D kc ad) 36 (zlof [(0, .ref (zad (wM D kc ad) 17)), (1, .int (nI (M0))), (2, .int (dI i36))]) [] z9) (fX10_digests_36 M0) (fun i36 z9 => z9.2.2 5 = nI (M0 + 1 + (239 - M0 % 128) % 128 + (16 - i36)) ∧ i36 ≤ 16) ?_ (fun i x h => by
      unfold fX10_digests_36
      refine ⟨?_, by omega⟩
      rw [show M0 + 1 + (239 - M0 % 128) % 128 + (16 - i) = (M0 + 1 + (239 - M0 % 128) % 128 + 15 - i) + 1 by omega]
      split <;> exact tell_len _ _ _) 16 u7 (⟨hIi12, Nat.le_refl _⟩) ?_
    · intro i36 z9 hIi36 k0
      refine j_at [(0, .ref (zad (wM D kc ad) 17)), (1, .int (nI (M0))), (2, .int (nI (i36)))] ⟨rfl, rfl, congrArg (fun q => some (Value.int q)) (dI_succ _), trivial⟩ ?_
      refine j_iload_n C dX10_digests_36 rfl rfl ?_
      refine j_if_lt (tgt := 72) C dX10_digests_37 (by decide) (fun q10 => False.elim (nI_pos (by omega) q10)) (fun q10 => ?_)
      refine j_aload_n C dX10_digests_40 rfl rfl ?_
      refine j_iload_n C dX10_digests_41 rfl rfl ?_
      refine j_iconst (v := nI 3) C dX10_digests_42 (by decide +kernel) ?_
      refine j_icmp_leN (tgt := 50) C dX10_digests_43 (by decide) (by omega) (by omega) (fun q11 => ?_) (fun q11 => ?_)
      · have hA12 : (fX10_digests_36 M0) i36 z9 = fX10_digests_a1 M0 i36 z9 := by have q11z := q11; (try dsimp only at q11z); unfold fX10_digests_36; (try dsimp only); rw [if_pos q11z]; (try rfl)
        refine j_bipush (v := nI 8) C dX10_digests_50 (by decide +kernel) ?_
        refine j_iload_n C dX10_digests_52 rfl rfl ?_
        refine j_imulN C dX10_digests_53 ?_
        refine j_bipush (v := nI 8) C dX10_digests_54 (by decide +kernel) ?_
        refine j_iload_n C dX10_digests_56 rfl rfl ?_
        refine j_imulN C dX10_digests_57 ?_
        refine j_iushr C dX10_digests_58 ?_
        refine j_sipush (v := nI 255) C dX10_digests_59 (by decide +kernel) ?_
        refine j_iand C dX10_digests_62 ?_
        refine j_top (v := .int (nI ((((nI (8 * M0)).toUInt32 >>> ((nI (8 * i36)).toUInt32 &&& Int32.toUInt32 31)).toInt32).toBitVec.toNat % 2 ^ 8))) (congrArg Value.int (pk_and _ 8 (by decide +kernel))) ?_
        refine j_callV0 (T := TX10) (N := 23) C dX10_digests_63 (k_X10_tell l D kc ad (nI ((((nI (8 * M0)).toUInt32 >>> ((nI (8 * i36)).toUInt32 &&& Int32.toUInt32 31)).toInt32).toBitVec.toNat % 2 ^ 8)) (M0 + 1 + (239 - M0 % 128) % 128 + 15 - i36) _ (by rw [hIi36.1]; congr 1; omega) (by omega)) zy_X10_tell mw_36_8 rfl rfl (Nat.zero_le _) (show 17 < 18 by decide) rfl rfl (Nat.le_of_ble_eq_true rfl) ⟨rfl, rfl, Nat.le_of_ble_eq_true rfl, Nat.le_of_ble_eq_true rfl⟩ ?_
        refine j_nmS (fun t13 et13 => ?_)
        refine j_iincD C dX10_digests_66 rfl (by decide) ?_
        refine j_goto (tgt := 36) C dX10_digests_69 (by decide) ?_
        refine j_nmS (fun t14 et14 => ?_)
        refine j_at [(0, .ref (zad (wM D kc ad) 17)), (1, .int (nI (M0))), (2, .int (dI i36))] ⟨rfl, rfl, rfl, trivial⟩ ?_
        have eF : (fX10_digests_36 M0) i36 z9 = t14 := by rw [hA12]; rw [et14]; (try rw [et13]); unfold fX10_digests_a1; first | done | (dsimp only; done) | rfl
        exact Eq.mp (congrArg (fun (z15 : zSt) => zJ κ (wM D kc ad) 36 (zlof [(0, .ref (zad (wM D kc ad) 17)), (1, .int (nI (M0))), (2, .int (dI i36))]) [] z15) eF) (k0 ((by
        rw [eF]
        refine ⟨?_, by omega⟩
        rw [show M0 + 1 + (239 - M0 % 128) % 128 + (16 - i36) = (M0 + 1 + (239 - M0 % 128) % 128 + 15 - i36) + 1 by omega]
        (try rw [et14]); (try rw [et13]);  exact tell_len _ _ _)))
      · have hA16 : (fX10_digests_36 M0) i36 z9 = fX10_digests_a2 M0 i36 z9 := by have q11z : ¬ (i36 ≤ 3) := (by omega); (try dsimp only at q11z); unfold fX10_digests_36; (try dsimp only); rw [if_neg q11z]; (try rfl)
        refine j_iconst (v := nI 0) C dX10_digests_46 (by decide +kernel) ?_
        refine j_goto (tgt := 63) C dX10_digests_47 (by decide) ?_
        refine j_callV0 (T := TX10) (N := 23) C dX10_digests_63 (k_X10_tell l D kc ad (nI (0)) (M0 + 1 + (239 - M0 % 128) % 128 + 15 - i36) _ (by rw [hIi36.1]; congr 1; omega) (by omega)) zy_X10_tell mw_36_8 rfl rfl (Nat.zero_le _) (show 17 < 18 by decide) rfl rfl (Nat.le_of_ble_eq_true rfl) ⟨rfl, rfl, Nat.le_of_ble_eq_true rfl, Nat.le_of_ble_eq_true rfl⟩ ?_
        refine j_nmS (fun t17 et17 => ?_)
        refine j_iincD C dX10_digests_66 rfl (by decide) ?_
        refine j_goto (tgt := 36) C dX10_digests_69 (by decide) ?_
        refine j_nmS (fun t18 et18 => ?_)
        refine j_at [(0, .ref (zad (wM D kc ad) 17)), (1, .int (nI (M0))), (2, .int (dI i36))] ⟨rfl, rfl, rfl, trivial⟩ ?_
        have eF : (fX10_digests_36 M0) i36 z9 = t18 := by rw [hA16]; rw [et18]; (try rw [et17]); unfold fX10_digests_a2; first | done | (dsimp only; done) | rfl
        exact Eq.mp (congrArg (fun (z19 : zSt) => zJ κ (wM D kc ad) 36 (zlof [(0, .ref (zad (wM D kc ad) 17)), (1, .int (nI (M0))), (2, .int (dI i36))]) [] z19) eF) (k0 ((by
        rw [eF]
        refine ⟨?_, by omega⟩
        rw [show M0 + 1 + (239 - M0 % 128) % 128 + (16 - i36) = (M0 + 1 + (239 - M0 % 128) % 128 + 15 - i36) + 1 by omega]
        (try rw [et18]); (try rw [et17]);  exact tell_len _ _ _)))
    · intro hIi36
      revert hIi36
      refine z_nm (P := fun (z9 : zSt) => (fun i36 z9 => z9.2.2 5 = nI (M0 + 1 + (239 - M0 % 128) % 128 + (16 - i36)) ∧ i36 ≤ 16) 0 z9 → zJ κ (wM D kc ad) 36 (zlof [(0, .ref (zad (wM D kc ad) 17)), (1, .int (nI (M0))), (2, .int (dI 0))]) [] z9) (fun u20 eu20 => ?_)
      intro hIi36
      refine j_iload_n C dX10_digests_36 rfl rfl ?_
      refine j_if_lt (tgt := 72) C dX10_digests_37 (by decide) (fun q21 => ?_) (fun q21 => False.elim (q21 dI_0))
      refine j_iconst (v := nI 0) C dX10_digests_72 (by decide +kernel) ?_
      refine j_istore_n C dX10_digests_73 rfl (by decide) ?_
      refine j_at [(0, .ref (zad (wM D kc ad) 17)), (2, .int (nI (0)))] ⟨rfl, rfl, trivial⟩ ?_
      refine z_up (α := zSt) (fun (i74 : Nat) (z22 : zSt) => zJ κ (wM D kc ad) 74 (zlof [(0, .ref (zad (wM D kc ad) 17)), (2, .int (nI (i74)))]) [] z22) fX10_digests_74 (fun i74 z22 => z22.2.2 5 = nI (M0 + 1 + (239 - M0 % 128) % 128 + 16)) 8 ?_ (fun i x _ h => h) 8 0 u20 (by omega) hIi36.1 ?_
      · intro i74 z22 hi74 hIi74 k0
        refine j_iload_n C dX10_digests_74 rfl rfl ?_
        refine j_bipush (v := nI 8) C dX10_digests_75 (by decide +kernel) ?_
        refine j_icmp_geN (tgt := 98) C dX10_digests_77 (by decide) (by omega) (by omega) (fun q23 => False.elim (by omega)) (fun q23 => ?_)
        refine j_aload_n C dX10_digests_80 rfl rfl ?_
        refine j_getR C dX10_digests_81 (fx_RX10_51 D kc ad) (Nat.zero_le _) (show 17 < 18 by decide) ?_
        refine j_iload_n C dX10_digests_84 rfl rfl ?_
        refine j_aload_n C dX10_digests_85 rfl rfl ?_
        refine j_getR C dX10_digests_86 (fx_RX10_30 D kc ad) (Nat.zero_le _) (show 17 < 18 by decide) ?_
        refine j_iload_n C dX10_digests_89 rfl rfl ?_
        refine m_lald C dX10_digests_90 (⟨rfl, rfl, by decide, by decide⟩ : ma 8 5) (by omega) ?_
        refine m_last C dX10_digests_91 (⟨rfl, rfl, by decide, by decide⟩ : ma 8 12) (by omega) ?_
        refine j_nmS (fun t24 et24 => ?_)
        refine j_iincN (b := 1) C dX10_digests_92 rfl (by decide +kernel) (by decide) ?_
        refine j_goto (tgt := 74) C dX10_digests_95 (by decide) ?_
        refine j_nmS (fun t25 et25 => ?_)
        refine j_at [(0, .ref (zad (wM D kc ad) 17)), (2, .int (nI (i74 + 1)))] ⟨rfl, rfl, trivial⟩ ?_
        have eF : fX10_digests_74 i74 z22 = t25 := by rw [et25]; (try rw [et24]); unfold fX10_digests_74; first | done | (dsimp only; done) | rfl
        exact Eq.mp (congrArg (fun (z26 : zSt) => zJ κ (wM D kc ad) 74 (zlof [(0, .ref (zad (wM D kc ad) 17)), (2, .int (nI (i74 + 1)))]) [] z26) eF) (k0 hIi74)
      · intro hIi74
        revert hIi74
        refine z_nm (P := fun (z22 : zSt) => (fun i74 z22 => z22.2.2 5 = nI (M0 + 1 + (239 - M0 % 128) % 128 + 16)) 8 z22 → zJ κ (wM D kc ad) 74 (zlof [(0, .ref (zad (wM D kc ad) 17)), (2, .int (nI (8)))]) [] z22) (fun u27 eu27 => ?_)
        intro hIi74
        refine j_iload_n C dX10_digests_74 rfl rfl ?_
        refine j_bipush (v := nI 8) C dX10_digests_75 (by decide +kernel) ?_
        refine j_icmp_geN (tgt := 98) C dX10_digests_77 (by decide) (by omega) (by omega) (fun q28 => ?_) (fun q28 => False.elim (by omega))
        refine j_iconst (v := nI 0) C dX10_digests_98 (by decide +kernel) ?_
        refine j_istore_n C dX10_digests_99 rfl (by decide) ?_
        refine j_at [(0, .ref (zad (wM D kc ad) 17)), (2, .int (nI (128 * 0)))] ⟨rfl, rfl, trivial⟩ ?_
        refine z_up (α := zSt) (fun (i100 : Nat) (z29 : zSt) => zJ κ (wM D kc ad) 100 (zlof [(0, .ref (zad (wM D kc ad) 17)), (2, .int (nI (128 * i100)))]) [] z29) fX10_digests_100 (fun i100 z29 => z29.2.2 5 = nI (M0 + 1 + (239 - M0 % 128) % 128 + 16) ∧ True) ((M0 + 144) / 128) ?_ (fun i x _ h => ⟨(bk_len _ _ 5).trans h.1, trivial⟩) ((M0 + 144) / 128) 0 u27 (by omega) (⟨hIi74, trivial⟩) ?_
        · intro i100 z29 hi100 hIi100 k0
          refine j_iload_n C dX10_digests_100 rfl rfl ?_
          refine j_aload_n C dX10_digests_101 rfl rfl ?_
          refine j_getI C dX10_digests_102 (fx_RX10_197 D kc ad) (Nat.zero_le _) (show 17 < 18 by decide) ?_
          refine j_top (v := .int (nI (M0 + 1 + (239 - M0 % 128) % 128 + 16))) (congrArg Value.int (hIi100.1)) ?_
          refine j_icmp_geN (tgt := 122) C dX10_digests_105 (by decide) (by omega) (by omega) (fun q30 => False.elim (by omega)) (fun q30 => ?_)
          refine j_aload_n C dX10_digests_108 rfl rfl ?_
          refine j_iload_n C dX10_digests_109 rfl rfl ?_
          refine j_callV0 (T := TX10) (N := 23) C dX10_digests_110 (k_X10_block l D kc ad (128 * i100) (by omega) _ ) zy_X10_block mw_36_17 rfl rfl (Nat.zero_le _) (show 17 < 18 by decide) rfl rfl (Nat.le_of_ble_eq_true rfl) ⟨rfl, rfl, Nat.le_of_ble_eq_true rfl, Nat.le_of_ble_eq_true rfl⟩ ?_
          refine j_nmS (fun t31 et31 => ?_)
          refine j_iincW (v := nI ((128 * i100) + 128)) C dX10_digests_113 rfl (by rw [show Int32.ofInt 128 = nI 128 by decide +kernel, nI_add]) (by decide) ?_
          refine j_goto (tgt := 100) C dX10_digests_119 (by decide) ?_
          refine j_nmS (fun t32 et32 => ?_)
          refine j_at [(0, .ref (zad (wM D kc ad) 17)), (2, .int (nI (128 * (i100 + 1))))] ⟨rfl, congrArg (fun q => some (Value.int (nI q))) (by omega), trivial⟩ ?_
          have eF : fX10_digests_100 i100 z29 = t32 := by rw [et32]; (try rw [et31]); unfold fX10_digests_100; first | done | (dsimp only; done) | rfl
          exact Eq.mp (congrArg (fun (z33 : zSt) => zJ κ (wM D kc ad) 100 (zlof [(0, .ref (zad (wM D kc ad) 17)), (2, .int (nI (128 * (i100 + 1))))]) [] z33) eF) (k0 (⟨(bk_len _ _ 5).trans hIi100.1, trivial⟩))
        · intro hIi100
          revert hIi100
          refine z_nm (P := fun (z29 : zSt) => (fun i100 z29 => z29.2.2 5 = nI (M0 + 1 + (239 - M0 % 128) % 128 + 16) ∧ True) ((M0 + 144) / 128) z29 → zJ κ (wM D kc ad) 100 (zlof [(0, .ref (zad (wM D kc ad) 17)), (2, .int (nI (128 * ((M0 + 144) / 128))))]) [] z29) (fun u34 eu34 => ?_)
          intro hIi100
          refine j_iload_n C dX10_digests_100 rfl rfl ?_
          refine j_aload_n C dX10_digests_101 rfl rfl ?_
          refine j_getI C dX10_digests_102 (fx_RX10_197 D kc ad) (Nat.zero_le _) (show 17 < 18 by decide) ?_
          refine j_top (v := .int (nI (M0 + 1 + (239 - M0 % 128) % 128 + 16))) (congrArg Value.int (hIi100.1)) ?_
          refine j_icmp_geN (tgt := 122) C dX10_digests_105 (by decide) (by omega) (by omega) (fun q35 => ?_) (fun q35 => False.elim (by omega))
          refine j_iconst (v := nI 0) C dX10_digests_122 (by decide +kernel) ?_
          refine j_istore_n C dX10_digests_123 rfl (by decide) ?_
          refine j_at [(0, .ref (zad (wM D kc ad) 17)), (2, .int (nI (0)))] ⟨rfl, rfl, trivial⟩ ?_
          refine z_up (α := zSt) (fun (i36 : Nat) (z37 : zSt) => zJ κ (wM D kc ad) 124 (zlof [(0, .ref (zad (wM D kc ad) 17)), (2, .int (nI (i36)))]) [] z37) fX10_digests_124 (fun _ _ => True) 64 ?_ (fun _ _ _ _ => trivial) 64 0 u34 (by omega) trivial ?_
          · intro i36 z37 hi36 hIi36 k0
            refine j_iload_n C dX10_digests_124 rfl rfl ?_
            refine j_bipush (v := nI 64) C dX10_digests_125 (by decide +kernel) ?_
            refine j_icmp_geN (tgt := 166) C dX10_digests_127 (by decide) (by omega) (by omega) (fun q38 => False.elim (by omega)) (fun q38 => ?_)
            refine j_aload_n C dX10_digests_130 rfl rfl ?_
            refine j_getR C dX10_digests_131 (fx_RX10_57 D kc ad) (Nat.zero_le _) (show 17 < 18 by decide) ?_
            refine j_iload_n C dX10_digests_134 rfl rfl ?_
            refine j_aload_n C dX10_digests_135 rfl rfl ?_
            refine j_getR C dX10_digests_136 (fx_RX10_51 D kc ad) (Nat.zero_le _) (show 17 < 18 by decide) ?_
            refine j_iload_n C dX10_digests_139 rfl rfl ?_
            refine j_iconst (v := nI 3) C dX10_digests_140 (by decide +kernel) ?_
            refine j_ishrN C dX10_digests_141 (by omega) (by decide +kernel) ?_
            refine m_lald C dX10_digests_142 (⟨rfl, rfl, by decide, by decide⟩ : ma 8 12) (by omega) ?_
            refine j_bipush (v := nI 8) C dX10_digests_143 (by decide +kernel) ?_
            refine j_bipush (v := nI 7) C dX10_digests_145 (by decide +kernel) ?_
            refine j_iload_n C dX10_digests_147 rfl rfl ?_
            refine j_bipush (v := nI 7) C dX10_digests_148 (by decide +kernel) ?_
            refine j_iandN C 3 dX10_digests_150 (by omega) (by decide +kernel) ?_
            refine j_isubN C dX10_digests_151 (by omega) ?_
            refine j_imulN C dX10_digests_152 ?_
            refine j_lushr C dX10_digests_153 (by omega) ?_
            refine j_l2i C dX10_digests_154 ?_
            refine j_sipush (v := nI 255) C dX10_digests_155 (by decide +kernel) ?_
            refine j_iand C dX10_digests_158 ?_
            refine j_top (v := .int (nI (((zus (z37.1 12 (i36 / 2 ^ 3)) (8 * (7 - (i36 % 2 ^ 3)))).toInt32).toBitVec.toNat % 2 ^ 8))) (congrArg Value.int (pk_and _ 8 (by decide +kernel))) ?_
            refine m_iast C dX10_digests_159 (⟨rfl, rfl, by decide, by decide⟩ : mi 64 14) (by omega) ?_
            refine j_nmS (fun t39 et39 => ?_)
            refine j_iincN (b := 1) C dX10_digests_160 rfl (by decide +kernel) (by decide) ?_
            refine j_goto (tgt := 124) C dX10_digests_163 (by decide) ?_
            refine j_nmS (fun t40 et40 => ?_)
            refine j_at [(0, .ref (zad (wM D kc ad) 17)), (2, .int (nI (i36 + 1)))] ⟨rfl, rfl, trivial⟩ ?_
            have eF : fX10_digests_124 i36 z37 = t40 := by rw [et40]; (try rw [et39]); unfold fX10_digests_124; first | done | (dsimp only; done) | rfl
            exact Eq.mp (congrArg (fun (z41 : zSt) => zJ κ (wM D kc ad) 124 (zlof [(0, .ref (zad (wM D kc ad) 17)), (2, .int (nI (i36 + 1)))]) [] z41) eF) (k0 trivial)
          · intro hIi36
            refine z_nm (P := fun (z37 : zSt) => zJ κ (wM D kc ad) 124 (zlof [(0, .ref (zad (wM D kc ad) 17)), (2, .int (nI (64)))]) [] z37) (fun u42 eu42 => ?_)
            refine j_iload_n C dX10_digests_124 rfl rfl ?_
            refine j_bipush (v := nI 64) C dX10_digests_125 (by decide +kernel) ?_
            refine j_icmp_geN (tgt := 166) C dX10_digests_127 (by decide) (by omega) (by omega) (fun q43 => ?_) (fun q43 => False.elim (by omega))
            refine j_aload_n C dX10_digests_166 rfl rfl ?_
            refine j_iconst (v := nI 0) C dX10_digests_167 (by decide +kernel) ?_
            refine j_putI C dX10_digests_168 (pfx_RX10_197 D kc ad) (om_5 D kc ad) (Nat.zero_le _) (show 17 < 18 by decide) ?_
            refine j_nmS (fun t44 et44 => ?_)
            exact j_vret (st := []) C R0 dX10_digests_171 ⟨rfl, (by (try rw [et44]); (try rw [eu42]); (try rw [eu34]); (try rw [eu27]); (try rw [eu20]); (try rw [eu7]); (try rw [et1]); unfold fX10_digests; (try dsimp only); all_goals ((try simp only [zfst_mk, zsnd_mk]); all_goals rfl))⟩

theorem tw_len (p M0 : Nat) (s : zSt) (h : s.2.2 5 = nI M0) : (fX10_tellWords p M0 s).2.2 5 = nI (M0 + 32) := ziter_I (fX10_tellWords_2 p M0) (fun i z => z.2.2 5 = nI (M0 + i)) 32 (fun i x _ _ => tell_len _ _ _) 32 0 s rfl h
theorem tw_oth (p M0 : Nat) (s : zSt) (k : Nat) (h : k ≠ 5) : (fX10_tellWords p M0 s).2.2 k = s.2.2 k := ziter_keep (fun z : zSt => z.2.2 k) (fX10_tellWords_2 p M0) (fun i x => tell_oth _ _ _ k h) 32 0 s
theorem tx_len (M0 T0 : Nat) (s : zSt) (h : s.2.2 5 = nI M0) : (fX10_tellText M0 T0 s).2.2 5 = nI (M0 + T0) := ziter_I (fX10_tellText_2 M0) (fun i z => z.2.2 5 = nI (M0 + i)) T0 (fun i x _ _ => tell_len _ _ _) T0 0 s (by omega) h
theorem tx_oth (M0 T0 : Nat) (s : zSt) (k : Nat) (h : k ≠ 5) : (fX10_tellText M0 T0 s).2.2 k = s.2.2 k := ziter_keep (fun z : zSt => z.2.2 k) (fX10_tellText_2 M0) (fun i x => tell_oth _ _ _ k h) T0 0 s
theorem dg_len (M0 : Nat) (s : zSt) : (fX10_digests M0 s).2.2 5 = nI 0 := id rfl
theorem tell_zi (b : Int32) (M : Nat) (s : zSt) (k : Nat) (h : k ≠ 5) : zi (fX10_tell b M s) k = zi s k := zi_o (tell_oth b M s k h)
theorem dg_36 (M0 : Nat) (k : Nat) (h : k ≠ 5) (i : Nat) (z : zSt) : zi (fX10_digests_36 M0 i z) k = zi z k := ite_keep (fun r : zSt => zi r k) _ _ (tell_zi _ _ _ k h) (tell_zi _ _ _ k h)
theorem dg_124 (k : Nat) (i : Nat) (z : zSt) : zi (fX10_digests_124 i z) k = zi z k := zV_zi _ _ _ _ k
theorem dg_74 (k : Nat) (i : Nat) (z : zSt) : zi (fX10_digests_74 i z) k = zi z k := zi_of (zW_2 _ _ _ _) k
theorem dg_100 (k : Nat) (i : Nat) (z : zSt) : zi (fX10_digests_100 i z) k = zi z k := i3_fX10_block _ _ k
theorem dg_12 (M0 : Nat) (k : Nat) (h : k ≠ 5) (i : Nat) (z : zSt) : zi (fX10_digests_12 M0 i z) k = zi z k := tell_zi _ _ _ k h
theorem dg_zi (M0 : Nat) (s : zSt) (k : Nat) (h : k ≠ 5) : zi (fX10_digests M0 s) k = zi s k := by
  unfold fX10_digests
  dsimp only
  rw [zI_zi _ _ _ h, zit (dg_124 k), zit (dg_100 k), zit (dg_74 k), zdt (dg_36 M0 k h), zit (dg_12 M0 k h), tell_zi _ _ _ k h]
theorem dg_oth (M0 : Nat) (s : zSt) (k : Nat) (h : k ≠ 5) : (fX10_digests M0 s).2.2 k = s.2.2 k := zo_i (dg_zi M0 s k h)
theorem tw_0 (p M0 : Nat) (s : zSt) : (fX10_tellWords p M0 s).2.2 0 = s.2.2 0 := tw_oth p M0 s 0 (by decide)
theorem tx_0 (M0 T0 : Nat) (s : zSt) : (fX10_tellText M0 T0 s).2.2 0 = s.2.2 0 := tx_oth M0 T0 s 0 (by decide)
theorem dg_0 (M0 : Nat) (s : zSt) : (fX10_digests M0 s).2.2 0 = s.2.2 0 := dg_oth M0 s 0 (by decide)