def fX10_in_a1 (s0 : zSt) : Bool :=
    false
def fX10_in_a2 (s0 : zSt) : Bool :=
    false
def fX10_in_a3 (s0 : zSt) : Bool :=
    true
def fX10_in_a4 (v : Int32) (hi : Int32) (s0 : zSt) : Bool :=
    if hi < v then
      fX10_in_a2 s0
    else
      fX10_in_a3 s0
def vX10_in (v : Int32) (lo : Int32) (hi : Int32) (s0 : zSt) : Bool :=
    if v < lo then
      fX10_in_a1 s0
    else
      fX10_in_a4 v hi s0
set_option maxHeartbeats 4000000 in
set_option maxRecDepth 100000 in
theorem k_X10_in (l : Launch) (D : va_G) (kc : Nat → ClassId) (ad : Nat → Nat) (v : Int32) (lo : Int32) (hi : Int32) (s0 : zSt) : zM l yX10_in cX10_in 3 (some .boolean) rX10_in (wM D kc ad) [.int v, .int lo, .int hi] s0 (zV1 (.int (bI (vX10_in v lo hi s0))) s0) := by
  refine z_of (own := RX10) (by decide +kernel) rfl (Nat.le_of_ble_eq_true rfl) ?_
  intro κ C R0
  refine j_at [(0, .int v), (1, .int lo), (2, .int hi)] ⟨rfl, rfl, rfl, trivial⟩ ?_
  refine j_iload_n C dX10_in_0 rfl rfl ?_
  refine j_iload_n C dX10_in_1 rfl rfl ?_
  refine j_icmp_lt (tgt := 14) C dX10_in_2 (by decide) (fun q1 => ?_) (fun q1 => ?_)
  · have hA2 : vX10_in v lo hi s0 = fX10_in_a1 s0 := by have q1z := q1; (try dsimp only at q1z); unfold vX10_in; (try dsimp only); rw [if_pos q1z]; (try rfl)
    refine j_iconst (v := nI 0) C dX10_in_14 (by decide +kernel) ?_
    refine j_top (v := .int (bI false)) (by decide +kernel) ?_
    exact j_zret (st := []) C R0 dX10_in_15 ⟨(by rw [hA2]; unfold fX10_in_a1; (try dsimp only); all_goals ((try simp only [zfst_mk, zsnd_mk]); all_goals rfl)), ((by rfl))⟩
  · have hA3 : vX10_in v lo hi s0 = fX10_in_a4 v hi s0 := by have q1z := q1; (try dsimp only at q1z); unfold vX10_in; (try dsimp only); rw [if_neg q1z]; (try rfl)
    refine j_iload_n C dX10_in_5 rfl rfl ?_
    refine j_iload_n C dX10_in_6 rfl rfl ?_
    refine j_icmp_gt (tgt := 14) C dX10_in_7 (by decide) (fun q4 => ?_) (fun q4 => ?_)
    · have hA5 : fX10_in_a4 v hi s0 = fX10_in_a2 s0 := by have q4z := q4; (try dsimp only at q4z); unfold fX10_in_a4; (try dsimp only); rw [if_pos q4z]; (try rfl)
      refine j_iconst (v := nI 0) C dX10_in_14 (by decide +kernel) ?_
      refine j_top (v := .int (bI false)) (by decide +kernel) ?_
      exact j_zret (st := []) C R0 dX10_in_15 ⟨(by rw [hA3, hA5]; unfold fX10_in_a2; (try dsimp only); all_goals ((try simp only [zfst_mk, zsnd_mk]); all_goals rfl)), ((by rfl))⟩
    · have hA6 : fX10_in_a4 v hi s0 = fX10_in_a3 s0 := by have q4z := q4; (try dsimp only at q4z); unfold fX10_in_a4; (try dsimp only); rw [if_neg q4z]; (try rfl)
      refine j_iconst (v := nI 1) C dX10_in_10 (by decide +kernel) ?_
      refine j_goto (tgt := 15) C dX10_in_11 (by decide) ?_
      refine j_top (v := .int (bI true)) (by decide +kernel) ?_
      exact j_zret (st := []) C R0 dX10_in_15 ⟨(by rw [hA3, hA6]; unfold fX10_in_a3; (try dsimp only); all_goals ((try simp only [zfst_mk, zsnd_mk]); all_goals rfl)), ((by rfl))⟩

def vX10_isSlot (v : Int32) (s0 : zSt) : Bool :=
    vX10_in v (nI (0)) (nI (23)) s0
set_option maxHeartbeats 4000000 in
set_option maxRecDepth 100000 in
theorem k_X10_isSlot (l : Launch) (D : va_G) (kc : Nat → ClassId) (ad : Nat → Nat) (v : Int32) (s0 : zSt) : zM l yX10_isSlot cX10_isSlot 1 (some .boolean) rX10_isSlot (wM D kc ad) [.int v] s0 (zV1 (.int (bI (vX10_isSlot v s0))) s0) := by
  refine z_of (own := RX10) (by decide +kernel) rfl (Nat.le_of_ble_eq_true rfl) ?_
  intro κ C R0
  refine j_at [(0, .int v)] ⟨rfl, trivial⟩ ?_
  refine j_iload_n C dX10_isSlot_0 rfl rfl ?_
  refine j_iconst (v := nI 0) C dX10_isSlot_1 (by decide +kernel) ?_
  refine j_bipush (v := nI 23) C dX10_isSlot_2 (by decide +kernel) ?_
  refine j_callS1 C dX10_isSlot_4 (k_X10_in l D kc ad (v) (nI (0)) (nI (23)) _ ) zy_X10_in mw_15_6 rfl rfl (Nat.le_of_ble_eq_true rfl) ⟨rfl, rfl, Nat.le_of_ble_eq_true rfl, Nat.le_of_ble_eq_true rfl⟩ ?_
  exact j_zret (st := []) C R0 dX10_isSlot_7 ⟨(by unfold vX10_isSlot; (try dsimp only); all_goals ((try simp only [zfst_mk, zsnd_mk]); all_goals rfl)), ((by rfl))⟩

def fX10_words (p : Nat) (a : Int64) (b : Int64) (e : Int64) (f : Int64) (s0 : zSt) : zSt :=
    let t1 := zW s0 4 p a
    let t2 := zW t1 4 (p + 1) b
    let t3 := zW t2 4 (p + 2) e
    let t4 := zW t3 4 (p + 3) f
    t4
set_option maxHeartbeats 4000000 in
set_option maxRecDepth 100000 in
theorem k_X10_words (l : Launch) (D : va_G) (kc : Nat → ClassId) (ad : Nat → Nat) (p : Nat) (hp : p ≤ 60) (a : Int64) (b : Int64) (e : Int64) (f : Int64) (s0 : zSt) : zM l yX10_words cX10_words 10 none rX10_words (wM D kc ad) [.ref (zad (wM D kc ad) 17), .int (nI (p)), .long a, .long b, .long e, .long f] s0 (zV0 (fX10_words p a b e f s0)) := by
  refine z_of (own := RX10) (by decide +kernel) rfl (Nat.le_of_ble_eq_true rfl) ?_
  intro κ C R0
  refine j_at [(0, .ref (zad (wM D kc ad) 17)), (1, .int (nI (p))), (2, .long a), (4, .long b), (6, .long e), (8, .long f)] ⟨rfl, rfl, rfl, rfl, rfl, rfl, trivial⟩ ?_
  refine j_aload_n C dX10_words_0 rfl rfl ?_
  refine j_getR C dX10_words_1 (fx_RX10_27 D kc ad) (Nat.zero_le _) (show 17 < 18 by decide) ?_
  refine j_iload_n C dX10_words_4 rfl rfl ?_
  refine j_lload_n C dX10_words_5 rfl rfl ?_
  refine m_last C dX10_words_6 (⟨rfl, rfl, by decide, by decide⟩ : ma 64 4) (by omega) ?_
  refine j_nmS (fun t1 et1 => ?_)
  refine j_aload_n C dX10_words_7 rfl rfl ?_
  refine j_getR C dX10_words_8 (fx_RX10_27 D kc ad) (Nat.zero_le _) (show 17 < 18 by decide) ?_
  refine j_iload_n C dX10_words_11 rfl rfl ?_
  refine j_iconst (v := nI 1) C dX10_words_12 (by decide +kernel) ?_
  refine j_iaddN C dX10_words_13 ?_
  refine j_lload C dX10_words_14 rfl ?_
  refine m_last C dX10_words_16 (⟨rfl, rfl, by decide, by decide⟩ : ma 64 4) (by omega) ?_
  refine j_nmS (fun t2 et2 => ?_)
  refine j_aload_n C dX10_words_17 rfl rfl ?_
  refine j_getR C dX10_words_18 (fx_RX10_27 D kc ad) (Nat.zero_le _) (show 17 < 18 by decide) ?_
  refine j_iload_n C dX10_words_21 rfl rfl ?_
  refine j_iconst (v := nI 2) C dX10_words_22 (by decide +kernel) ?_
  refine j_iaddN C dX10_words_23 ?_
  refine j_lload C dX10_words_24 rfl ?_
  refine m_last C dX10_words_26 (⟨rfl, rfl, by decide, by decide⟩ : ma 64 4) (by omega) ?_
  refine j_nmS (fun t3 et3 => ?_)
  refine j_aload_n C dX10_words_27 rfl rfl ?_
  refine j_getR C dX10_words_28 (fx_RX10_27 D kc ad) (Nat.zero_le _) (show 17 < 18 by decide) ?_
  refine j_iload_n C dX10_words_31 rfl rfl ?_
  refine j_iconst (v := nI 3) C dX10_words_32 (by decide +kernel) ?_
  refine j_iaddN C dX10_words_33 ?_
  refine j_lload C dX10_words_34 rfl ?_
  refine m_last C dX10_words_36 (⟨rfl, rfl, by decide, by decide⟩ : ma 64 4) (by omega) ?_
  refine j_nmS (fun t4 et4 => ?_)
  exact j_vret (st := []) C R0 dX10_words_37 ⟨rfl, (by (try rw [et4]); (try rw [et3]); (try rw [et2]); (try rw [et1]); unfold fX10_words; (try dsimp only); all_goals ((try simp only [zfst_mk, zsnd_mk]); all_goals rfl))⟩
theorem k2_fX10_words (p : Nat) (a : Int64) (b : Int64) (e : Int64) (f : Int64) (s0 : zSt) : zk2 (fX10_words p a b e f s0) = zk2 s0 := by
  unfold fX10_words
  (try dsimp only)
  all_goals (simp only [zW_2, zL_2]; done)
theorem i2_fX10_words (p : Nat) (a : Int64) (b : Int64) (e : Int64) (f : Int64) (s0 : zSt) (kk9 : Nat) : (fX10_words p a b e f s0).2.2 kk9 = s0.2.2 kk9 := z2_I (k2_fX10_words p a b e f s0) kk9
theorem i3_fX10_words (p : Nat) (a : Int64) (b : Int64) (e : Int64) (f : Int64) (s0 : zSt) (kk9 : Nat) : zi (fX10_words p a b e f s0) kk9 = zi s0 kk9 := zi_of (k2_fX10_words p a b e f s0) kk9

def fX10_fromSlot (p : Nat) (v : Nat) (s0 : zSt) : zSt :=
    let t1 := fX10_words p (s0.1 0 (4 * v)) (s0.1 0 ((4 * v) + 1)) (s0.1 0 ((4 * v) + 2)) (s0.1 0 ((4 * v) + 3)) s0
    t1
set_option maxHeartbeats 4000000 in
set_option maxRecDepth 100000 in
theorem k_X10_fromSlot (l : Launch) (D : va_G) (kc : Nat → ClassId) (ad : Nat → Nat) (p : Nat) (hp : p ≤ 60) (v : Nat) (hv : v < 24) (s0 : zSt) : zM l yX10_fromSlot cX10_fromSlot 3 none rX10_fromSlot (wM D kc ad) [.ref (zad (wM D kc ad) 17), .int (nI (p)), .int (nI (v))] s0 (zV0 (fX10_fromSlot p v s0)) := by
  refine z_of (own := RX10) (by decide +kernel) rfl (Nat.le_of_ble_eq_true rfl) ?_
  intro κ C R0
  refine j_at [(0, .ref (zad (wM D kc ad) 17)), (1, .int (nI (p))), (2, .int (nI (v)))] ⟨rfl, rfl, rfl, trivial⟩ ?_
  refine j_aload_n C dX10_fromSlot_0 rfl rfl ?_
  refine j_iload_n C dX10_fromSlot_1 rfl rfl ?_
  refine j_aload_n C dX10_fromSlot_2 rfl rfl ?_
  refine j_getR C dX10_fromSlot_3 (fx_RX10_7 D kc ad) (Nat.zero_le _) (show 17 < 18 by decide) ?_
  refine j_iconst (v := nI 4) C dX10_fromSlot_6 (by decide +kernel) ?_
  refine j_iload_n C dX10_fromSlot_7 rfl rfl ?_
  refine j_imulN C dX10_fromSlot_8 ?_
  refine m_lald C dX10_fromSlot_9 (⟨rfl, rfl, by decide, by decide⟩ : ma 96 0) (by omega) ?_
  refine j_aload_n C dX10_fromSlot_10 rfl rfl ?_
  refine j_getR C dX10_fromSlot_11 (fx_RX10_7 D kc ad) (Nat.zero_le _) (show 17 < 18 by decide) ?_
  refine j_iconst (v := nI 4) C dX10_fromSlot_14 (by decide +kernel) ?_
  refine j_iload_n C dX10_fromSlot_15 rfl rfl ?_
  refine j_imulN C dX10_fromSlot_16 ?_
  refine j_iconst (v := nI 1) C dX10_fromSlot_17 (by decide +kernel) ?_
  refine j_iaddN C dX10_fromSlot_18 ?_
  refine m_lald C dX10_fromSlot_19 (⟨rfl, rfl, by decide, by decide⟩ : ma 96 0) (by omega) ?_
  refine j_aload_n C dX10_fromSlot_20 rfl rfl ?_
  refine j_getR C dX10_fromSlot_21 (fx_RX10_7 D kc ad) (Nat.zero_le _) (show 17 < 18 by decide) ?_
  refine j_iconst (v := nI 4) C dX10_fromSlot_24 (by decide +kernel) ?_
  refine j_iload_n C dX10_fromSlot_25 rfl rfl ?_
  refine j_imulN C dX10_fromSlot_26 ?_
  refine j_iconst (v := nI 2) C dX10_fromSlot_27 (by decide +kernel) ?_
  refine j_iaddN C dX10_fromSlot_28 ?_
  refine m_lald C dX10_fromSlot_29 (⟨rfl, rfl, by decide, by decide⟩ : ma 96 0) (by omega) ?_
  refine j_aload_n C dX10_fromSlot_30 rfl rfl ?_
  refine j_getR C dX10_fromSlot_31 (fx_RX10_7 D kc ad) (Nat.zero_le _) (show 17 < 18 by decide) ?_
  refine j_iconst (v := nI 4) C dX10_fromSlot_34 (by decide +kernel) ?_
  refine j_iload_n C dX10_fromSlot_35 rfl rfl ?_
  refine j_imulN C dX10_fromSlot_36 ?_
  refine j_iconst (v := nI 3) C dX10_fromSlot_37 (by decide +kernel) ?_
  refine j_iaddN C dX10_fromSlot_38 ?_
  refine m_lald C dX10_fromSlot_39 (⟨rfl, rfl, by decide, by decide⟩ : ma 96 0) (by omega) ?_
  refine j_callV0 (T := TX10) (N := 23) C dX10_fromSlot_40 (k_X10_words l D kc ad p (by omega) (s0.1 0 (4 * v)) (s0.1 0 ((4 * v) + 1)) (s0.1 0 ((4 * v) + 2)) (s0.1 0 ((4 * v) + 3)) _ ) zy_X10_words mw_10_11 rfl rfl (Nat.zero_le _) (show 17 < 18 by decide) rfl rfl (Nat.le_of_ble_eq_true rfl) ⟨rfl, rfl, Nat.le_of_ble_eq_true rfl, Nat.le_of_ble_eq_true rfl⟩ ?_
  refine j_nmS (fun t1 et1 => ?_)
  exact j_vret (st := []) C R0 dX10_fromSlot_43 ⟨rfl, (by (try rw [et1]); unfold fX10_fromSlot; (try dsimp only); all_goals ((try simp only [zfst_mk, zsnd_mk]); all_goals rfl))⟩
theorem k2_fX10_fromSlot (p : Nat) (v : Nat) (s0 : zSt) : zk2 (fX10_fromSlot p v s0) = zk2 s0 := by
  unfold fX10_fromSlot
  (try dsimp only)
  all_goals (simp only [zW_2, zL_2, k2_fX10_words]; done)
theorem i2_fX10_fromSlot (p : Nat) (v : Nat) (s0 : zSt) (kk9 : Nat) : (fX10_fromSlot p v s0).2.2 kk9 = s0.2.2 kk9 := z2_I (k2_fX10_fromSlot p v s0) kk9
theorem i3_fX10_fromSlot (p : Nat) (v : Nat) (s0 : zSt) (kk9 : Nat) : zi (fX10_fromSlot p v s0) kk9 = zi s0 kk9 := zi_of (k2_fX10_fromSlot p v s0) kk9

def fX10_toSlot_2 (v : Nat) (p : Nat) (i1 : Nat) (z2 : zSt) : zSt :=
    let t4 := zW z2 0 ((4 * v) + i1) (z2.1 4 (p + i1))
    t4
def fX10_toSlot (v : Nat) (p : Nat) (s0 : zSt) : zSt :=
    let u7 := ziter (fX10_toSlot_2 v p) 0 4 s0
    u7
set_option maxHeartbeats 4000000 in
set_option maxRecDepth 100000 in
theorem k_X10_toSlot (l : Launch) (D : va_G) (kc : Nat → ClassId) (ad : Nat → Nat) (v : Nat) (hv : v < 24) (p : Nat) (hp : p ≤ 60) (s0 : zSt) : zM l yX10_toSlot cX10_toSlot 4 none rX10_toSlot (wM D kc ad) [.ref (zad (wM D kc ad) 17), .int (nI (v)), .int (nI (p))] s0 (zV0 (fX10_toSlot v p s0)) := by
  refine z_of (own := RX10) (by decide +kernel) rfl (Nat.le_of_ble_eq_true rfl) ?_
  intro κ C R0
  refine j_at [(0, .ref (zad (wM D kc ad) 17)), (1, .int (nI (v))), (2, .int (nI (p)))] ⟨rfl, rfl, rfl, trivial⟩ ?_
  refine j_iconst (v := nI 0) C dX10_toSlot_0 (by decide +kernel) ?_
  refine j_istore_n C dX10_toSlot_1 rfl (by decide) ?_
  refine j_at [(0, .ref (zad (wM D kc ad) 17)), (1, .int (nI (v))), (2, .int (nI (p))), (3, .int (nI (0)))] ⟨rfl, rfl, rfl, rfl, trivial⟩ ?_
  refine z_up (α := zSt) (fun (i1 : Nat) (z2 : zSt) => zJ κ (wM D kc ad) 2 (zlof [(0, .ref (zad (wM D kc ad) 17)), (1, .int (nI (v))), (2, .int (nI (p))), (3, .int (nI (i1)))]) [] z2) (fX10_toSlot_2 v p) (fun _ _ => True) 4 ?_ (fun _ _ _ _ => trivial) 4 0 s0 (by omega) trivial ?_
  · intro i1 z2 hi1 hIi1 k0
    refine j_iload_n C dX10_toSlot_2 rfl rfl ?_
    refine j_iconst (v := nI 4) C dX10_toSlot_3 (by decide +kernel) ?_
    refine j_icmp_geN (tgt := 31) C dX10_toSlot_4 (by decide) (by omega) (by omega) (fun q3 => False.elim (by omega)) (fun q3 => ?_)
    refine j_aload_n C dX10_toSlot_7 rfl rfl ?_
    refine j_getR C dX10_toSlot_8 (fx_RX10_7 D kc ad) (Nat.zero_le _) (show 17 < 18 by decide) ?_
    refine j_iconst (v := nI 4) C dX10_toSlot_11 (by decide +kernel) ?_
    refine j_iload_n C dX10_toSlot_12 rfl rfl ?_
    refine j_imulN C dX10_toSlot_13 ?_
    refine j_iload_n C dX10_toSlot_14 rfl rfl ?_
    refine j_iaddN C dX10_toSlot_15 ?_
    refine j_aload_n C dX10_toSlot_16 rfl rfl ?_
    refine j_getR C dX10_toSlot_17 (fx_RX10_27 D kc ad) (Nat.zero_le _) (show 17 < 18 by decide) ?_
    refine j_iload_n C dX10_toSlot_20 rfl rfl ?_
    refine j_iload_n C dX10_toSlot_21 rfl rfl ?_
    refine j_iaddN C dX10_toSlot_22 ?_
    refine m_lald C dX10_toSlot_23 (⟨rfl, rfl, by decide, by decide⟩ : ma 64 4) (by omega) ?_
    refine m_last C dX10_toSlot_24 (⟨rfl, rfl, by decide, by decide⟩ : ma 96 0) (by omega) ?_
    refine j_nmS (fun t4 et4 => ?_)
    refine j_iincN (b := 1) C dX10_toSlot_25 rfl (by decide +kernel) (by decide) ?_
    refine j_goto (tgt := 2) C dX10_toSlot_28 (by decide) ?_
    refine j_nmS (fun t5 et5 => ?_)
    refine j_at [(0, .ref (zad (wM D kc ad) 17)), (1, .int (nI (v))), (2, .int (nI (p))), (3, .int (nI (i1 + 1)))] ⟨rfl, rfl, rfl, rfl, trivial⟩ ?_
    have eF : (fX10_toSlot_2 v p) i1 z2 = t5 := by rw [et5]; (try rw [et4]); unfold fX10_toSlot_2; first | done | (dsimp only; done) | rfl
    exact Eq.mp (congrArg (fun (z6 : zSt) => zJ κ (wM D kc ad) 2 (zlof [(0, .ref (zad (wM D kc ad) 17)), (1, .int (nI (v))), (2, .int (nI (p))), (3, .int (nI (i1 + 1)))]) [] z6) eF) (k0 trivial)
  · intro hIi1
    refine z_nm (P := fun (z2 : zSt) => zJ κ (wM D kc ad) 2 (zlof [(0, .ref (zad (wM D kc ad) 17)), (1, .int (nI (v))), (2, .int (nI (p))), (3, .int (nI (4)))]) [] z2) (fun u7 eu7 => ?_)
    refine j_iload_n C dX10_toSlot_2 rfl rfl ?_
    refine j_iconst (v := nI 4) C dX10_toSlot_3 (by decide +kernel) ?_
    refine j_icmp_geN (tgt := 31) C dX10_toSlot_4 (by decide) (by omega) (by omega) (fun q8 => ?_) (fun q8 => False.elim (by omega))
    exact j_vret (st := []) C R0 dX10_toSlot_31 ⟨rfl, (by (try rw [eu7]); unfold fX10_toSlot; (try dsimp only); all_goals ((try simp only [zfst_mk, zsnd_mk]); all_goals rfl))⟩
theorem k2_fX10_toSlot_2 (v : Nat) (p : Nat) (i1 : Nat) (z2 : zSt) : zk2 (fX10_toSlot_2 v p i1 z2) = zk2 z2 := by
  unfold fX10_toSlot_2
  (try dsimp only)
  all_goals (simp only [zW_2, zL_2]; done)
theorem k2it_fX10_toSlot_2 (v : Nat) (p : Nat) (nn ii : Nat) (xx : zSt) : zk2 (ziter (fX10_toSlot_2 v p) ii nn xx) = zk2 xx := ziter_keep (fun x => zk2 x) _ (k2_fX10_toSlot_2 v p) nn ii xx
theorem k2_fX10_toSlot (v : Nat) (p : Nat) (s0 : zSt) : zk2 (fX10_toSlot v p s0) = zk2 s0 := by
  unfold fX10_toSlot
  (try dsimp only)
  all_goals (simp only [zW_2, zL_2, k2_fX10_toSlot_2, k2it_fX10_toSlot_2]; done)
theorem i2_fX10_toSlot (v : Nat) (p : Nat) (s0 : zSt) (kk9 : Nat) : (fX10_toSlot v p s0).2.2 kk9 = s0.2.2 kk9 := z2_I (k2_fX10_toSlot v p s0) kk9
theorem i3_fX10_toSlot (v : Nat) (p : Nat) (s0 : zSt) (kk9 : Nat) : zi (fX10_toSlot v p s0) kk9 = zi s0 kk9 := zi_of (k2_fX10_toSlot v p s0) kk9

def vX10_bit (p : Nat) (i : Nat) (s0 : zSt) : Nat :=
    ((zus (s0.1 4 (p + (i / 2 ^ 6))) (i % 2 ^ 6)).toInt32).toBitVec.toNat % 2 ^ 1
set_option maxHeartbeats 4000000 in
set_option maxRecDepth 100000 in
theorem k_X10_bit (l : Launch) (D : va_G) (kc : Nat → ClassId) (ad : Nat → Nat) (p : Nat) (hp : p ≤ 60) (i : Nat) (hi : i < 256) (s0 : zSt) : zM l yX10_bit cX10_bit 3 (some .int) rX10_bit (wM D kc ad) [.ref (zad (wM D kc ad) 17), .int (nI (p)), .int (nI (i))] s0 (zV1 (.int (nI (vX10_bit p i s0))) s0) := by
  refine z_of (own := RX10) (by decide +kernel) rfl (Nat.le_of_ble_eq_true rfl) ?_
  intro κ C R0
  refine j_at [(0, .ref (zad (wM D kc ad) 17)), (1, .int (nI (p))), (2, .int (nI (i)))] ⟨rfl, rfl, rfl, trivial⟩ ?_
  refine j_aload_n C dX10_bit_0 rfl rfl ?_
  refine j_getR C dX10_bit_1 (fx_RX10_27 D kc ad) (Nat.zero_le _) (show 17 < 18 by decide) ?_
  refine j_iload_n C dX10_bit_4 rfl rfl ?_
  refine j_iload_n C dX10_bit_5 rfl rfl ?_
  refine j_bipush (v := nI 6) C dX10_bit_6 (by decide +kernel) ?_
  refine j_ishrN C dX10_bit_8 (by omega) (by decide +kernel) ?_
  refine j_iaddN C dX10_bit_9 ?_
  refine m_lald C dX10_bit_10 (⟨rfl, rfl, by decide, by decide⟩ : ma 64 4) (by omega) ?_
  refine j_iload_n C dX10_bit_11 rfl rfl ?_
  refine j_bipush (v := nI 63) C dX10_bit_12 (by decide +kernel) ?_
  refine j_iandN C 6 dX10_bit_14 (by omega) (by decide +kernel) ?_
  refine j_lushr C dX10_bit_15 (by omega) ?_
  refine j_l2i C dX10_bit_16 ?_
  refine j_iconst (v := nI 1) C dX10_bit_17 (by decide +kernel) ?_
  refine j_iand C dX10_bit_18 ?_
  refine j_top (v := .int (nI (((zus (s0.1 4 (p + (i / 2 ^ 6))) (i % 2 ^ 6)).toInt32).toBitVec.toNat % 2 ^ 1))) (congrArg Value.int (pk_and _ 1 (by decide +kernel))) ?_
  exact j_iret (st := []) C R0 dX10_bit_19 ⟨(by unfold vX10_bit; (try dsimp only); all_goals ((try simp only [zfst_mk, zsnd_mk]); all_goals rfl)), ((by rfl))⟩

theorem lt_mbit (p i : Nat) (s : zSt) : vX10_bit p i s < 2 := Nat.mod_lt _ (by decide)
def fX10_isBelow_a1 (s0 : zSt) : Bool :=
    false
def fX10_isBelow_a2 (s0 : zSt) : Bool :=
    true
def vX10_isBelow (a : Int64) (b : Int64) (s0 : zSt) : Bool :=
    if 0 ≤ lg_cmp (a ^^^ ((-9223372036854775808 : Int64))) (b ^^^ ((-9223372036854775808 : Int64))) then
      fX10_isBelow_a1 s0
    else
      fX10_isBelow_a2 s0
set_option maxHeartbeats 4000000 in
set_option maxRecDepth 100000 in
theorem k_X10_isBelow (l : Launch) (D : va_G) (kc : Nat → ClassId) (ad : Nat → Nat) (a : Int64) (b : Int64) (s0 : zSt) : zM l yX10_isBelow cX10_isBelow 4 (some .boolean) rX10_isBelow (wM D kc ad) [.long a, .long b] s0 (zV1 (.int (bI (vX10_isBelow a b s0))) s0) := by
  refine z_of (own := RX10) (by decide +kernel) rfl (Nat.le_of_ble_eq_true rfl) ?_
  intro κ C R0
  refine j_at [(0, .long a), (2, .long b)] ⟨rfl, rfl, trivial⟩ ?_
  refine j_lload_n C dX10_isBelow_0 rfl rfl ?_
  refine j_ldc2 C dX10_isBelow_1 mw_13_3 ?_
  refine j_lxor C dX10_isBelow_4 ?_
  refine j_lload_n C dX10_isBelow_5 rfl rfl ?_
  refine j_ldc2 C dX10_isBelow_6 mw_13_3 ?_
  refine j_lxor C dX10_isBelow_9 ?_
  refine j_lcmp C dX10_isBelow_10 ?_
  refine j_if_ge (tgt := 18) C dX10_isBelow_11 (by decide) (fun q1 => ?_) (fun q1 => ?_)
  · have hA2 : vX10_isBelow a b s0 = fX10_isBelow_a1 s0 := by have q1z := q1; (try dsimp only at q1z); unfold vX10_isBelow; (try dsimp only); rw [if_pos q1z]; (try rfl)
    refine j_iconst (v := nI 0) C dX10_isBelow_18 (by decide +kernel) ?_
    refine j_top (v := .int (bI false)) (by decide +kernel) ?_
    exact j_zret (st := []) C R0 dX10_isBelow_19 ⟨(by rw [hA2]; unfold fX10_isBelow_a1; (try dsimp only); all_goals ((try simp only [zfst_mk, zsnd_mk]); all_goals rfl)), ((by rfl))⟩
  · have hA3 : vX10_isBelow a b s0 = fX10_isBelow_a2 s0 := by have q1z := q1; (try dsimp only at q1z); unfold vX10_isBelow; (try dsimp only); rw [if_neg q1z]; (try rfl)
    refine j_iconst (v := nI 1) C dX10_isBelow_14 (by decide +kernel) ?_
    refine j_goto (tgt := 19) C dX10_isBelow_15 (by decide) ?_
    refine j_top (v := .int (bI true)) (by decide +kernel) ?_
    exact j_zret (st := []) C R0 dX10_isBelow_19 ⟨(by rw [hA3]; unfold fX10_isBelow_a2; (try dsimp only); all_goals ((try simp only [zfst_mk, zsnd_mk]); all_goals rfl)), ((by rfl))⟩

def fX10_against_a1 (s0 : zSt) : Int32 :=
    nI (0)
def fX10_against_a2 (s0 : zSt) : Int32 :=
    nI (1)
def fX10_against_a3 (s0 : zSt) : Int32 :=
    (-1 : Int32)
def fX10_against_a4 (a : Nat) (b : Nat) (s0 : zSt) : Int32 :=
    bif (vX10_isBelow (s0.1 4 (a + 0)) (s0.1 4 (b + 0)) s0) then
      fX10_against_a3 s0
    else
      fX10_against_a2 s0
def fX10_against_a5 (a : Nat) (b : Nat) (s0 : zSt) : Int32 :=
    if lg_cmp (s0.1 4 (a + 0)) (s0.1 4 (b + 0)) = 0 then
      fX10_against_a1 s0
    else
      fX10_against_a4 a b s0
def fX10_against_a6 (s0 : zSt) : Int32 :=
    nI (1)
def fX10_against_a7 (s0 : zSt) : Int32 :=
    (-1 : Int32)
def fX10_against_a8 (a : Nat) (b : Nat) (s0 : zSt) : Int32 :=
    bif (vX10_isBelow (s0.1 4 (a + 1)) (s0.1 4 (b + 1)) s0) then
      fX10_against_a7 s0
    else
      fX10_against_a6 s0
def fX10_against_a9 (a : Nat) (b : Nat) (s0 : zSt) : Int32 :=
    if lg_cmp (s0.1 4 (a + 1)) (s0.1 4 (b + 1)) = 0 then
      fX10_against_a5 a b s0
    else
      fX10_against_a8 a b s0
def fX10_against_a10 (s0 : zSt) : Int32 :=
    nI (1)
def fX10_against_a11 (s0 : zSt) : Int32 :=
    (-1 : Int32)
def fX10_against_a12 (a : Nat) (b : Nat) (s0 : zSt) : Int32 :=
    bif (vX10_isBelow (s0.1 4 (a + 2)) (s0.1 4 (b + 2)) s0) then
      fX10_against_a11 s0
    else
      fX10_against_a10 s0
def fX10_against_a13 (a : Nat) (b : Nat) (s0 : zSt) : Int32 :=
    if lg_cmp (s0.1 4 (a + 2)) (s0.1 4 (b + 2)) = 0 then
      fX10_against_a9 a b s0
    else
      fX10_against_a12 a b s0
def fX10_against_a14 (s0 : zSt) : Int32 :=
    nI (1)
def fX10_against_a15 (s0 : zSt) : Int32 :=
    (-1 : Int32)
def fX10_against_a16 (a : Nat) (b : Nat) (s0 : zSt) : Int32 :=
    bif (vX10_isBelow (s0.1 4 (a + 3)) (s0.1 4 (b + 3)) s0) then
      fX10_against_a15 s0
    else
      fX10_against_a14 s0
def vX10_against (a : Nat) (b : Nat) (s0 : zSt) : Int32 :=
    if lg_cmp (s0.1 4 (a + 3)) (s0.1 4 (b + 3)) = 0 then
      fX10_against_a13 a b s0
    else
      fX10_against_a16 a b s0
set_option maxHeartbeats 4000000 in
set_option maxRecDepth 100000 in
theorem k_X10_against (l : Launch) (D : va_G) (kc : Nat → ClassId) (ad : Nat → Nat) (a : Nat) (ha : a ≤ 60) (b : Nat) (hb : b ≤ 60) (s0 : zSt) : zM l yX10_against cX10_against 4 (some .int) rX10_against (wM D kc ad) [.ref (zad (wM D kc ad) 17), .int (nI (a)), .int (nI (b))] s0 (zV1 (.int (vX10_against a b s0)) s0) := by
  refine z_of (own := RX10) (by decide +kernel) rfl (Nat.le_of_ble_eq_true rfl) ?_
  intro κ C R0
  refine j_at [(0, .ref (zad (wM D kc ad) 17)), (1, .int (nI (a))), (2, .int (nI (b)))] ⟨rfl, rfl, rfl, trivial⟩ ?_
  refine j_iconst (v := nI 3) C dX10_against_0 (by decide +kernel) ?_
  refine j_istore_n C dX10_against_1 rfl (by decide) ?_
  refine j_iload_n C dX10_against_2 rfl rfl ?_
  refine j_if_lt (tgt := 60) C dX10_against_3 (by decide) (fun q1 => False.elim (absurd q1 (by decide +kernel))) (fun q1 => ?_)
  refine j_aload_n C dX10_against_6 rfl rfl ?_
  refine j_getR C dX10_against_7 (fx_RX10_27 D kc ad) (Nat.zero_le _) (show 17 < 18 by decide) ?_
  refine j_iload_n C dX10_against_10 rfl rfl ?_
  refine j_iload_n C dX10_against_11 rfl rfl ?_
  refine j_iaddN C dX10_against_12 ?_
  refine m_lald C dX10_against_13 (⟨rfl, rfl, by decide, by decide⟩ : ma 64 4) (by omega) ?_
  refine j_aload_n C dX10_against_14 rfl rfl ?_
  refine j_getR C dX10_against_15 (fx_RX10_27 D kc ad) (Nat.zero_le _) (show 17 < 18 by decide) ?_
  refine j_iload_n C dX10_against_18 rfl rfl ?_
  refine j_iload_n C dX10_against_19 rfl rfl ?_
  refine j_iaddN C dX10_against_20 ?_
  refine m_lald C dX10_against_21 (⟨rfl, rfl, by decide, by decide⟩ : ma 64 4) (by omega) ?_
  refine j_lcmp C dX10_against_22 ?_
  refine j_if_eq (tgt := 54) C dX10_against_23 (by decide) (fun q2 => ?_) (fun q2 => ?_)
  · have hA3 : vX10_against a b s0 = fX10_against_a13 a b s0 := by have q2z := q2; (try dsimp only at q2z); unfold vX10_against; (try dsimp only); rw [if_pos q2z]; (try rfl)
    refine j_iincP C dX10_against_54 rfl (by decide) ?_
    refine j_goto (tgt := 2) C dX10_against_57 (by decide) ?_
    refine j_iload_n C dX10_against_2 rfl rfl ?_
    refine j_if_lt (tgt := 60) C dX10_against_3 (by decide) (fun q4 => False.elim (absurd q4 (by decide +kernel))) (fun q4 => ?_)
    refine j_aload_n C dX10_against_6 rfl rfl ?_
    refine j_getR C dX10_against_7 (fx_RX10_27 D kc ad) (Nat.zero_le _) (show 17 < 18 by decide) ?_
    refine j_iload_n C dX10_against_10 rfl rfl ?_
    refine j_iload_n C dX10_against_11 rfl rfl ?_
    refine j_iaddN C dX10_against_12 ?_
    refine m_lald C dX10_against_13 (⟨rfl, rfl, by decide, by decide⟩ : ma 64 4) (by omega) ?_
    refine j_aload_n C dX10_against_14 rfl rfl ?_
    refine j_getR C dX10_against_15 (fx_RX10_27 D kc ad) (Nat.zero_le _) (show 17 < 18 by decide) ?_
    refine j_iload_n C dX10_against_18 rfl rfl ?_
    refine j_iload_n C dX10_against_19 rfl rfl ?_
    refine j_iaddN C dX10_against_20 ?_
    refine m_lald C dX10_against_21 (⟨rfl, rfl, by decide, by decide⟩ : ma 64 4) (by omega) ?_
    refine j_lcmp C dX10_against_22 ?_
    refine j_if_eq (tgt := 54) C dX10_against_23 (by decide) (fun q5 => ?_) (fun q5 => ?_)
    · have hA6 : fX10_against_a13 a b s0 = fX10_against_a9 a b s0 := by have q5z := q5; (try dsimp only at q5z); unfold fX10_against_a13; (try dsimp only); rw [if_pos q5z]; (try rfl)
      refine j_iincP C dX10_against_54 rfl (by decide) ?_
      refine j_goto (tgt := 2) C dX10_against_57 (by decide) ?_
      refine j_iload_n C dX10_against_2 rfl rfl ?_
      refine j_if_lt (tgt := 60) C dX10_against_3 (by decide) (fun q7 => False.elim (absurd q7 (by decide +kernel))) (fun q7 => ?_)
      refine j_aload_n C dX10_against_6 rfl rfl ?_
      refine j_getR C dX10_against_7 (fx_RX10_27 D kc ad) (Nat.zero_le _) (show 17 < 18 by decide) ?_
      refine j_iload_n C dX10_against_10 rfl rfl ?_
      refine j_iload_n C dX10_against_11 rfl rfl ?_
      refine j_iaddN C dX10_against_12 ?_
      refine m_lald C dX10_against_13 (⟨rfl, rfl, by decide, by decide⟩ : ma 64 4) (by omega) ?_
      refine j_aload_n C dX10_against_14 rfl rfl ?_
      refine j_getR C dX10_against_15 (fx_RX10_27 D kc ad) (Nat.zero_le _) (show 17 < 18 by decide) ?_
      refine j_iload_n C dX10_against_18 rfl rfl ?_
      refine j_iload_n C dX10_against_19 rfl rfl ?_
      refine j_iaddN C dX10_against_20 ?_
      refine m_lald C dX10_against_21 (⟨rfl, rfl, by decide, by decide⟩ : ma 64 4) (by omega) ?_
      refine j_lcmp C dX10_against_22 ?_
      refine j_if_eq (tgt := 54) C dX10_against_23 (by decide) (fun q8 => ?_) (fun q8 => ?_)
      · have hA9 : fX10_against_a9 a b s0 = fX10_against_a5 a b s0 := by have q8z := q8; (try dsimp only at q8z); unfold fX10_against_a9; (try dsimp only); rw [if_pos q8z]; (try rfl)
        refine j_iincP C dX10_against_54 rfl (by decide) ?_
        refine j_goto (tgt := 2) C dX10_against_57 (by decide) ?_
        refine j_iload_n C dX10_against_2 rfl rfl ?_
        refine j_if_lt (tgt := 60) C dX10_against_3 (by decide) (fun q10 => False.elim (absurd q10 (by decide +kernel))) (fun q10 => ?_)
        refine j_aload_n C dX10_against_6 rfl rfl ?_
        refine j_getR C dX10_against_7 (fx_RX10_27 D kc ad) (Nat.zero_le _) (show 17 < 18 by decide) ?_
        refine j_iload_n C dX10_against_10 rfl rfl ?_
        refine j_iload_n C dX10_against_11 rfl rfl ?_
        refine j_iaddN C dX10_against_12 ?_
        refine m_lald C dX10_against_13 (⟨rfl, rfl, by decide, by decide⟩ : ma 64 4) (by omega) ?_
        refine j_aload_n C dX10_against_14 rfl rfl ?_
        refine j_getR C dX10_against_15 (fx_RX10_27 D kc ad) (Nat.zero_le _) (show 17 < 18 by decide) ?_
        refine j_iload_n C dX10_against_18 rfl rfl ?_
        refine j_iload_n C dX10_against_19 rfl rfl ?_
        refine j_iaddN C dX10_against_20 ?_
        refine m_lald C dX10_against_21 (⟨rfl, rfl, by decide, by decide⟩ : ma 64 4) (by omega) ?_
        refine j_lcmp C dX10_against_22 ?_
        refine j_if_eq (tgt := 54) C dX10_against_23 (by decide) (fun q11 => ?_) (fun q11 => ?_)
        · have hA12 : fX10_against_a5 a b s0 = fX10_against_a1 s0 := by have q11z := q11; (try dsimp only at q11z); unfold fX10_against_a5; (try dsimp only); rw [if_pos q11z]; (try rfl)
          refine j_iincD C dX10_against_54 rfl (by decide) ?_
          refine j_goto (tgt := 2) C dX10_against_57 (by decide) ?_
          refine j_iload_n C dX10_against_2 rfl rfl ?_
          refine j_if_lt (tgt := 60) C dX10_against_3 (by decide) (fun q13 => ?_) (fun q13 => False.elim (absurd dI_0 q13))
          refine j_iconst (v := nI 0) C dX10_against_60 (by decide +kernel) ?_
          exact j_iret (st := []) C R0 dX10_against_61 ⟨(by rw [hA3, hA6, hA9, hA12]; unfold fX10_against_a1; (try dsimp only); all_goals ((try simp only [zfst_mk, zsnd_mk]); all_goals rfl)), ((by rfl))⟩
        · have hA14 : fX10_against_a5 a b s0 = fX10_against_a4 a b s0 := by have q11z := q11; (try dsimp only at q11z); unfold fX10_against_a5; (try dsimp only); rw [if_neg q11z]; (try rfl)
          refine j_aload_n C dX10_against_26 rfl rfl ?_
          refine j_getR C dX10_against_27 (fx_RX10_27 D kc ad) (Nat.zero_le _) (show 17 < 18 by decide) ?_
          refine j_iload_n C dX10_against_30 rfl rfl ?_
          refine j_iload_n C dX10_against_31 rfl rfl ?_
          refine j_iaddN C dX10_against_32 ?_
          refine m_lald C dX10_against_33 (⟨rfl, rfl, by decide, by decide⟩ : ma 64 4) (by omega) ?_
          refine j_aload_n C dX10_against_34 rfl rfl ?_
          refine j_getR C dX10_against_35 (fx_RX10_27 D kc ad) (Nat.zero_le _) (show 17 < 18 by decide) ?_
          refine j_iload_n C dX10_against_38 rfl rfl ?_
          refine j_iload_n C dX10_against_39 rfl rfl ?_
          refine j_iaddN C dX10_against_40 ?_
          refine m_lald C dX10_against_41 (⟨rfl, rfl, by decide, by decide⟩ : ma 64 4) (by omega) ?_
          refine j_callS1 C dX10_against_42 (k_X10_isBelow l D kc ad (s0.1 4 (a + 0)) (s0.1 4 (b + 0)) _ ) zy_X10_isBelow mw_13_0 rfl rfl (Nat.le_of_ble_eq_true rfl) ⟨rfl, rfl, Nat.le_of_ble_eq_true rfl, Nat.le_of_ble_eq_true rfl⟩ ?_
          refine j_if_eqB (tgt := 52) C dX10_against_45 (by decide) (fun q15 => ?_) (fun q15 => ?_)
          · have hA16 : fX10_against_a4 a b s0 = fX10_against_a2 s0 := by have q15z := q15; (try dsimp only at q15z); unfold fX10_against_a4; (try dsimp only); rw [q15z, cond_false]; (try rfl)
            refine j_iconst (v := nI 1) C dX10_against_52 (by decide +kernel) ?_
            exact j_iret (st := []) C R0 dX10_against_53 ⟨(by rw [hA3, hA6, hA9, hA14, hA16]; unfold fX10_against_a2; (try dsimp only); all_goals ((try simp only [zfst_mk, zsnd_mk]); all_goals rfl)), ((by rfl))⟩
          · have hA17 : fX10_against_a4 a b s0 = fX10_against_a3 s0 := by have q15z := q15; (try dsimp only at q15z); unfold fX10_against_a4; (try dsimp only); rw [q15z, cond_true]; (try rfl)
            refine j_iconst (v := -1) C dX10_against_48 (by decide +kernel) ?_
            refine j_goto (tgt := 53) C dX10_against_49 (by decide) ?_
            exact j_iret (st := []) C R0 dX10_against_53 ⟨(by rw [hA3, hA6, hA9, hA14, hA17]; unfold fX10_against_a3; (try dsimp only); all_goals ((try simp only [zfst_mk, zsnd_mk]); all_goals rfl)), ((by rfl))⟩
      · have hA18 : fX10_against_a9 a b s0 = fX10_against_a8 a b s0 := by have q8z := q8; (try dsimp only at q8z); unfold fX10_against_a9; (try dsimp only); rw [if_neg q8z]; (try rfl)
        refine j_aload_n C dX10_against_26 rfl rfl ?_
        refine j_getR C dX10_against_27 (fx_RX10_27 D kc ad) (Nat.zero_le _) (show 17 < 18 by decide) ?_
        refine j_iload_n C dX10_against_30 rfl rfl ?_
        refine j_iload_n C dX10_against_31 rfl rfl ?_
        refine j_iaddN C dX10_against_32 ?_
        refine m_lald C dX10_against_33 (⟨rfl, rfl, by decide, by decide⟩ : ma 64 4) (by omega) ?_
        refine j_aload_n C dX10_against_34 rfl rfl ?_
        refine j_getR C dX10_against_35 (fx_RX10_27 D kc ad) (Nat.zero_le _) (show 17 < 18 by decide) ?_
        refine j_iload_n C dX10_against_38 rfl rfl ?_
        refine j_iload_n C dX10_against_39 rfl rfl ?_
        refine j_iaddN C dX10_against_40 ?_
        refine m_lald C dX10_against_41 (⟨rfl, rfl, by decide, by decide⟩ : ma 64 4) (by omega) ?_
        refine j_callS1 C dX10_against_42 (k_X10_isBelow l D kc ad (s0.1 4 (a + 1)) (s0.1 4 (b + 1)) _ ) zy_X10_isBelow mw_13_0 rfl rfl (Nat.le_of_ble_eq_true rfl) ⟨rfl, rfl, Nat.le_of_ble_eq_true rfl, Nat.le_of_ble_eq_true rfl⟩ ?_
        refine j_if_eqB (tgt := 52) C dX10_against_45 (by decide) (fun q19 => ?_) (fun q19 => ?_)
        · have hA20 : fX10_against_a8 a b s0 = fX10_against_a6 s0 := by have q19z := q19; (try dsimp only at q19z); unfold fX10_against_a8; (try dsimp only); rw [q19z, cond_false]; (try rfl)
          refine j_iconst (v := nI 1) C dX10_against_52 (by decide +kernel) ?_
          exact j_iret (st := []) C R0 dX10_against_53 ⟨(by rw [hA3, hA6, hA18, hA20]; unfold fX10_against_a6; (try dsimp only); all_goals ((try simp only [zfst_mk, zsnd_mk]); all_goals rfl)), ((by rfl))⟩
        · have hA21 : fX10_against_a8 a b s0 = fX10_against_a7 s0 := by have q19z := q19; (try dsimp only at q19z); unfold fX10_against_a8; (try dsimp only); rw [q19z, cond_true]; (try rfl)
          refine j_iconst (v := -1) C dX10_against_48 (by decide +kernel) ?_
          refine j_goto (tgt := 53) C dX10_against_49 (by decide) ?_
          exact j_iret (st := []) C R0 dX10_against_53 ⟨(by rw [hA3, hA6, hA18, hA21]; unfold fX10_against_a7; (try dsimp only); all_goals ((try simp only [zfst_mk, zsnd_mk]); all_goals rfl)), ((by rfl))⟩
    · have hA22 : fX10_against_a13 a b s0 = fX10_against_a12 a b s0 := by have q5z := q5; (try dsimp only at q5z); unfold fX10_against_a13; (try dsimp only); rw [if_neg q5z]; (try rfl)
      refine j_aload_n C dX10_against_26 rfl rfl ?_
      refine j_getR C dX10_against_27 (fx_RX10_27 D kc ad) (Nat.zero_le _) (show 17 < 18 by decide) ?_
      refine j_iload_n C dX10_against_30 rfl rfl ?_
      refine j_iload_n C dX10_against_31 rfl rfl ?_
      refine j_iaddN C dX10_against_32 ?_
      refine m_lald C dX10_against_33 (⟨rfl, rfl, by decide, by decide⟩ : ma 64 4) (by omega) ?_
      refine j_aload_n C dX10_against_34 rfl rfl ?_
      refine j_getR C dX10_against_35 (fx_RX10_27 D kc ad) (Nat.zero_le _) (show 17 < 18 by decide) ?_
      refine j_iload_n C dX10_against_38 rfl rfl ?_
      refine j_iload_n C dX10_against_39 rfl rfl ?_
      refine j_iaddN C dX10_against_40 ?_
      refine m_lald C dX10_against_41 (⟨rfl, rfl, by decide, by decide⟩ : ma 64 4) (by omega) ?_
      refine j_callS1 C dX10_against_42 (k_X10_isBelow l D kc ad (s0.1 4 (a + 2)) (s0.1 4 (b + 2)) _ ) zy_X10_isBelow mw_13_0 rfl rfl (Nat.le_of_ble_eq_true rfl) ⟨rfl, rfl, Nat.le_of_ble_eq_true rfl, Nat.le_of_ble_eq_true rfl⟩ ?_
      refine j_if_eqB (tgt := 52) C dX10_against_45 (by decide) (fun q23 => ?_) (fun q23 => ?_)
      · have hA24 : fX10_against_a12 a b s0 = fX10_against_a10 s0 := by have q23z := q23; (try dsimp only at q23z); unfold fX10_against_a12; (try dsimp only); rw [q23z, cond_false]; (try rfl)
        refine j_iconst (v := nI 1) C dX10_against_52 (by decide +kernel) ?_
        exact j_iret (st := []) C R0 dX10_against_53 ⟨(by rw [hA3, hA22, hA24]; unfold fX10_against_a10; (try dsimp only); all_goals ((try simp only [zfst_mk, zsnd_mk]); all_goals rfl)), ((by rfl))⟩
      · have hA25 : fX10_against_a12 a b s0 = fX10_against_a11 s0 := by have q23z := q23; (try dsimp only at q23z); unfold fX10_against_a12; (try dsimp only); rw [q23z, cond_true]; (try rfl)
        refine j_iconst (v := -1) C dX10_against_48 (by decide +kernel) ?_
        refine j_goto (tgt := 53) C dX10_against_49 (by decide) ?_
        exact j_iret (st := []) C R0 dX10_against_53 ⟨(by rw [hA3, hA22, hA25]; unfold fX10_against_a11; (try dsimp only); all_goals ((try simp only [zfst_mk, zsnd_mk]); all_goals rfl)), ((by rfl))⟩
  · have hA26 : vX10_against a b s0 = fX10_against_a16 a b s0 := by have q2z := q2; (try dsimp only at q2z); unfold vX10_against; (try dsimp only); rw [if_neg q2z]; (try rfl)
    refine j_aload_n C dX10_against_26 rfl rfl ?_
    refine j_getR C dX10_against_27 (fx_RX10_27 D kc ad) (Nat.zero_le _) (show 17 < 18 by decide) ?_
    refine j_iload_n C dX10_against_30 rfl rfl ?_
    refine j_iload_n C dX10_against_31 rfl rfl ?_
    refine j_iaddN C dX10_against_32 ?_
    refine m_lald C dX10_against_33 (⟨rfl, rfl, by decide, by decide⟩ : ma 64 4) (by omega) ?_
    refine j_aload_n C dX10_against_34 rfl rfl ?_
    refine j_getR C dX10_against_35 (fx_RX10_27 D kc ad) (Nat.zero_le _) (show 17 < 18 by decide) ?_
    refine j_iload_n C dX10_against_38 rfl rfl ?_
    refine j_iload_n C dX10_against_39 rfl rfl ?_
    refine j_iaddN C dX10_against_40 ?_
    refine m_lald C dX10_against_41 (⟨rfl, rfl, by decide, by decide⟩ : ma 64 4) (by omega) ?_
    refine j_callS1 C dX10_against_42 (k_X10_isBelow l D kc ad (s0.1 4 (a + 3)) (s0.1 4 (b + 3)) _ ) zy_X10_isBelow mw_13_0 rfl rfl (Nat.le_of_ble_eq_true rfl) ⟨rfl, rfl, Nat.le_of_ble_eq_true rfl, Nat.le_of_ble_eq_true rfl⟩ ?_
    refine j_if_eqB (tgt := 52) C dX10_against_45 (by decide) (fun q27 => ?_) (fun q27 => ?_)
    · have hA28 : fX10_against_a16 a b s0 = fX10_against_a14 s0 := by have q27z := q27; (try dsimp only at q27z); unfold fX10_against_a16; (try dsimp only); rw [q27z, cond_false]; (try rfl)
      refine j_iconst (v := nI 1) C dX10_against_52 (by decide +kernel) ?_
      exact j_iret (st := []) C R0 dX10_against_53 ⟨(by rw [hA26, hA28]; unfold fX10_against_a14; (try dsimp only); all_goals ((try simp only [zfst_mk, zsnd_mk]); all_goals rfl)), ((by rfl))⟩
    · have hA29 : fX10_against_a16 a b s0 = fX10_against_a15 s0 := by have q27z := q27; (try dsimp only at q27z); unfold fX10_against_a16; (try dsimp only); rw [q27z, cond_true]; (try rfl)
      refine j_iconst (v := -1) C dX10_against_48 (by decide +kernel) ?_
      refine j_goto (tgt := 53) C dX10_against_49 (by decide) ?_
      exact j_iret (st := []) C R0 dX10_against_53 ⟨(by rw [hA26, hA29]; unfold fX10_against_a15; (try dsimp only); all_goals ((try simp only [zfst_mk, zsnd_mk]); all_goals rfl)), ((by rfl))⟩

def fX10_put_3 (r : Nat) (i1 : Nat) (z2 : zSt) : zSt :=
    let t4 := zW z2 2 ((16 * r) + i1) ((0 : Int64))
    t4
def fX10_put (r : Nat) (v : Int64) (s0 : zSt) : zSt :=
    let u7 := ziter (fX10_put_3 r) 0 16 s0
    let t9 := zW u7 2 (16 * r) (v &&& ((65535 : Int64)))
    let t10 := zW t9 2 ((16 * r) + 1) (zsr v 16)
    t10
set_option maxHeartbeats 4000000 in
set_option maxRecDepth 100000 in
theorem k_X10_put (l : Launch) (D : va_G) (kc : Nat → ClassId) (ad : Nat → Nat) (r : Nat) (hr : r < 48) (v : Int64) (s0 : zSt) : zM l yX10_put cX10_put 5 none rX10_put (wM D kc ad) [.ref (zad (wM D kc ad) 17), .int (nI (r)), .long v] s0 (zV0 (fX10_put r v s0)) := by
  refine z_of (own := RX10) (by decide +kernel) rfl (Nat.le_of_ble_eq_true rfl) ?_
  intro κ C R0
  refine j_at [(0, .ref (zad (wM D kc ad) 17)), (1, .int (nI (r))), (2, .long v)] ⟨rfl, rfl, rfl, trivial⟩ ?_
  refine j_iconst (v := nI 0) C dX10_put_0 (by decide +kernel) ?_
  refine j_istore C dX10_put_1 (by decide) ?_
  refine j_at [(0, .ref (zad (wM D kc ad) 17)), (1, .int (nI (r))), (2, .long v), (4, .int (nI (0)))] ⟨rfl, rfl, rfl, rfl, trivial⟩ ?_
  refine z_up (α := zSt) (fun (i1 : Nat) (z2 : zSt) => zJ κ (wM D kc ad) 3 (zlof [(0, .ref (zad (wM D kc ad) 17)), (1, .int (nI (r))), (2, .long v), (4, .int (nI (i1)))]) [] z2) (fX10_put_3 r) (fun _ _ => True) 16 ?_ (fun _ _ _ _ => trivial) 16 0 s0 (by omega) trivial ?_
  · intro i1 z2 hi1 hIi1 k0
    refine j_iload C dX10_put_3 rfl ?_
    refine j_bipush (v := nI 16) C dX10_put_5 (by decide +kernel) ?_
    refine j_icmp_geN (tgt := 29) C dX10_put_7 (by decide) (by omega) (by omega) (fun q3 => False.elim (by omega)) (fun q3 => ?_)
    refine j_aload_n C dX10_put_10 rfl rfl ?_
    refine j_getR C dX10_put_11 (fx_RX10_21 D kc ad) (Nat.zero_le _) (show 17 < 18 by decide) ?_
    refine j_bipush (v := nI 16) C dX10_put_14 (by decide +kernel) ?_
    refine j_iload_n C dX10_put_16 rfl rfl ?_
    refine j_imulN C dX10_put_17 ?_
    refine j_iload C dX10_put_18 rfl ?_
    refine j_iaddN C dX10_put_20 ?_
    refine j_lconst (v := 0) C dX10_put_21 rfl ?_
    refine m_last C dX10_put_22 (⟨rfl, rfl, by decide, by decide⟩ : ma 768 2) (by omega) ?_
    refine j_nmS (fun t4 et4 => ?_)
    refine j_iincN (b := 1) C dX10_put_23 rfl (by decide +kernel) (by decide) ?_
    refine j_goto (tgt := 3) C dX10_put_26 (by decide) ?_
    refine j_nmS (fun t5 et5 => ?_)
    refine j_at [(0, .ref (zad (wM D kc ad) 17)), (1, .int (nI (r))), (2, .long v), (4, .int (nI (i1 + 1)))] ⟨rfl, rfl, rfl, rfl, trivial⟩ ?_
    have eF : (fX10_put_3 r) i1 z2 = t5 := by rw [et5]; (try rw [et4]); unfold fX10_put_3; first | done | (dsimp only; done) | rfl
    exact Eq.mp (congrArg (fun (z6 : zSt) => zJ κ (wM D kc ad) 3 (zlof [(0, .ref (zad (wM D kc ad) 17)), (1, .int (nI (r))), (2, .long v), (4, .int (nI (i1 + 1)))]) [] z6) eF) (k0 trivial)
  · intro hIi1
    refine z_nm (P := fun (z2 : zSt) => zJ κ (wM D kc ad) 3 (zlof [(0, .ref (zad (wM D kc ad) 17)), (1, .int (nI (r))), (2, .long v), (4, .int (nI (16)))]) [] z2) (fun u7 eu7 => ?_)
    refine j_iload C dX10_put_3 rfl ?_
    refine j_bipush (v := nI 16) C dX10_put_5 (by decide +kernel) ?_
    refine j_icmp_geN (tgt := 29) C dX10_put_7 (by decide) (by omega) (by omega) (fun q8 => ?_) (fun q8 => False.elim (by omega))
    refine j_aload_n C dX10_put_29 rfl rfl ?_
    refine j_getR C dX10_put_30 (fx_RX10_21 D kc ad) (Nat.zero_le _) (show 17 < 18 by decide) ?_
    refine j_bipush (v := nI 16) C dX10_put_33 (by decide +kernel) ?_
    refine j_iload_n C dX10_put_35 rfl rfl ?_
    refine j_imulN C dX10_put_36 ?_
    refine j_lload_n C dX10_put_37 rfl rfl ?_
    refine j_ldc2 C dX10_put_38 mw_10_19 ?_
    refine j_land C dX10_put_41 ?_
    refine m_last C dX10_put_42 (⟨rfl, rfl, by decide, by decide⟩ : ma 768 2) (by omega) ?_
    refine j_nmS (fun t9 et9 => ?_)
    refine j_aload_n C dX10_put_43 rfl rfl ?_
    refine j_getR C dX10_put_44 (fx_RX10_21 D kc ad) (Nat.zero_le _) (show 17 < 18 by decide) ?_
    refine j_bipush (v := nI 16) C dX10_put_47 (by decide +kernel) ?_
    refine j_iload_n C dX10_put_49 rfl rfl ?_
    refine j_imulN C dX10_put_50 ?_
    refine j_iconst (v := nI 1) C dX10_put_51 (by decide +kernel) ?_
    refine j_iaddN C dX10_put_52 ?_
    refine j_lload_n C dX10_put_53 rfl rfl ?_
    refine j_bipush (v := nI 16) C dX10_put_54 (by decide +kernel) ?_
    refine j_lshr C dX10_put_56 (by omega) ?_
    refine m_last C dX10_put_57 (⟨rfl, rfl, by decide, by decide⟩ : ma 768 2) (by omega) ?_
    refine j_nmS (fun t10 et10 => ?_)
    exact j_vret (st := []) C R0 dX10_put_58 ⟨rfl, (by (try rw [et10]); (try rw [et9]); (try rw [eu7]); unfold fX10_put; (try dsimp only); all_goals ((try simp only [zfst_mk, zsnd_mk]); all_goals rfl))⟩
theorem k2_fX10_put_3 (r : Nat) (i1 : Nat) (z2 : zSt) : zk2 (fX10_put_3 r i1 z2) = zk2 z2 := by
  unfold fX10_put_3
  (try dsimp only)
  all_goals (simp only [zW_2, zL_2]; done)
theorem k2it_fX10_put_3 (r : Nat) (nn ii : Nat) (xx : zSt) : zk2 (ziter (fX10_put_3 r) ii nn xx) = zk2 xx := ziter_keep (fun x => zk2 x) _ (k2_fX10_put_3 r) nn ii xx
theorem k2_fX10_put (r : Nat) (v : Int64) (s0 : zSt) : zk2 (fX10_put r v s0) = zk2 s0 := by
  unfold fX10_put
  (try dsimp only)
  all_goals (simp only [zW_2, zL_2, k2_fX10_put_3, k2it_fX10_put_3]; done)
theorem i2_fX10_put (r : Nat) (v : Int64) (s0 : zSt) (kk9 : Nat) : (fX10_put r v s0).2.2 kk9 = s0.2.2 kk9 := z2_I (k2_fX10_put r v s0) kk9
theorem i3_fX10_put (r : Nat) (v : Int64) (s0 : zSt) (kk9 : Nat) : zi (fX10_put r v s0) kk9 = zi s0 kk9 := zi_of (k2_fX10_put r v s0) kk9

def fX10_copyOf_2 (r : Nat) (a : Nat) (i1 : Nat) (z2 : zSt) : zSt :=
    let t4 := zW z2 2 ((16 * r) + i1) (z2.1 2 ((16 * a) + i1))
    t4
def fX10_copyOf (r : Nat) (a : Nat) (s0 : zSt) : zSt :=
    let u7 := ziter (fX10_copyOf_2 r a) 0 16 s0
    u7
set_option maxHeartbeats 4000000 in
set_option maxRecDepth 100000 in
theorem k_X10_copyOf (l : Launch) (D : va_G) (kc : Nat → ClassId) (ad : Nat → Nat) (r : Nat) (hr : r < 48) (a : Nat) (ha : a < 48) (s0 : zSt) : zM l yX10_copyOf cX10_copyOf 4 none rX10_copyOf (wM D kc ad) [.ref (zad (wM D kc ad) 17), .int (nI (r)), .int (nI (a))] s0 (zV0 (fX10_copyOf r a s0)) := by
  refine z_of (own := RX10) (by decide +kernel) rfl (Nat.le_of_ble_eq_true rfl) ?_
  intro κ C R0
  refine j_at [(0, .ref (zad (wM D kc ad) 17)), (1, .int (nI (r))), (2, .int (nI (a)))] ⟨rfl, rfl, rfl, trivial⟩ ?_
  refine j_iconst (v := nI 0) C dX10_copyOf_0 (by decide +kernel) ?_
  refine j_istore_n C dX10_copyOf_1 rfl (by decide) ?_
  refine j_at [(0, .ref (zad (wM D kc ad) 17)), (1, .int (nI (r))), (2, .int (nI (a))), (3, .int (nI (0)))] ⟨rfl, rfl, rfl, rfl, trivial⟩ ?_
  refine z_up (α := zSt) (fun (i1 : Nat) (z2 : zSt) => zJ κ (wM D kc ad) 2 (zlof [(0, .ref (zad (wM D kc ad) 17)), (1, .int (nI (r))), (2, .int (nI (a))), (3, .int (nI (i1)))]) [] z2) (fX10_copyOf_2 r a) (fun _ _ => True) 16 ?_ (fun _ _ _ _ => trivial) 16 0 s0 (by omega) trivial ?_
  · intro i1 z2 hi1 hIi1 k0
    refine j_iload_n C dX10_copyOf_2 rfl rfl ?_
    refine j_bipush (v := nI 16) C dX10_copyOf_3 (by decide +kernel) ?_
    refine j_icmp_geN (tgt := 36) C dX10_copyOf_5 (by decide) (by omega) (by omega) (fun q3 => False.elim (by omega)) (fun q3 => ?_)
    refine j_aload_n C dX10_copyOf_8 rfl rfl ?_
    refine j_getR C dX10_copyOf_9 (fx_RX10_21 D kc ad) (Nat.zero_le _) (show 17 < 18 by decide) ?_
    refine j_bipush (v := nI 16) C dX10_copyOf_12 (by decide +kernel) ?_
    refine j_iload_n C dX10_copyOf_14 rfl rfl ?_
    refine j_imulN C dX10_copyOf_15 ?_
    refine j_iload_n C dX10_copyOf_16 rfl rfl ?_
    refine j_iaddN C dX10_copyOf_17 ?_
    refine j_aload_n C dX10_copyOf_18 rfl rfl ?_
    refine j_getR C dX10_copyOf_19 (fx_RX10_21 D kc ad) (Nat.zero_le _) (show 17 < 18 by decide) ?_
    refine j_bipush (v := nI 16) C dX10_copyOf_22 (by decide +kernel) ?_
    refine j_iload_n C dX10_copyOf_24 rfl rfl ?_
    refine j_imulN C dX10_copyOf_25 ?_
    refine j_iload_n C dX10_copyOf_26 rfl rfl ?_
    refine j_iaddN C dX10_copyOf_27 ?_
    refine m_lald C dX10_copyOf_28 (⟨rfl, rfl, by decide, by decide⟩ : ma 768 2) (by omega) ?_
    refine m_last C dX10_copyOf_29 (⟨rfl, rfl, by decide, by decide⟩ : ma 768 2) (by omega) ?_
    refine j_nmS (fun t4 et4 => ?_)
    refine j_iincN (b := 1) C dX10_copyOf_30 rfl (by decide +kernel) (by decide) ?_
    refine j_goto (tgt := 2) C dX10_copyOf_33 (by decide) ?_
    refine j_nmS (fun t5 et5 => ?_)
    refine j_at [(0, .ref (zad (wM D kc ad) 17)), (1, .int (nI (r))), (2, .int (nI (a))), (3, .int (nI (i1 + 1)))] ⟨rfl, rfl, rfl, rfl, trivial⟩ ?_
    have eF : (fX10_copyOf_2 r a) i1 z2 = t5 := by rw [et5]; (try rw [et4]); unfold fX10_copyOf_2; first | done | (dsimp only; done) | rfl
    exact Eq.mp (congrArg (fun (z6 : zSt) => zJ κ (wM D kc ad) 2 (zlof [(0, .ref (zad (wM D kc ad) 17)), (1, .int (nI (r))), (2, .int (nI (a))), (3, .int (nI (i1 + 1)))]) [] z6) eF) (k0 trivial)
  · intro hIi1
    refine z_nm (P := fun (z2 : zSt) => zJ κ (wM D kc ad) 2 (zlof [(0, .ref (zad (wM D kc ad) 17)), (1, .int (nI (r))), (2, .int (nI (a))), (3, .int (nI (16)))]) [] z2) (fun u7 eu7 => ?_)
    refine j_iload_n C dX10_copyOf_2 rfl rfl ?_
    refine j_bipush (v := nI 16) C dX10_copyOf_3 (by decide +kernel) ?_
    refine j_icmp_geN (tgt := 36) C dX10_copyOf_5 (by decide) (by omega) (by omega) (fun q8 => ?_) (fun q8 => False.elim (by omega))
    exact j_vret (st := []) C R0 dX10_copyOf_36 ⟨rfl, (by (try rw [eu7]); unfold fX10_copyOf; (try dsimp only); all_goals ((try simp only [zfst_mk, zsnd_mk]); all_goals rfl))⟩
theorem k2_fX10_copyOf_2 (r : Nat) (a : Nat) (i1 : Nat) (z2 : zSt) : zk2 (fX10_copyOf_2 r a i1 z2) = zk2 z2 := by
  unfold fX10_copyOf_2
  (try dsimp only)
  all_goals (simp only [zW_2, zL_2]; done)
theorem k2it_fX10_copyOf_2 (r : Nat) (a : Nat) (nn ii : Nat) (xx : zSt) : zk2 (ziter (fX10_copyOf_2 r a) ii nn xx) = zk2 xx := ziter_keep (fun x => zk2 x) _ (k2_fX10_copyOf_2 r a) nn ii xx
theorem k2_fX10_copyOf (r : Nat) (a : Nat) (s0 : zSt) : zk2 (fX10_copyOf r a s0) = zk2 s0 := by
  unfold fX10_copyOf
  (try dsimp only)
  all_goals (simp only [zW_2, zL_2, k2_fX10_copyOf_2, k2it_fX10_copyOf_2]; done)
theorem i2_fX10_copyOf (r : Nat) (a : Nat) (s0 : zSt) (kk9 : Nat) : (fX10_copyOf r a s0).2.2 kk9 = s0.2.2 kk9 := z2_I (k2_fX10_copyOf r a s0) kk9
theorem i3_fX10_copyOf (r : Nat) (a : Nat) (s0 : zSt) (kk9 : Nat) : zi (fX10_copyOf r a s0) kk9 = zi s0 kk9 := zi_of (k2_fX10_copyOf r a s0) kk9

def fX10_reduce_a1 (r : Nat) (x4 : Int64) (t5 : zSt) : zSt :=
    let t8 := zW t5 2 (16 * r) ((t5.1 2 (16 * r)) + (((38 : Int64)) * x4))
    t8
def fX10_reduce_a2 (r : Nat) (i1 : Nat) (x4 : Int64) (t5 : zSt) : zSt :=
    let t12 := zW t5 2 (((16 * r) + i1) + 1) ((t5.1 2 (((16 * r) + i1) + 1)) + x4)
    t12
def fX10_reduce_2 (r : Nat) (i1 : Nat) (z2 : zSt) : zSt :=
    let x4 := zsr (z2.1 2 ((16 * r) + i1)) 16
    let t5 := zW z2 2 ((16 * r) + i1) ((z2.1 2 ((16 * r) + i1)) - (zsl x4 16))
    if 15 ≤ i1 then
      fX10_reduce_a1 r x4 t5
    else
      fX10_reduce_a2 r i1 x4 t5
def fX10_reduce (r : Nat) (s0 : zSt) : zSt :=
    let u15 := ziter (fX10_reduce_2 r) 0 16 s0
    u15
set_option maxHeartbeats 4000000 in
set_option maxRecDepth 100000 in
theorem k_X10_reduce (l : Launch) (D : va_G) (kc : Nat → ClassId) (ad : Nat → Nat) (r : Nat) (hr : r < 48) (s0 : zSt) : zM l yX10_reduce cX10_reduce 5 none rX10_reduce (wM D kc ad) [.ref (zad (wM D kc ad) 17), .int (nI (r))] s0 (zV0 (fX10_reduce r s0)) := by
  refine z_of (own := RX10) (by decide +kernel) rfl (Nat.le_of_ble_eq_true rfl) ?_
  intro κ C R0
  refine j_at [(0, .ref (zad (wM D kc ad) 17)), (1, .int (nI (r)))] ⟨rfl, rfl, trivial⟩ ?_
  refine j_iconst (v := nI 0) C dX10_reduce_0 (by decide +kernel) ?_
  refine j_istore_n C dX10_reduce_1 rfl (by decide) ?_
  refine j_at [(0, .ref (zad (wM D kc ad) 17)), (1, .int (nI (r))), (2, .int (nI (0)))] ⟨rfl, rfl, rfl, trivial⟩ ?_
  refine z_up (α := zSt) (fun (i1 : Nat) (z2 : zSt) => zJ κ (wM D kc ad) 2 (zlof [(0, .ref (zad (wM D kc ad) 17)), (1, .int (nI (r))), (2, .int (nI (i1)))]) [] z2) (fX10_reduce_2 r) (fun _ _ => True) 16 ?_ (fun _ _ _ _ => trivial) 16 0 s0 (by omega) trivial ?_
  · intro i1 z2 hi1 hIi1 k0
    refine j_iload_n C dX10_reduce_2 rfl rfl ?_
    refine j_bipush (v := nI 16) C dX10_reduce_3 (by decide +kernel) ?_
    refine j_icmp_geN (tgt := 90) C dX10_reduce_5 (by decide) (by omega) (by omega) (fun q3 => False.elim (by omega)) (fun q3 => ?_)
    refine j_aload_n C dX10_reduce_8 rfl rfl ?_
    refine j_getR C dX10_reduce_9 (fx_RX10_21 D kc ad) (Nat.zero_le _) (show 17 < 18 by decide) ?_
    refine j_bipush (v := nI 16) C dX10_reduce_12 (by decide +kernel) ?_
    refine j_iload_n C dX10_reduce_14 rfl rfl ?_
    refine j_imulN C dX10_reduce_15 ?_
    refine j_iload_n C dX10_reduce_16 rfl rfl ?_
    refine j_iaddN C dX10_reduce_17 ?_
    refine m_lald C dX10_reduce_18 (⟨rfl, rfl, by decide, by decide⟩ : ma 768 2) (by omega) ?_
    refine j_bipush (v := nI 16) C dX10_reduce_19 (by decide +kernel) ?_
    refine j_lshr C dX10_reduce_21 (by omega) ?_
    refine j_nmL (fun x4 ex4 => ?_)
    refine j_lstore_n C dX10_reduce_22 rfl (by decide) ?_
    refine j_aload_n C dX10_reduce_23 rfl rfl ?_
    refine j_getR C dX10_reduce_24 (fx_RX10_21 D kc ad) (Nat.zero_le _) (show 17 < 18 by decide) ?_
    refine j_bipush (v := nI 16) C dX10_reduce_27 (by decide +kernel) ?_
    refine j_iload_n C dX10_reduce_29 rfl rfl ?_
    refine j_imulN C dX10_reduce_30 ?_
    refine j_iload_n C dX10_reduce_31 rfl rfl ?_
    refine j_iaddN C dX10_reduce_32 ?_
    refine j_dup2 C dX10_reduce_33 rfl rfl ?_
    refine m_lald C dX10_reduce_34 (⟨rfl, rfl, by decide, by decide⟩ : ma 768 2) (by omega) ?_
    refine j_lload_n C dX10_reduce_35 rfl rfl ?_
    refine j_bipush (v := nI 16) C dX10_reduce_36 (by decide +kernel) ?_
    refine j_lshl C dX10_reduce_38 (by omega) ?_
    refine j_lsub C dX10_reduce_39 ?_
    refine m_last C dX10_reduce_40 (⟨rfl, rfl, by decide, by decide⟩ : ma 768 2) (by omega) ?_
    refine j_nmS (fun t5 et5 => ?_)
    refine j_iload_n C dX10_reduce_41 rfl rfl ?_
    refine j_bipush (v := nI 15) C dX10_reduce_42 (by decide +kernel) ?_
    refine j_icmp_geN (tgt := 67) C dX10_reduce_44 (by decide) (by omega) (by omega) (fun q6 => ?_) (fun q6 => ?_)
    · have hA7 : (fX10_reduce_2 r) i1 z2 = fX10_reduce_a1 r x4 t5 := by (try rw [et5]); (try rw [ex4]); have q6z := q6; (try rw [et5] at q6z); (try rw [ex4] at q6z); (try dsimp only at q6z); unfold fX10_reduce_2; (try dsimp only); rw [if_pos q6z]; (try rfl)
      refine j_aload_n C dX10_reduce_67 rfl rfl ?_
      refine j_getR C dX10_reduce_68 (fx_RX10_21 D kc ad) (Nat.zero_le _) (show 17 < 18 by decide) ?_
      refine j_bipush (v := nI 16) C dX10_reduce_71 (by decide +kernel) ?_
      refine j_iload_n C dX10_reduce_73 rfl rfl ?_
      refine j_imulN C dX10_reduce_74 ?_
      refine j_dup2 C dX10_reduce_75 rfl rfl ?_
      refine m_lald C dX10_reduce_76 (⟨rfl, rfl, by decide, by decide⟩ : ma 768 2) (by omega) ?_
      refine j_ldc2 C dX10_reduce_77 mw_11_8 ?_
      refine j_lload_n C dX10_reduce_80 rfl rfl ?_
      refine j_lmul C dX10_reduce_81 ?_
      refine j_ladd C dX10_reduce_82 ?_
      refine m_last C dX10_reduce_83 (⟨rfl, rfl, by decide, by decide⟩ : ma 768 2) (by omega) ?_
      refine j_nmS (fun t8 et8 => ?_)
      refine j_iincN (b := 1) C dX10_reduce_84 rfl (by decide +kernel) (by decide) ?_
      refine j_goto (tgt := 2) C dX10_reduce_87 (by decide) ?_
      refine j_nmS (fun t9 et9 => ?_)
      refine j_at [(0, .ref (zad (wM D kc ad) 17)), (1, .int (nI (r))), (2, .int (nI (i1 + 1)))] ⟨rfl, rfl, rfl, trivial⟩ ?_
      have eF : (fX10_reduce_2 r) i1 z2 = t9 := by rw [hA7]; rw [et9]; (try rw [et8]); unfold fX10_reduce_a1; first | done | (dsimp only; done) | rfl
      exact Eq.mp (congrArg (fun (z10 : zSt) => zJ κ (wM D kc ad) 2 (zlof [(0, .ref (zad (wM D kc ad) 17)), (1, .int (nI (r))), (2, .int (nI (i1 + 1)))]) [] z10) eF) (k0 trivial)
    · have hA11 : (fX10_reduce_2 r) i1 z2 = fX10_reduce_a2 r i1 x4 t5 := by (try rw [et5]); (try rw [ex4]); have q6z : ¬ (15 ≤ i1) := (by omega); (try rw [et5] at q6z); (try rw [ex4] at q6z); (try dsimp only at q6z); unfold fX10_reduce_2; (try dsimp only); rw [if_neg q6z]; (try rfl)
      refine j_aload_n C dX10_reduce_47 rfl rfl ?_
      refine j_getR C dX10_reduce_48 (fx_RX10_21 D kc ad) (Nat.zero_le _) (show 17 < 18 by decide) ?_
      refine j_bipush (v := nI 16) C dX10_reduce_51 (by decide +kernel) ?_
      refine j_iload_n C dX10_reduce_53 rfl rfl ?_
      refine j_imulN C dX10_reduce_54 ?_
      refine j_iload_n C dX10_reduce_55 rfl rfl ?_
      refine j_iaddN C dX10_reduce_56 ?_
      refine j_iconst (v := nI 1) C dX10_reduce_57 (by decide +kernel) ?_
      refine j_iaddN C dX10_reduce_58 ?_
      refine j_dup2 C dX10_reduce_59 rfl rfl ?_
      refine m_lald C dX10_reduce_60 (⟨rfl, rfl, by decide, by decide⟩ : ma 768 2) (by omega) ?_
      refine j_lload_n C dX10_reduce_61 rfl rfl ?_
      refine j_ladd C dX10_reduce_62 ?_
      refine m_last C dX10_reduce_63 (⟨rfl, rfl, by decide, by decide⟩ : ma 768 2) (by omega) ?_
      refine j_nmS (fun t12 et12 => ?_)
      refine j_goto (tgt := 84) C dX10_reduce_64 (by decide) ?_
      refine j_iincN (b := 1) C dX10_reduce_84 rfl (by decide +kernel) (by decide) ?_
      refine j_goto (tgt := 2) C dX10_reduce_87 (by decide) ?_
      refine j_nmS (fun t13 et13 => ?_)
      refine j_at [(0, .ref (zad (wM D kc ad) 17)), (1, .int (nI (r))), (2, .int (nI (i1 + 1)))] ⟨rfl, rfl, rfl, trivial⟩ ?_
      have eF : (fX10_reduce_2 r) i1 z2 = t13 := by rw [hA11]; rw [et13]; (try rw [et12]); unfold fX10_reduce_a2; first | done | (dsimp only; done) | rfl
      exact Eq.mp (congrArg (fun (z14 : zSt) => zJ κ (wM D kc ad) 2 (zlof [(0, .ref (zad (wM D kc ad) 17)), (1, .int (nI (r))), (2, .int (nI (i1 + 1)))]) [] z14) eF) (k0 trivial)
  · intro hIi1
    refine z_nm (P := fun (z2 : zSt) => zJ κ (wM D kc ad) 2 (zlof [(0, .ref (zad (wM D kc ad) 17)), (1, .int (nI (r))), (2, .int (nI (16)))]) [] z2) (fun u15 eu15 => ?_)
    refine j_iload_n C dX10_reduce_2 rfl rfl ?_
    refine j_bipush (v := nI 16) C dX10_reduce_3 (by decide +kernel) ?_
    refine j_icmp_geN (tgt := 90) C dX10_reduce_5 (by decide) (by omega) (by omega) (fun q16 => ?_) (fun q16 => False.elim (by omega))
    exact j_vret (st := []) C R0 dX10_reduce_90 ⟨rfl, (by (try rw [eu15]); unfold fX10_reduce; (try dsimp only); all_goals ((try simp only [zfst_mk, zsnd_mk]); all_goals rfl))⟩
theorem k2_fX10_reduce_a1 (r : Nat) (x4 : Int64) (t5 : zSt) : zk2 (fX10_reduce_a1 r x4 t5) = zk2 t5 := by
  unfold fX10_reduce_a1
  (try dsimp only)
  all_goals (simp only [zW_2, zL_2]; done)
theorem k2_fX10_reduce_a2 (r : Nat) (i1 : Nat) (x4 : Int64) (t5 : zSt) : zk2 (fX10_reduce_a2 r i1 x4 t5) = zk2 t5 := by
  unfold fX10_reduce_a2
  (try dsimp only)
  all_goals (simp only [zW_2, zL_2]; done)
theorem k2_fX10_reduce_2 (r : Nat) (i1 : Nat) (z2 : zSt) : zk2 (fX10_reduce_2 r i1 z2) = zk2 z2 := by
  unfold fX10_reduce_2
  (try dsimp only)
  all_goals (refine ite_keep (fun r : zSt => zk2 r) _ _ ?_ ?_ <;> (simp only [zW_2, zL_2, k2_fX10_reduce_a1, k2_fX10_reduce_a2]; done))
theorem k2it_fX10_reduce_2 (r : Nat) (nn ii : Nat) (xx : zSt) : zk2 (ziter (fX10_reduce_2 r) ii nn xx) = zk2 xx := ziter_keep (fun x => zk2 x) _ (k2_fX10_reduce_2 r) nn ii xx
theorem k2_fX10_reduce (r : Nat) (s0 : zSt) : zk2 (fX10_reduce r s0) = zk2 s0 := by
  unfold fX10_reduce
  (try dsimp only)
  all_goals (simp only [zW_2, zL_2, k2_fX10_reduce_2, k2it_fX10_reduce_2]; done)
theorem i2_fX10_reduce (r : Nat) (s0 : zSt) (kk9 : Nat) : (fX10_reduce r s0).2.2 kk9 = s0.2.2 kk9 := z2_I (k2_fX10_reduce r s0) kk9
theorem i3_fX10_reduce (r : Nat) (s0 : zSt) (kk9 : Nat) : zi (fX10_reduce r s0) kk9 = zi s0 kk9 := zi_of (k2_fX10_reduce r s0) kk9

def fX10_add_3 (r : Nat) (a : Nat) (b : Nat) (i1 : Nat) (z2 : zSt) : zSt :=
    let t4 := zW z2 2 ((16 * r) + i1) ((z2.1 2 ((16 * a) + i1)) + (z2.1 2 ((16 * b) + i1)))
    t4
def fX10_add (r : Nat) (a : Nat) (b : Nat) (s0 : zSt) : zSt :=
    let u7 := ziter (fX10_add_3 r a b) 0 16 s0
    u7
set_option maxHeartbeats 4000000 in
set_option maxRecDepth 100000 in
theorem k_X10_add (l : Launch) (D : va_G) (kc : Nat → ClassId) (ad : Nat → Nat) (r : Nat) (hr : r < 48) (a : Nat) (ha : a < 48) (b : Nat) (hb : b < 48) (s0 : zSt) : zM l yX10_add cX10_add 5 none rX10_add (wM D kc ad) [.ref (zad (wM D kc ad) 17), .int (nI (r)), .int (nI (a)), .int (nI (b))] s0 (zV0 (fX10_add r a b s0)) := by
  refine z_of (own := RX10) (by decide +kernel) rfl (Nat.le_of_ble_eq_true rfl) ?_
  intro κ C R0
  refine j_at [(0, .ref (zad (wM D kc ad) 17)), (1, .int (nI (r))), (2, .int (nI (a))), (3, .int (nI (b)))] ⟨rfl, rfl, rfl, rfl, trivial⟩ ?_
  refine j_iconst (v := nI 0) C dX10_add_0 (by decide +kernel) ?_
  refine j_istore C dX10_add_1 (by decide) ?_
  refine j_at [(0, .ref (zad (wM D kc ad) 17)), (1, .int (nI (r))), (2, .int (nI (a))), (3, .int (nI (b))), (4, .int (nI (0)))] ⟨rfl, rfl, rfl, rfl, rfl, trivial⟩ ?_
  refine z_up (α := zSt) (fun (i1 : Nat) (z2 : zSt) => zJ κ (wM D kc ad) 3 (zlof [(0, .ref (zad (wM D kc ad) 17)), (1, .int (nI (r))), (2, .int (nI (a))), (3, .int (nI (b))), (4, .int (nI (i1)))]) [] z2) (fX10_add_3 r a b) (fun _ _ => True) 16 ?_ (fun _ _ _ _ => trivial) 16 0 s0 (by omega) trivial ?_
  · intro i1 z2 hi1 hIi1 k0
    refine j_iload C dX10_add_3 rfl ?_
    refine j_bipush (v := nI 16) C dX10_add_5 (by decide +kernel) ?_
    refine j_icmp_geN (tgt := 53) C dX10_add_7 (by decide) (by omega) (by omega) (fun q3 => False.elim (by omega)) (fun q3 => ?_)
    refine j_aload_n C dX10_add_10 rfl rfl ?_
    refine j_getR C dX10_add_11 (fx_RX10_21 D kc ad) (Nat.zero_le _) (show 17 < 18 by decide) ?_
    refine j_bipush (v := nI 16) C dX10_add_14 (by decide +kernel) ?_
    refine j_iload_n C dX10_add_16 rfl rfl ?_
    refine j_imulN C dX10_add_17 ?_
    refine j_iload C dX10_add_18 rfl ?_
    refine j_iaddN C dX10_add_20 ?_
    refine j_aload_n C dX10_add_21 rfl rfl ?_
    refine j_getR C dX10_add_22 (fx_RX10_21 D kc ad) (Nat.zero_le _) (show 17 < 18 by decide) ?_
    refine j_bipush (v := nI 16) C dX10_add_25 (by decide +kernel) ?_
    refine j_iload_n C dX10_add_27 rfl rfl ?_
    refine j_imulN C dX10_add_28 ?_
    refine j_iload C dX10_add_29 rfl ?_
    refine j_iaddN C dX10_add_31 ?_
    refine m_lald C dX10_add_32 (⟨rfl, rfl, by decide, by decide⟩ : ma 768 2) (by omega) ?_
    refine j_aload_n C dX10_add_33 rfl rfl ?_
    refine j_getR C dX10_add_34 (fx_RX10_21 D kc ad) (Nat.zero_le _) (show 17 < 18 by decide) ?_
    refine j_bipush (v := nI 16) C dX10_add_37 (by decide +kernel) ?_
    refine j_iload_n C dX10_add_39 rfl rfl ?_
    refine j_imulN C dX10_add_40 ?_
    refine j_iload C dX10_add_41 rfl ?_
    refine j_iaddN C dX10_add_43 ?_
    refine m_lald C dX10_add_44 (⟨rfl, rfl, by decide, by decide⟩ : ma 768 2) (by omega) ?_
    refine j_ladd C dX10_add_45 ?_
    refine m_last C dX10_add_46 (⟨rfl, rfl, by decide, by decide⟩ : ma 768 2) (by omega) ?_
    refine j_nmS (fun t4 et4 => ?_)
    refine j_iincN (b := 1) C dX10_add_47 rfl (by decide +kernel) (by decide) ?_
    refine j_goto (tgt := 3) C dX10_add_50 (by decide) ?_
    refine j_nmS (fun t5 et5 => ?_)
    refine j_at [(0, .ref (zad (wM D kc ad) 17)), (1, .int (nI (r))), (2, .int (nI (a))), (3, .int (nI (b))), (4, .int (nI (i1 + 1)))] ⟨rfl, rfl, rfl, rfl, rfl, trivial⟩ ?_
    have eF : (fX10_add_3 r a b) i1 z2 = t5 := by rw [et5]; (try rw [et4]); unfold fX10_add_3; first | done | (dsimp only; done) | rfl
    exact Eq.mp (congrArg (fun (z6 : zSt) => zJ κ (wM D kc ad) 3 (zlof [(0, .ref (zad (wM D kc ad) 17)), (1, .int (nI (r))), (2, .int (nI (a))), (3, .int (nI (b))), (4, .int (nI (i1 + 1)))]) [] z6) eF) (k0 trivial)
  · intro hIi1
    refine z_nm (P := fun (z2 : zSt) => zJ κ (wM D kc ad) 3 (zlof [(0, .ref (zad (wM D kc ad) 17)), (1, .int (nI (r))), (2, .int (nI (a))), (3, .int (nI (b))), (4, .int (nI (16)))]) [] z2) (fun u7 eu7 => ?_)
    refine j_iload C dX10_add_3 rfl ?_
    refine j_bipush (v := nI 16) C dX10_add_5 (by decide +kernel) ?_
    refine j_icmp_geN (tgt := 53) C dX10_add_7 (by decide) (by omega) (by omega) (fun q8 => ?_) (fun q8 => False.elim (by omega))
    exact j_vret (st := []) C R0 dX10_add_53 ⟨rfl, (by (try rw [eu7]); unfold fX10_add; (try dsimp only); all_goals ((try simp only [zfst_mk, zsnd_mk]); all_goals rfl))⟩
theorem k2_fX10_add_3 (r : Nat) (a : Nat) (b : Nat) (i1 : Nat) (z2 : zSt) : zk2 (fX10_add_3 r a b i1 z2) = zk2 z2 := by
  unfold fX10_add_3
  (try dsimp only)
  all_goals (simp only [zW_2, zL_2]; done)
theorem k2it_fX10_add_3 (r : Nat) (a : Nat) (b : Nat) (nn ii : Nat) (xx : zSt) : zk2 (ziter (fX10_add_3 r a b) ii nn xx) = zk2 xx := ziter_keep (fun x => zk2 x) _ (k2_fX10_add_3 r a b) nn ii xx
theorem k2_fX10_add (r : Nat) (a : Nat) (b : Nat) (s0 : zSt) : zk2 (fX10_add r a b s0) = zk2 s0 := by
  unfold fX10_add
  (try dsimp only)
  all_goals (simp only [zW_2, zL_2, k2_fX10_add_3, k2it_fX10_add_3]; done)
theorem i2_fX10_add (r : Nat) (a : Nat) (b : Nat) (s0 : zSt) (kk9 : Nat) : (fX10_add r a b s0).2.2 kk9 = s0.2.2 kk9 := z2_I (k2_fX10_add r a b s0) kk9
theorem i3_fX10_add (r : Nat) (a : Nat) (b : Nat) (s0 : zSt) (kk9 : Nat) : zi (fX10_add r a b s0) kk9 = zi s0 kk9 := zi_of (k2_fX10_add r a b s0) kk9

def fX10_subtract_3 (r : Nat) (a : Nat) (b : Nat) (i1 : Nat) (z2 : zSt) : zSt :=
    let t4 := zW z2 2 ((16 * r) + i1) ((z2.1 2 ((16 * a) + i1)) - (z2.1 2 ((16 * b) + i1)))
    t4
def fX10_subtract (r : Nat) (a : Nat) (b : Nat) (s0 : zSt) : zSt :=
    let u7 := ziter (fX10_subtract_3 r a b) 0 16 s0
    u7
set_option maxHeartbeats 4000000 in
set_option maxRecDepth 100000 in
theorem k_X10_subtract (l : Launch) (D : va_G) (kc : Nat → ClassId) (ad : Nat → Nat) (r : Nat) (hr : r < 48) (a : Nat) (ha : a < 48) (b : Nat) (hb : b < 48) (s0 : zSt) : zM l yX10_subtract cX10_subtract 5 none rX10_subtract (wM D kc ad) [.ref (zad (wM D kc ad) 17), .int (nI (r)), .int (nI (a)), .int (nI (b))] s0 (zV0 (fX10_subtract r a b s0)) := by
  refine z_of (own := RX10) (by decide +kernel) rfl (Nat.le_of_ble_eq_true rfl) ?_
  intro κ C R0
  refine j_at [(0, .ref (zad (wM D kc ad) 17)), (1, .int (nI (r))), (2, .int (nI (a))), (3, .int (nI (b)))] ⟨rfl, rfl, rfl, rfl, trivial⟩ ?_
  refine j_iconst (v := nI 0) C dX10_subtract_0 (by decide +kernel) ?_
  refine j_istore C dX10_subtract_1 (by decide) ?_
  refine j_at [(0, .ref (zad (wM D kc ad) 17)), (1, .int (nI (r))), (2, .int (nI (a))), (3, .int (nI (b))), (4, .int (nI (0)))] ⟨rfl, rfl, rfl, rfl, rfl, trivial⟩ ?_
  refine z_up (α := zSt) (fun (i1 : Nat) (z2 : zSt) => zJ κ (wM D kc ad) 3 (zlof [(0, .ref (zad (wM D kc ad) 17)), (1, .int (nI (r))), (2, .int (nI (a))), (3, .int (nI (b))), (4, .int (nI (i1)))]) [] z2) (fX10_subtract_3 r a b) (fun _ _ => True) 16 ?_ (fun _ _ _ _ => trivial) 16 0 s0 (by omega) trivial ?_
  · intro i1 z2 hi1 hIi1 k0
    refine j_iload C dX10_subtract_3 rfl ?_
    refine j_bipush (v := nI 16) C dX10_subtract_5 (by decide +kernel) ?_
    refine j_icmp_geN (tgt := 53) C dX10_subtract_7 (by decide) (by omega) (by omega) (fun q3 => False.elim (by omega)) (fun q3 => ?_)
    refine j_aload_n C dX10_subtract_10 rfl rfl ?_
    refine j_getR C dX10_subtract_11 (fx_RX10_21 D kc ad) (Nat.zero_le _) (show 17 < 18 by decide) ?_
    refine j_bipush (v := nI 16) C dX10_subtract_14 (by decide +kernel) ?_
    refine j_iload_n C dX10_subtract_16 rfl rfl ?_
    refine j_imulN C dX10_subtract_17 ?_
    refine j_iload C dX10_subtract_18 rfl ?_
    refine j_iaddN C dX10_subtract_20 ?_
    refine j_aload_n C dX10_subtract_21 rfl rfl ?_
    refine j_getR C dX10_subtract_22 (fx_RX10_21 D kc ad) (Nat.zero_le _) (show 17 < 18 by decide) ?_
    refine j_bipush (v := nI 16) C dX10_subtract_25 (by decide +kernel) ?_
    refine j_iload_n C dX10_subtract_27 rfl rfl ?_
    refine j_imulN C dX10_subtract_28 ?_
    refine j_iload C dX10_subtract_29 rfl ?_
    refine j_iaddN C dX10_subtract_31 ?_
    refine m_lald C dX10_subtract_32 (⟨rfl, rfl, by decide, by decide⟩ : ma 768 2) (by omega) ?_
    refine j_aload_n C dX10_subtract_33 rfl rfl ?_
    refine j_getR C dX10_subtract_34 (fx_RX10_21 D kc ad) (Nat.zero_le _) (show 17 < 18 by decide) ?_
    refine j_bipush (v := nI 16) C dX10_subtract_37 (by decide +kernel) ?_
    refine j_iload_n C dX10_subtract_39 rfl rfl ?_
    refine j_imulN C dX10_subtract_40 ?_
    refine j_iload C dX10_subtract_41 rfl ?_
    refine j_iaddN C dX10_subtract_43 ?_
    refine m_lald C dX10_subtract_44 (⟨rfl, rfl, by decide, by decide⟩ : ma 768 2) (by omega) ?_
    refine j_lsub C dX10_subtract_45 ?_
    refine m_last C dX10_subtract_46 (⟨rfl, rfl, by decide, by decide⟩ : ma 768 2) (by omega) ?_
    refine j_nmS (fun t4 et4 => ?_)
    refine j_iincN (b := 1) C dX10_subtract_47 rfl (by decide +kernel) (by decide) ?_
    refine j_goto (tgt := 3) C dX10_subtract_50 (by decide) ?_
    refine j_nmS (fun t5 et5 => ?_)
    refine j_at [(0, .ref (zad (wM D kc ad) 17)), (1, .int (nI (r))), (2, .int (nI (a))), (3, .int (nI (b))), (4, .int (nI (i1 + 1)))] ⟨rfl, rfl, rfl, rfl, rfl, trivial⟩ ?_
    have eF : (fX10_subtract_3 r a b) i1 z2 = t5 := by rw [et5]; (try rw [et4]); unfold fX10_subtract_3; first | done | (dsimp only; done) | rfl
    exact Eq.mp (congrArg (fun (z6 : zSt) => zJ κ (wM D kc ad) 3 (zlof [(0, .ref (zad (wM D kc ad) 17)), (1, .int (nI (r))), (2, .int (nI (a))), (3, .int (nI (b))), (4, .int (nI (i1 + 1)))]) [] z6) eF) (k0 trivial)
  · intro hIi1
    refine z_nm (P := fun (z2 : zSt) => zJ κ (wM D kc ad) 3 (zlof [(0, .ref (zad (wM D kc ad) 17)), (1, .int (nI (r))), (2, .int (nI (a))), (3, .int (nI (b))), (4, .int (nI (16)))]) [] z2) (fun u7 eu7 => ?_)
    refine j_iload C dX10_subtract_3 rfl ?_
    refine j_bipush (v := nI 16) C dX10_subtract_5 (by decide +kernel) ?_
    refine j_icmp_geN (tgt := 53) C dX10_subtract_7 (by decide) (by omega) (by omega) (fun q8 => ?_) (fun q8 => False.elim (by omega))
    exact j_vret (st := []) C R0 dX10_subtract_53 ⟨rfl, (by (try rw [eu7]); unfold fX10_subtract; (try dsimp only); all_goals ((try simp only [zfst_mk, zsnd_mk]); all_goals rfl))⟩
theorem k2_fX10_subtract_3 (r : Nat) (a : Nat) (b : Nat) (i1 : Nat) (z2 : zSt) : zk2 (fX10_subtract_3 r a b i1 z2) = zk2 z2 := by
  unfold fX10_subtract_3
  (try dsimp only)
  all_goals (simp only [zW_2, zL_2]; done)
theorem k2it_fX10_subtract_3 (r : Nat) (a : Nat) (b : Nat) (nn ii : Nat) (xx : zSt) : zk2 (ziter (fX10_subtract_3 r a b) ii nn xx) = zk2 xx := ziter_keep (fun x => zk2 x) _ (k2_fX10_subtract_3 r a b) nn ii xx
theorem k2_fX10_subtract (r : Nat) (a : Nat) (b : Nat) (s0 : zSt) : zk2 (fX10_subtract r a b s0) = zk2 s0 := by
  unfold fX10_subtract
  (try dsimp only)
  all_goals (simp only [zW_2, zL_2, k2_fX10_subtract_3, k2it_fX10_subtract_3]; done)
theorem i2_fX10_subtract (r : Nat) (a : Nat) (b : Nat) (s0 : zSt) (kk9 : Nat) : (fX10_subtract r a b s0).2.2 kk9 = s0.2.2 kk9 := z2_I (k2_fX10_subtract r a b s0) kk9
theorem i3_fX10_subtract (r : Nat) (a : Nat) (b : Nat) (s0 : zSt) (kk9 : Nat) : zi (fX10_subtract r a b s0) kk9 = zi s0 kk9 := zi_of (k2_fX10_subtract r a b s0) kk9

def fX10_multiply_3  (i1 : Nat) (z2 : zSt) : zSt :=
    let t4 := zW z2 3 i1 ((0 : Int64))
    t4
def fX10_multiply_37 (a : Nat) (b : Nat) (i9 : Nat) (i12 : Nat) (z13 : zSt) : zSt :=
    let t15 := zW z13 3 (i9 + i12) ((z13.1 3 (i9 + i12)) + ((z13.1 2 ((16 * a) + i9)) * (z13.1 2 ((16 * b) + i12))))
    t15
def fX10_multiply_27 (a : Nat) (b : Nat) (i9 : Nat) (z10 : zSt) : zSt :=
    let u18 := ziter (fX10_multiply_37 a b i9) 0 16 z10
    u18
def fX10_multiply_97 (r : Nat) (i24 : Nat) (z25 : zSt) : zSt :=
    let t27 := zW z25 2 ((16 * r) + i24) ((z25.1 3 i24) + (((38 : Int64)) * (z25.1 3 (i24 + 16))))
    t27
def fX10_multiply (r : Nat) (a : Nat) (b : Nat) (s0 : zSt) : zSt :=
    let u7 := ziter fX10_multiply_3 0 32 s0
    let u22 := ziter (fX10_multiply_27 a b) 0 16 u7
    let u30 := ziter (fX10_multiply_97 r) 0 16 u22
    let t32 := fX10_reduce r u30
    let t33 := fX10_reduce r t32
    let t34 := fX10_reduce r t33
    t34
set_option maxHeartbeats 4000000 in
set_option maxRecDepth 100000 in
theorem k_X10_multiply (l : Launch) (D : va_G) (kc : Nat → ClassId) (ad : Nat → Nat) (r : Nat) (hr : r < 48) (a : Nat) (ha : a < 48) (b : Nat) (hb : b < 48) (s0 : zSt) : zM l yX10_multiply cX10_multiply 6 none rX10_multiply (wM D kc ad) [.ref (zad (wM D kc ad) 17), .int (nI (r)), .int (nI (a)), .int (nI (b))] s0 (zV0 (fX10_multiply r a b s0)) := by
  refine z_of (own := RX10) (by decide +kernel) rfl (Nat.le_of_ble_eq_true rfl) ?_
  intro κ C R0
  refine j_at [(0, .ref (zad (wM D kc ad) 17)), (1, .int (nI (r))), (2, .int (nI (a))), (3, .int (nI (b)))] ⟨rfl, rfl, rfl, rfl, trivial⟩ ?_
  refine j_iconst (v := nI 0) C dX10_multiply_0 (by decide +kernel) ?_
  refine j_istore C dX10_multiply_1 (by decide) ?_
  refine j_at [(0, .ref (zad (wM D kc ad) 17)), (1, .int (nI (r))), (2, .int (nI (a))), (3, .int (nI (b))), (4, .int (nI (0)))] ⟨rfl, rfl, rfl, rfl, rfl, trivial⟩ ?_
  refine z_up (α := zSt) (fun (i1 : Nat) (z2 : zSt) => zJ κ (wM D kc ad) 3 (zlof [(0, .ref (zad (wM D kc ad) 17)), (1, .int (nI (r))), (2, .int (nI (a))), (3, .int (nI (b))), (4, .int (nI (i1)))]) [] z2) fX10_multiply_3 (fun _ _ => True) 32 ?_ (fun _ _ _ _ => trivial) 32 0 s0 (by omega) trivial ?_
  · intro i1 z2 hi1 hIi1 k0
    refine j_iload C dX10_multiply_3 rfl ?_
    refine j_bipush (v := nI 32) C dX10_multiply_5 (by decide +kernel) ?_
    refine j_icmp_geN (tgt := 24) C dX10_multiply_7 (by decide) (by omega) (by omega) (fun q3 => False.elim (by omega)) (fun q3 => ?_)
    refine j_aload_n C dX10_multiply_10 rfl rfl ?_
    refine j_getR C dX10_multiply_11 (fx_RX10_24 D kc ad) (Nat.zero_le _) (show 17 < 18 by decide) ?_
    refine j_iload C dX10_multiply_14 rfl ?_
    refine j_lconst (v := 0) C dX10_multiply_16 rfl ?_
    refine m_last C dX10_multiply_17 (⟨rfl, rfl, by decide, by decide⟩ : ma 32 3) (by omega) ?_
    refine j_nmS (fun t4 et4 => ?_)
    refine j_iincN (b := 1) C dX10_multiply_18 rfl (by decide +kernel) (by decide) ?_
    refine j_goto (tgt := 3) C dX10_multiply_21 (by decide) ?_
    refine j_nmS (fun t5 et5 => ?_)
    refine j_at [(0, .ref (zad (wM D kc ad) 17)), (1, .int (nI (r))), (2, .int (nI (a))), (3, .int (nI (b))), (4, .int (nI (i1 + 1)))] ⟨rfl, rfl, rfl, rfl, rfl, trivial⟩ ?_
    have eF : fX10_multiply_3 i1 z2 = t5 := by rw [et5]; (try rw [et4]); unfold fX10_multiply_3; first | done | (dsimp only; done) | rfl
    exact Eq.mp (congrArg (fun (z6 : zSt) => zJ κ (wM D kc ad) 3 (zlof [(0, .ref (zad (wM D kc ad) 17)), (1, .int (nI (r))), (2, .int (nI (a))), (3, .int (nI (b))), (4, .int (nI (i1 + 1)))]) [] z6) eF) (k0 trivial)
  · intro hIi1
    refine z_nm (P := fun (z2 : zSt) => zJ κ (wM D kc ad) 3 (zlof [(0, .ref (zad (wM D kc ad) 17)), (1, .int (nI (r))), (2, .int (nI (a))), (3, .int (nI (b))), (4, .int (nI (32)))]) [] z2) (fun u7 eu7 => ?_)
    refine j_iload C dX10_multiply_3 rfl ?_
    refine j_bipush (v := nI 32) C dX10_multiply_5 (by decide +kernel) ?_
    refine j_icmp_geN (tgt := 24) C dX10_multiply_7 (by decide) (by omega) (by omega) (fun q8 => ?_) (fun q8 => False.elim (by omega))
    refine j_iconst (v := nI 0) C dX10_multiply_24 (by decide +kernel) ?_
    refine j_istore C dX10_multiply_25 (by decide) ?_
    refine j_at [(0, .ref (zad (wM D kc ad) 17)), (1, .int (nI (r))), (2, .int (nI (a))), (3, .int (nI (b))), (4, .int (nI (0)))] ⟨rfl, rfl, rfl, rfl, rfl, trivial⟩ ?_
    refine z_up (α := zSt) (fun (i9 : Nat) (z10 : zSt) => zJ κ (wM D kc ad) 27 (zlof [(0, .ref (zad (wM D kc ad) 17)), (1, .int (nI (r))), (2, .int (nI (a))), (3, .int (nI (b))), (4, .int (nI (i9)))]) [] z10) (fX10_multiply_27 a b) (fun _ _ => True) 16 ?_ (fun _ _ _ _ => trivial) 16 0 u7 (by omega) trivial ?_
    · intro i9 z10 hi9 hIi9 k0
      refine j_iload C dX10_multiply_27 rfl ?_
      refine j_bipush (v := nI 16) C dX10_multiply_29 (by decide +kernel) ?_
      refine j_icmp_geN (tgt := 94) C dX10_multiply_31 (by decide) (by omega) (by omega) (fun q11 => False.elim (by omega)) (fun q11 => ?_)
      refine j_iconst (v := nI 0) C dX10_multiply_34 (by decide +kernel) ?_
      refine j_istore C dX10_multiply_35 (by decide) ?_
      refine j_at [(0, .ref (zad (wM D kc ad) 17)), (1, .int (nI (r))), (2, .int (nI (a))), (3, .int (nI (b))), (4, .int (nI (i9))), (5, .int (nI (0)))] ⟨rfl, rfl, rfl, rfl, rfl, rfl, trivial⟩ ?_
      refine z_up (α := zSt) (fun (i12 : Nat) (z13 : zSt) => zJ κ (wM D kc ad) 37 (zlof [(0, .ref (zad (wM D kc ad) 17)), (1, .int (nI (r))), (2, .int (nI (a))), (3, .int (nI (b))), (4, .int (nI (i9))), (5, .int (nI (i12)))]) [] z13) (fX10_multiply_37 a b i9) (fun _ _ => True) 16 ?_ (fun _ _ _ _ => trivial) 16 0 z10 (by omega) trivial ?_
      · intro i12 z13 hi12 hIi12 k0
        refine j_iload C dX10_multiply_37 rfl ?_
        refine j_bipush (v := nI 16) C dX10_multiply_39 (by decide +kernel) ?_
        refine j_icmp_geN (tgt := 88) C dX10_multiply_41 (by decide) (by omega) (by omega) (fun q14 => False.elim (by omega)) (fun q14 => ?_)
        refine j_aload_n C dX10_multiply_44 rfl rfl ?_
        refine j_getR C dX10_multiply_45 (fx_RX10_24 D kc ad) (Nat.zero_le _) (show 17 < 18 by decide) ?_
        refine j_iload C dX10_multiply_48 rfl ?_
        refine j_iload C dX10_multiply_50 rfl ?_
        refine j_iaddN C dX10_multiply_52 ?_
        refine j_dup2 C dX10_multiply_53 rfl rfl ?_
        refine m_lald C dX10_multiply_54 (⟨rfl, rfl, by decide, by decide⟩ : ma 32 3) (by omega) ?_
        refine j_aload_n C dX10_multiply_55 rfl rfl ?_
        refine j_getR C dX10_multiply_56 (fx_RX10_21 D kc ad) (Nat.zero_le _) (show 17 < 18 by decide) ?_
        refine j_bipush (v := nI 16) C dX10_multiply_59 (by decide +kernel) ?_
        refine j_iload_n C dX10_multiply_61 rfl rfl ?_
        refine j_imulN C dX10_multiply_62 ?_
        refine j_iload C dX10_multiply_63 rfl ?_
        refine j_iaddN C dX10_multiply_65 ?_
        refine m_lald C dX10_multiply_66 (⟨rfl, rfl, by decide, by decide⟩ : ma 768 2) (by omega) ?_
        refine j_aload_n C dX10_multiply_67 rfl rfl ?_
        refine j_getR C dX10_multiply_68 (fx_RX10_21 D kc ad) (Nat.zero_le _) (show 17 < 18 by decide) ?_
        refine j_bipush (v := nI 16) C dX10_multiply_71 (by decide +kernel) ?_
        refine j_iload_n C dX10_multiply_73 rfl rfl ?_
        refine j_imulN C dX10_multiply_74 ?_
        refine j_iload C dX10_multiply_75 rfl ?_
        refine j_iaddN C dX10_multiply_77 ?_
        refine m_lald C dX10_multiply_78 (⟨rfl, rfl, by decide, by decide⟩ : ma 768 2) (by omega) ?_
        refine j_lmul C dX10_multiply_79 ?_
        refine j_ladd C dX10_multiply_80 ?_
        refine m_last C dX10_multiply_81 (⟨rfl, rfl, by decide, by decide⟩ : ma 32 3) (by omega) ?_
        refine j_nmS (fun t15 et15 => ?_)
        refine j_iincN (b := 1) C dX10_multiply_82 rfl (by decide +kernel) (by decide) ?_
        refine j_goto (tgt := 37) C dX10_multiply_85 (by decide) ?_
        refine j_nmS (fun t16 et16 => ?_)
        refine j_at [(0, .ref (zad (wM D kc ad) 17)), (1, .int (nI (r))), (2, .int (nI (a))), (3, .int (nI (b))), (4, .int (nI (i9))), (5, .int (nI (i12 + 1)))] ⟨rfl, rfl, rfl, rfl, rfl, rfl, trivial⟩ ?_
        have eF : (fX10_multiply_37 a b i9) i12 z13 = t16 := by rw [et16]; (try rw [et15]); unfold fX10_multiply_37; first | done | (dsimp only; done) | rfl
        exact Eq.mp (congrArg (fun (z17 : zSt) => zJ κ (wM D kc ad) 37 (zlof [(0, .ref (zad (wM D kc ad) 17)), (1, .int (nI (r))), (2, .int (nI (a))), (3, .int (nI (b))), (4, .int (nI (i9))), (5, .int (nI (i12 + 1)))]) [] z17) eF) (k0 trivial)
      · intro hIi12
        refine z_nm (P := fun (z13 : zSt) => zJ κ (wM D kc ad) 37 (zlof [(0, .ref (zad (wM D kc ad) 17)), (1, .int (nI (r))), (2, .int (nI (a))), (3, .int (nI (b))), (4, .int (nI (i9))), (5, .int (nI (16)))]) [] z13) (fun u18 eu18 => ?_)
        refine j_iload C dX10_multiply_37 rfl ?_
        refine j_bipush (v := nI 16) C dX10_multiply_39 (by decide +kernel) ?_
        refine j_icmp_geN (tgt := 88) C dX10_multiply_41 (by decide) (by omega) (by omega) (fun q19 => ?_) (fun q19 => False.elim (by omega))
        refine j_iincN (b := 1) C dX10_multiply_88 rfl (by decide +kernel) (by decide) ?_
        refine j_goto (tgt := 27) C dX10_multiply_91 (by decide) ?_
        refine j_nmS (fun t20 et20 => ?_)
        refine j_at [(0, .ref (zad (wM D kc ad) 17)), (1, .int (nI (r))), (2, .int (nI (a))), (3, .int (nI (b))), (4, .int (nI (i9 + 1)))] ⟨rfl, rfl, rfl, rfl, rfl, trivial⟩ ?_
        have eF : (fX10_multiply_27 a b) i9 z10 = t20 := by rw [et20]; (try rw [eu18]); unfold fX10_multiply_27; first | done | (dsimp only; done) | rfl
        exact Eq.mp (congrArg (fun (z21 : zSt) => zJ κ (wM D kc ad) 27 (zlof [(0, .ref (zad (wM D kc ad) 17)), (1, .int (nI (r))), (2, .int (nI (a))), (3, .int (nI (b))), (4, .int (nI (i9 + 1)))]) [] z21) eF) (k0 trivial)
    · intro hIi9
      refine z_nm (P := fun (z10 : zSt) => zJ κ (wM D kc ad) 27 (zlof [(0, .ref (zad (wM D kc ad) 17)), (1, .int (nI (r))), (2, .int (nI (a))), (3, .int (nI (b))), (4, .int (nI (16)))]) [] z10) (fun u22 eu22 => ?_)
      refine j_iload C dX10_multiply_27 rfl ?_
      refine j_bipush (v := nI 16) C dX10_multiply_29 (by decide +kernel) ?_
      refine j_icmp_geN (tgt := 94) C dX10_multiply_31 (by decide) (by omega) (by omega) (fun q23 => ?_) (fun q23 => False.elim (by omega))
      refine j_iconst (v := nI 0) C dX10_multiply_94 (by decide +kernel) ?_
      refine j_istore C dX10_multiply_95 (by decide) ?_
      refine j_at [(0, .ref (zad (wM D kc ad) 17)), (1, .int (nI (r))), (4, .int (nI (0)))] ⟨rfl, rfl, rfl, trivial⟩ ?_
      refine z_up (α := zSt) (fun (i24 : Nat) (z25 : zSt) => zJ κ (wM D kc ad) 97 (zlof [(0, .ref (zad (wM D kc ad) 17)), (1, .int (nI (r))), (4, .int (nI (i24)))]) [] z25) (fX10_multiply_97 r) (fun _ _ => True) 16 ?_ (fun _ _ _ _ => trivial) 16 0 u22 (by omega) trivial ?_
      · intro i24 z25 hi24 hIi24 k0
        refine j_iload C dX10_multiply_97 rfl ?_
        refine j_bipush (v := nI 16) C dX10_multiply_99 (by decide +kernel) ?_
        refine j_icmp_geN (tgt := 144) C dX10_multiply_101 (by decide) (by omega) (by omega) (fun q26 => False.elim (by omega)) (fun q26 => ?_)
        refine j_aload_n C dX10_multiply_104 rfl rfl ?_
        refine j_getR C dX10_multiply_105 (fx_RX10_21 D kc ad) (Nat.zero_le _) (show 17 < 18 by decide) ?_
        refine j_bipush (v := nI 16) C dX10_multiply_108 (by decide +kernel) ?_
        refine j_iload_n C dX10_multiply_110 rfl rfl ?_
        refine j_imulN C dX10_multiply_111 ?_
        refine j_iload C dX10_multiply_112 rfl ?_
        refine j_iaddN C dX10_multiply_114 ?_
        refine j_aload_n C dX10_multiply_115 rfl rfl ?_
        refine j_getR C dX10_multiply_116 (fx_RX10_24 D kc ad) (Nat.zero_le _) (show 17 < 18 by decide) ?_
        refine j_iload C dX10_multiply_119 rfl ?_
        refine m_lald C dX10_multiply_121 (⟨rfl, rfl, by decide, by decide⟩ : ma 32 3) (by omega) ?_
        refine j_ldc2 C dX10_multiply_122 mw_11_8 ?_
        refine j_aload_n C dX10_multiply_125 rfl rfl ?_
        refine j_getR C dX10_multiply_126 (fx_RX10_24 D kc ad) (Nat.zero_le _) (show 17 < 18 by decide) ?_
        refine j_iload C dX10_multiply_129 rfl ?_
        refine j_bipush (v := nI 16) C dX10_multiply_131 (by decide +kernel) ?_
        refine j_iaddN C dX10_multiply_133 ?_
        refine m_lald C dX10_multiply_134 (⟨rfl, rfl, by decide, by decide⟩ : ma 32 3) (by omega) ?_
        refine j_lmul C dX10_multiply_135 ?_
        refine j_ladd C dX10_multiply_136 ?_
        refine m_last C dX10_multiply_137 (⟨rfl, rfl, by decide, by decide⟩ : ma 768 2) (by omega) ?_
        refine j_nmS (fun t27 et27 => ?_)
        refine j_iincN (b := 1) C dX10_multiply_138 rfl (by decide +kernel) (by decide) ?_
        refine j_goto (tgt := 97) C dX10_multiply_141 (by decide) ?_
        refine j_nmS (fun t28 et28 => ?_)
        refine j_at [(0, .ref (zad (wM D kc ad) 17)), (1, .int (nI (r))), (4, .int (nI (i24 + 1)))] ⟨rfl, rfl, rfl, trivial⟩ ?_
        have eF : (fX10_multiply_97 r) i24 z25 = t28 := by rw [et28]; (try rw [et27]); unfold fX10_multiply_97; first | done | (dsimp only; done) | rfl
        exact Eq.mp (congrArg (fun (z29 : zSt) => zJ κ (wM D kc ad) 97 (zlof [(0, .ref (zad (wM D kc ad) 17)), (1, .int (nI (r))), (4, .int (nI (i24 + 1)))]) [] z29) eF) (k0 trivial)
      · intro hIi24
        refine z_nm (P := fun (z25 : zSt) => zJ κ (wM D kc ad) 97 (zlof [(0, .ref (zad (wM D kc ad) 17)), (1, .int (nI (r))), (4, .int (nI (16)))]) [] z25) (fun u30 eu30 => ?_)
        refine j_iload C dX10_multiply_97 rfl ?_
        refine j_bipush (v := nI 16) C dX10_multiply_99 (by decide +kernel) ?_
        refine j_icmp_geN (tgt := 144) C dX10_multiply_101 (by decide) (by omega) (by omega) (fun q31 => ?_) (fun q31 => False.elim (by omega))
        refine j_aload_n C dX10_multiply_144 rfl rfl ?_
        refine j_iload_n C dX10_multiply_145 rfl rfl ?_
        refine j_callV0 (T := TX10) (N := 23) C dX10_multiply_146 (k_X10_reduce l D kc ad r (by omega) _ ) zy_X10_reduce mw_11_9 rfl rfl (Nat.zero_le _) (show 17 < 18 by decide) rfl rfl (Nat.le_of_ble_eq_true rfl) ⟨rfl, rfl, Nat.le_of_ble_eq_true rfl, Nat.le_of_ble_eq_true rfl⟩ ?_
        refine j_nmS (fun t32 et32 => ?_)
        refine j_aload_n C dX10_multiply_149 rfl rfl ?_
        refine j_iload_n C dX10_multiply_150 rfl rfl ?_
        refine j_callV0 (T := TX10) (N := 23) C dX10_multiply_151 (k_X10_reduce l D kc ad r (by omega) _ ) zy_X10_reduce mw_11_9 rfl rfl (Nat.zero_le _) (show 17 < 18 by decide) rfl rfl (Nat.le_of_ble_eq_true rfl) ⟨rfl, rfl, Nat.le_of_ble_eq_true rfl, Nat.le_of_ble_eq_true rfl⟩ ?_
        refine j_nmS (fun t33 et33 => ?_)
        refine j_aload_n C dX10_multiply_154 rfl rfl ?_
        refine j_iload_n C dX10_multiply_155 rfl rfl ?_
        refine j_callV0 (T := TX10) (N := 23) C dX10_multiply_156 (k_X10_reduce l D kc ad r (by omega) _ ) zy_X10_reduce mw_11_9 rfl rfl (Nat.zero_le _) (show 17 < 18 by decide) rfl rfl (Nat.le_of_ble_eq_true rfl) ⟨rfl, rfl, Nat.le_of_ble_eq_true rfl, Nat.le_of_ble_eq_true rfl⟩ ?_
        refine j_nmS (fun t34 et34 => ?_)
        exact j_vret (st := []) C R0 dX10_multiply_159 ⟨rfl, (by (try rw [et34]); (try rw [et33]); (try rw [et32]); (try rw [eu30]); (try rw [eu22]); (try rw [eu7]); unfold fX10_multiply; (try dsimp only); all_goals ((try simp only [zfst_mk, zsnd_mk]); all_goals rfl))⟩
theorem k2_fX10_multiply_3  (i1 : Nat) (z2 : zSt) : zk2 (fX10_multiply_3  i1 z2) = zk2 z2 := by
  unfold fX10_multiply_3
  (try dsimp only)
  all_goals (simp only [zW_2, zL_2]; done)
theorem k2it_fX10_multiply_3  (nn ii : Nat) (xx : zSt) : zk2 (ziter (fX10_multiply_3 ) ii nn xx) = zk2 xx := ziter_keep (fun x => zk2 x) _ (k2_fX10_multiply_3 ) nn ii xx
theorem k2_fX10_multiply_37 (a : Nat) (b : Nat) (i9 : Nat) (i12 : Nat) (z13 : zSt) : zk2 (fX10_multiply_37 a b i9 i12 z13) = zk2 z13 := by
  unfold fX10_multiply_37
  (try dsimp only)
  all_goals (simp only [zW_2, zL_2]; done)
theorem k2it_fX10_multiply_37 (a : Nat) (b : Nat) (i9 : Nat) (nn ii : Nat) (xx : zSt) : zk2 (ziter (fX10_multiply_37 a b i9) ii nn xx) = zk2 xx := ziter_keep (fun x => zk2 x) _ (k2_fX10_multiply_37 a b i9) nn ii xx
theorem k2_fX10_multiply_27 (a : Nat) (b : Nat) (i9 : Nat) (z10 : zSt) : zk2 (fX10_multiply_27 a b i9 z10) = zk2 z10 := by
  unfold fX10_multiply_27
  (try dsimp only)
  all_goals (simp only [zW_2, zL_2, k2_fX10_multiply_37, k2it_fX10_multiply_37]; done)
theorem k2it_fX10_multiply_27 (a : Nat) (b : Nat) (nn ii : Nat) (xx : zSt) : zk2 (ziter (fX10_multiply_27 a b) ii nn xx) = zk2 xx := ziter_keep (fun x => zk2 x) _ (k2_fX10_multiply_27 a b) nn ii xx
theorem k2_fX10_multiply_97 (r : Nat) (i24 : Nat) (z25 : zSt) : zk2 (fX10_multiply_97 r i24 z25) = zk2 z25 := by
  unfold fX10_multiply_97
  (try dsimp only)
  all_goals (simp only [zW_2, zL_2]; done)
theorem k2it_fX10_multiply_97 (r : Nat) (nn ii : Nat) (xx : zSt) : zk2 (ziter (fX10_multiply_97 r) ii nn xx) = zk2 xx := ziter_keep (fun x => zk2 x) _ (k2_fX10_multiply_97 r) nn ii xx
theorem k2_fX10_multiply (r : Nat) (a : Nat) (b : Nat) (s0 : zSt) : zk2 (fX10_multiply r a b s0) = zk2 s0 := by
  unfold fX10_multiply
  (try dsimp only)
  all_goals (simp only [zW_2, zL_2, k2_fX10_multiply_27, k2_fX10_multiply_3, k2_fX10_multiply_97, k2_fX10_reduce, k2it_fX10_multiply_27, k2it_fX10_multiply_3, k2it_fX10_multiply_97]; done)
theorem i2_fX10_multiply (r : Nat) (a : Nat) (b : Nat) (s0 : zSt) (kk9 : Nat) : (fX10_multiply r a b s0).2.2 kk9 = s0.2.2 kk9 := z2_I (k2_fX10_multiply r a b s0) kk9
theorem i3_fX10_multiply (r : Nat) (a : Nat) (b : Nat) (s0 : zSt) (kk9 : Nat) : zi (fX10_multiply r a b s0) kk9 = zi s0 kk9 := zi_of (k2_fX10_multiply r a b s0) kk9

def fX10_raise_a1 (t6 : zSt) : zSt :=
    t6
def fX10_raise_a2 (r : Nat) (t6 : zSt) : zSt :=
    let t13 := fX10_multiply r r 35 t6
    t13
def fX10_raise_18 (r : Nat) (e : Nat) (i3 : Nat) (z4 : zSt) : zSt :=
    let t6 := fX10_multiply r r r z4
    let x7 := vX10_bit e i3 t6
    if x7 ≠ 1 then
      fX10_raise_a1 t6
    else
      fX10_raise_a2 r t6
def fX10_raise (r : Nat) (a : Nat) (e : Nat) (s0 : zSt) : zSt :=
    let t1 := fX10_copyOf 35 a s0
    let t2 := fX10_put r ((1 : Int64)) t1
    let u16 := zdown (fX10_raise_18 r e) 256 t2
    u16
set_option maxHeartbeats 4000000 in
set_option maxRecDepth 100000 in
theorem k_X10_raise (l : Launch) (D : va_G) (kc : Nat → ClassId) (ad : Nat → Nat) (r : Nat) (hr : r < 48) (a : Nat) (ha : a < 48) (e : Nat) (he : e ≤ 60) (s0 : zSt) : zM l yX10_raise cX10_raise 5 none rX10_raise (wM D kc ad) [.ref (zad (wM D kc ad) 17), .int (nI (r)), .int (nI (a)), .int (nI (e))] s0 (zV0 (fX10_raise r a e s0)) := by
  refine z_of (own := RX10) (by decide +kernel) rfl (Nat.le_of_ble_eq_true rfl) ?_
  intro κ C R0
  refine j_at [(0, .ref (zad (wM D kc ad) 17)), (1, .int (nI (r))), (2, .int (nI (a))), (3, .int (nI (e)))] ⟨rfl, rfl, rfl, rfl, trivial⟩ ?_
  refine j_aload_n C dX10_raise_0 rfl rfl ?_
  refine j_bipush (v := nI 35) C dX10_raise_1 (by decide +kernel) ?_
  refine j_iload_n C dX10_raise_3 rfl rfl ?_
  refine j_callV0 (T := TX10) (N := 23) C dX10_raise_4 (k_X10_copyOf l D kc ad 35 (by omega) a (by omega) _ ) zy_X10_copyOf mw_11_0 rfl rfl (Nat.zero_le _) (show 17 < 18 by decide) rfl rfl (Nat.le_of_ble_eq_true rfl) ⟨rfl, rfl, Nat.le_of_ble_eq_true rfl, Nat.le_of_ble_eq_true rfl⟩ ?_
  refine j_nmS (fun t1 et1 => ?_)
  refine j_aload_n C dX10_raise_7 rfl rfl ?_
  refine j_iload_n C dX10_raise_8 rfl rfl ?_
  refine j_lconst (v := 1) C dX10_raise_9 rfl ?_
  refine j_callV0 (T := TX10) (N := 23) C dX10_raise_10 (k_X10_put l D kc ad r (by omega) ((1 : Int64)) _ ) zy_X10_put mw_10_15 rfl rfl (Nat.zero_le _) (show 17 < 18 by decide) rfl rfl (Nat.le_of_ble_eq_true rfl) ⟨rfl, rfl, Nat.le_of_ble_eq_true rfl, Nat.le_of_ble_eq_true rfl⟩ ?_
  refine j_nmS (fun t2 et2 => ?_)
  refine j_sipush (v := nI 255) C dX10_raise_13 (by decide +kernel) ?_
  refine j_istore C dX10_raise_16 (by decide) ?_
  refine j_at [(0, .ref (zad (wM D kc ad) 17)), (1, .int (nI (r))), (3, .int (nI (e))), (4, .int (dI 256))] ⟨rfl, rfl, rfl, congrArg (fun q => some (Value.int q)) (dI_succ _).symm, trivial⟩ ?_
  refine z_dn (α := zSt) (fun (i3 : Nat) (z4 : zSt) => zJ κ (wM D kc ad) 18 (zlof [(0, .ref (zad (wM D kc ad) 17)), (1, .int (nI (r))), (3, .int (nI (e))), (4, .int (dI i3))]) [] z4) (fX10_raise_18 r e) (fun i3 z4 => i3 ≤ 256) ?_ (fun _ _ h => by omega) 256 t2 (Nat.le_refl _) ?_
  · intro i3 z4 hIi3 k0
    refine j_at [(0, .ref (zad (wM D kc ad) 17)), (1, .int (nI (r))), (3, .int (nI (e))), (4, .int (nI (i3)))] ⟨rfl, rfl, rfl, congrArg (fun q => some (Value.int q)) (dI_succ _), trivial⟩ ?_
    refine j_iload C dX10_raise_18 rfl ?_
    refine j_if_lt (tgt := 55) C dX10_raise_20 (by decide) (fun q5 => False.elim (nI_pos (by omega) q5)) (fun q5 => ?_)
    refine j_aload_n C dX10_raise_23 rfl rfl ?_
    refine j_iload_n C dX10_raise_24 rfl rfl ?_
    refine j_iload_n C dX10_raise_25 rfl rfl ?_
    refine j_iload_n C dX10_raise_26 rfl rfl ?_
    refine j_callV0 (T := TX10) (N := 23) C dX10_raise_27 (k_X10_multiply l D kc ad r (by omega) r (by omega) r (by omega) _ ) zy_X10_multiply mw_11_4 rfl rfl (Nat.zero_le _) (show 17 < 18 by decide) rfl rfl (Nat.le_of_ble_eq_true rfl) ⟨rfl, rfl, Nat.le_of_ble_eq_true rfl, Nat.le_of_ble_eq_true rfl⟩ ?_
    refine j_nmS (fun t6 et6 => ?_)
    refine j_aload_n C dX10_raise_30 rfl rfl ?_
    refine j_iload_n C dX10_raise_31 rfl rfl ?_
    refine j_iload C dX10_raise_32 rfl ?_
    refine j_callV1 (T := TX10) (N := 23) C dX10_raise_34 (k_X10_bit l D kc ad e (by omega) i3 (by omega) _ ) zy_X10_bit mw_11_13 rfl rfl (Nat.zero_le _) (show 17 < 18 by decide) rfl rfl (Nat.le_of_ble_eq_true rfl) ⟨rfl, rfl, Nat.le_of_ble_eq_true rfl, Nat.le_of_ble_eq_true rfl⟩ ?_
    refine j_nmN (fun x7 ex7 => ?_)
    have hx7 : x7 < 2 := by rw [ex7]; exact lt_mbit _ _ _
    refine j_iconst (v := nI 1) C dX10_raise_37 (by decide +kernel) ?_
    refine j_icmp_neN (tgt := 49) C dX10_raise_38 (by decide) (by omega) (by omega) (fun q8 => ?_) (fun q8 => ?_)
    · have hA9 : (fX10_raise_18 r e) i3 z4 = fX10_raise_a1 t6 := by (try rw [ex7]); (try rw [et6]); have q8z := q8; (try rw [ex7] at q8z); (try rw [et6] at q8z); (try dsimp only at q8z); unfold fX10_raise_18; (try dsimp only); rw [if_pos q8z]; (try rfl)
      refine j_iincD C dX10_raise_49 rfl (by decide) ?_
      refine j_goto (tgt := 18) C dX10_raise_52 (by decide) ?_
      refine j_nmS (fun t10 et10 => ?_)
      refine j_at [(0, .ref (zad (wM D kc ad) 17)), (1, .int (nI (r))), (3, .int (nI (e))), (4, .int (dI i3))] ⟨rfl, rfl, rfl, rfl, trivial⟩ ?_
      have eF : (fX10_raise_18 r e) i3 z4 = t10 := by rw [hA9]; rw [et10]; unfold fX10_raise_a1; first | done | (dsimp only; done) | rfl
      exact Eq.mp (congrArg (fun (z11 : zSt) => zJ κ (wM D kc ad) 18 (zlof [(0, .ref (zad (wM D kc ad) 17)), (1, .int (nI (r))), (3, .int (nI (e))), (4, .int (dI i3))]) [] z11) eF) (k0 ((by omega)))
    · have hA12 : (fX10_raise_18 r e) i3 z4 = fX10_raise_a2 r t6 := by (try rw [ex7]); (try rw [et6]); have q8z : ¬ (x7 ≠ 1) := (by omega); (try rw [ex7] at q8z); (try rw [et6] at q8z); (try dsimp only at q8z); unfold fX10_raise_18; (try dsimp only); rw [if_neg q8z]; (try rfl)
      refine j_aload_n C dX10_raise_41 rfl rfl ?_
      refine j_iload_n C dX10_raise_42 rfl rfl ?_
      refine j_iload_n C dX10_raise_43 rfl rfl ?_
      refine j_bipush (v := nI 35) C dX10_raise_44 (by decide +kernel) ?_
      refine j_callV0 (T := TX10) (N := 23) C dX10_raise_46 (k_X10_multiply l D kc ad r (by omega) r (by omega) 35 (by omega) _ ) zy_X10_multiply mw_11_4 rfl rfl (Nat.zero_le _) (show 17 < 18 by decide) rfl rfl (Nat.le_of_ble_eq_true rfl) ⟨rfl, rfl, Nat.le_of_ble_eq_true rfl, Nat.le_of_ble_eq_true rfl⟩ ?_
      refine j_nmS (fun t13 et13 => ?_)
      refine j_iincD C dX10_raise_49 rfl (by decide) ?_
      refine j_goto (tgt := 18) C dX10_raise_52 (by decide) ?_
      refine j_nmS (fun t14 et14 => ?_)
      refine j_at [(0, .ref (zad (wM D kc ad) 17)), (1, .int (nI (r))), (3, .int (nI (e))), (4, .int (dI i3))] ⟨rfl, rfl, rfl, rfl, trivial⟩ ?_
      have eF : (fX10_raise_18 r e) i3 z4 = t14 := by rw [hA12]; rw [et14]; (try rw [et13]); unfold fX10_raise_a2; first | done | (dsimp only; done) | rfl
      exact Eq.mp (congrArg (fun (z15 : zSt) => zJ κ (wM D kc ad) 18 (zlof [(0, .ref (zad (wM D kc ad) 17)), (1, .int (nI (r))), (3, .int (nI (e))), (4, .int (dI i3))]) [] z15) eF) (k0 ((by omega)))
  · intro hIi3
    revert hIi3
    refine z_nm (P := fun (z4 : zSt) => (fun i3 z4 => i3 ≤ 256) 0 z4 → zJ κ (wM D kc ad) 18 (zlof [(0, .ref (zad (wM D kc ad) 17)), (1, .int (nI (r))), (3, .int (nI (e))), (4, .int (dI 0))]) [] z4) (fun u16 eu16 => ?_)
    intro hIi3
    refine j_iload C dX10_raise_18 rfl ?_
    refine j_if_lt (tgt := 55) C dX10_raise_20 (by decide) (fun q17 => ?_) (fun q17 => False.elim (q17 dI_0))
    exact j_vret (st := []) C R0 dX10_raise_55 ⟨rfl, (by (try rw [eu16]); (try rw [et2]); (try rw [et1]); unfold fX10_raise; (try dsimp only); all_goals ((try simp only [zfst_mk, zsnd_mk]); all_goals rfl))⟩
theorem k2_fX10_raise_a1 (t6 : zSt) : zk2 (fX10_raise_a1 t6) = zk2 t6 := by
  unfold fX10_raise_a1
  (try dsimp only)
  all_goals (simp only [zW_2, zL_2]; done)
theorem k2_fX10_raise_a2 (r : Nat) (t6 : zSt) : zk2 (fX10_raise_a2 r t6) = zk2 t6 := by
  unfold fX10_raise_a2
  (try dsimp only)
  all_goals (simp only [zW_2, zL_2, k2_fX10_multiply]; done)
theorem k2_fX10_raise_18 (r : Nat) (e : Nat) (i3 : Nat) (z4 : zSt) : zk2 (fX10_raise_18 r e i3 z4) = zk2 z4 := by
  unfold fX10_raise_18
  (try dsimp only)
  all_goals (refine ite_keep (fun r : zSt => zk2 r) _ _ ?_ ?_ <;> (simp only [zW_2, zL_2, k2_fX10_multiply, k2_fX10_raise_a1, k2_fX10_raise_a2]; done))
theorem k2it_fX10_raise_18 (r : Nat) (e : Nat) (nn : Nat) (xx : zSt) : zk2 (zdown (fX10_raise_18 r e) nn xx) = zk2 xx := zdown_keep (fun x => zk2 x) _ (k2_fX10_raise_18 r e) nn xx
theorem k2_fX10_raise (r : Nat) (a : Nat) (e : Nat) (s0 : zSt) : zk2 (fX10_raise r a e s0) = zk2 s0 := by
  unfold fX10_raise
  (try dsimp only)
  all_goals (simp only [zW_2, zL_2, k2_fX10_copyOf, k2_fX10_put, k2_fX10_raise_18, k2it_fX10_raise_18]; done)
theorem i2_fX10_raise (r : Nat) (a : Nat) (e : Nat) (s0 : zSt) (kk9 : Nat) : (fX10_raise r a e s0).2.2 kk9 = s0.2.2 kk9 := z2_I (k2_fX10_raise r a e s0) kk9
theorem i3_fX10_raise (r : Nat) (a : Nat) (e : Nat) (s0 : zSt) (kk9 : Nat) : zi (fX10_raise r a e s0) kk9 = zi s0 kk9 := zi_of (k2_fX10_raise r a e s0) kk9

def fX10_invert (r : Nat) (a : Nat) (s0 : zSt) : zSt :=
    let t1 := fX10_words 0 ((-21 : Int64)) ((-1 : Int64)) ((-1 : Int64)) ((9223372036854775807 : Int64)) s0
    let t2 := fX10_copyOf 45 a t1
    let t3 := fX10_raise r 45 0 t2
    t3
set_option maxHeartbeats 4000000 in
set_option maxRecDepth 100000 in
theorem k_X10_invert (l : Launch) (D : va_G) (kc : Nat → ClassId) (ad : Nat → Nat) (r : Nat) (hr : r < 48) (a : Nat) (ha : a < 48) (s0 : zSt) : zM l yX10_invert cX10_invert 3 none rX10_invert (wM D kc ad) [.ref (zad (wM D kc ad) 17), .int (nI (r)), .int (nI (a))] s0 (zV0 (fX10_invert r a s0)) := by
  refine z_of (own := RX10) (by decide +kernel) rfl (Nat.le_of_ble_eq_true rfl) ?_
  intro κ C R0
  refine j_at [(0, .ref (zad (wM D kc ad) 17)), (1, .int (nI (r))), (2, .int (nI (a)))] ⟨rfl, rfl, rfl, trivial⟩ ?_
  refine j_aload_n C dX10_invert_0 rfl rfl ?_
  refine j_iconst (v := nI 0) C dX10_invert_1 (by decide +kernel) ?_
  refine j_ldc2 C dX10_invert_2 mw_12_1 ?_
  refine j_ldc2 C dX10_invert_5 mw_9_23 ?_
  refine j_ldc2 C dX10_invert_8 mw_9_23 ?_
  refine j_ldc2 C dX10_invert_11 mw_10_0 ?_
  refine j_callV0 (T := TX10) (N := 23) C dX10_invert_14 (k_X10_words l D kc ad 0 (by omega) ((-21 : Int64)) ((-1 : Int64)) ((-1 : Int64)) ((9223372036854775807 : Int64)) _ ) zy_X10_words mw_10_11 rfl rfl (Nat.zero_le _) (show 17 < 18 by decide) rfl rfl (Nat.le_of_ble_eq_true rfl) ⟨rfl, rfl, Nat.le_of_ble_eq_true rfl, Nat.le_of_ble_eq_true rfl⟩ ?_
  refine j_nmS (fun t1 et1 => ?_)
  refine j_aload_n C dX10_invert_17 rfl rfl ?_
  refine j_bipush (v := nI 45) C dX10_invert_18 (by decide +kernel) ?_
  refine j_iload_n C dX10_invert_20 rfl rfl ?_
  refine j_callV0 (T := TX10) (N := 23) C dX10_invert_21 (k_X10_copyOf l D kc ad 45 (by omega) a (by omega) _ ) zy_X10_copyOf mw_11_0 rfl rfl (Nat.zero_le _) (show 17 < 18 by decide) rfl rfl (Nat.le_of_ble_eq_true rfl) ⟨rfl, rfl, Nat.le_of_ble_eq_true rfl, Nat.le_of_ble_eq_true rfl⟩ ?_
  refine j_nmS (fun t2 et2 => ?_)
  refine j_aload_n C dX10_invert_24 rfl rfl ?_
  refine j_iload_n C dX10_invert_25 rfl rfl ?_
  refine j_bipush (v := nI 45) C dX10_invert_26 (by decide +kernel) ?_
  refine j_iconst (v := nI 0) C dX10_invert_28 (by decide +kernel) ?_
  refine j_callV0 (T := TX10) (N := 23) C dX10_invert_29 (k_X10_raise l D kc ad r (by omega) 45 (by omega) 0 (by omega) _ ) zy_X10_raise mw_10_20 rfl rfl (Nat.zero_le _) (show 17 < 18 by decide) rfl rfl (Nat.le_of_ble_eq_true rfl) ⟨rfl, rfl, Nat.le_of_ble_eq_true rfl, Nat.le_of_ble_eq_true rfl⟩ ?_
  refine j_nmS (fun t3 et3 => ?_)
  exact j_vret (st := []) C R0 dX10_invert_32 ⟨rfl, (by (try rw [et3]); (try rw [et2]); (try rw [et1]); unfold fX10_invert; (try dsimp only); all_goals ((try simp only [zfst_mk, zsnd_mk]); all_goals rfl))⟩
theorem k2_fX10_invert (r : Nat) (a : Nat) (s0 : zSt) : zk2 (fX10_invert r a s0) = zk2 s0 := by
  unfold fX10_invert
  (try dsimp only)
  all_goals (simp only [zW_2, zL_2, k2_fX10_copyOf, k2_fX10_raise, k2_fX10_words]; done)
theorem i2_fX10_invert (r : Nat) (a : Nat) (s0 : zSt) (kk9 : Nat) : (fX10_invert r a s0).2.2 kk9 = s0.2.2 kk9 := z2_I (k2_fX10_invert r a s0) kk9
theorem i3_fX10_invert (r : Nat) (a : Nat) (s0 : zSt) (kk9 : Nat) : zi (fX10_invert r a s0) kk9 = zi s0 kk9 := zi_of (k2_fX10_invert r a s0) kk9

def fX10_lessPrime_a1 (i2 : Nat) (z3 : zSt × Int64) : zSt × Int64 :=
    let x9 := ((z3.1.1 2 (544 + i2)) - ((65535 : Int64))) + z3.2
    let t10 := zW z3.1 3 i2 (x9 &&& ((65535 : Int64)))
    let x11 := zsr x9 16
    (t10, x11)
def fX10_lessPrime_a2 (i2 : Nat) (z3 : zSt × Int64) : zSt × Int64 :=
    let x15 := ((z3.1.1 2 (544 + i2)) - ((32767 : Int64))) + z3.2
    let t16 := zW z3.1 3 i2 (x15 &&& ((65535 : Int64)))
    let x17 := zsr x15 16
    (t16, x17)
def fX10_lessPrime_a3 (i2 : Nat) (z3 : zSt × Int64) : zSt × Int64 :=
    if i2 ≠ 15 then
      fX10_lessPrime_a1 i2 z3
    else
      fX10_lessPrime_a2 i2 z3
def fX10_lessPrime_a4 (i2 : Nat) (z3 : zSt × Int64) : zSt × Int64 :=
    let x21 := ((z3.1.1 2 (544 + i2)) - ((65517 : Int64))) + z3.2
    let t22 := zW z3.1 3 i2 (x21 &&& ((65535 : Int64)))
    let x23 := zsr x21 16
    (t22, x23)
def fX10_lessPrime_4  (i2 : Nat) (z3 : zSt × Int64) : zSt × Int64 :=
    if ¬ nI (i2) = 0 then
      fX10_lessPrime_a3 i2 z3
    else
      fX10_lessPrime_a4 i2 z3
def fX10_lessPrime_a5 (u26 : zSt × Int64) : zSt :=
    u26.1
def fX10_lessPrime_82  (i32 : Nat) (z33 : zSt) : zSt :=
    let t35 := zW z33 2 (544 + i32) (z33.1 3 i32)
    t35
def fX10_lessPrime_a6 (u26 : zSt × Int64) : zSt :=
    let t31 := u26.1
    let u38 := ziter fX10_lessPrime_82 0 16 t31
    u38
def fX10_lessPrime  (s0 : zSt) : zSt :=
    let x1 := (0 : Int64)
    let u26 := ziter fX10_lessPrime_4 0 16 (s0, x1)
    if ¬ lg_cmp u26.2 ((0 : Int64)) = 0 then
      fX10_lessPrime_a5 u26
    else
      fX10_lessPrime_a6 u26
set_option maxHeartbeats 4000000 in
set_option maxRecDepth 100000 in
theorem k_X10_lessPrime (l : Launch) (D : va_G) (kc : Nat → ClassId) (ad : Nat → Nat)  (s0 : zSt) : zM l yX10_lessPrime cX10_lessPrime 6 none rX10_lessPrime (wM D kc ad) [.ref (zad (wM D kc ad) 17)] s0 (zV0 (fX10_lessPrime  s0)) := by
  refine z_of (own := RX10) (by decide +kernel) rfl (Nat.le_of_ble_eq_true rfl) ?_
  intro κ C R0
  refine j_at [(0, .ref (zad (wM D kc ad) 17))] ⟨rfl, trivial⟩ ?_
  refine j_lconst (v := 0) C dX10_lessPrime_0 rfl ?_
  refine j_nmL (fun x1 ex1 => ?_)
  refine j_lstore_n C dX10_lessPrime_1 rfl (by decide) ?_
  refine j_iconst (v := nI 0) C dX10_lessPrime_2 (by decide +kernel) ?_
  refine j_istore_n C dX10_lessPrime_3 rfl (by decide) ?_
  refine j_at [(0, .ref (zad (wM D kc ad) 17)), (1, .long x1), (3, .int (nI (0)))] ⟨rfl, rfl, rfl, trivial⟩ ?_
  refine z_up (α := zSt × Int64) (fun (i2 : Nat) (z3 : zSt × Int64) => zJ κ (wM D kc ad) 4 (zlof [(0, .ref (zad (wM D kc ad) 17)), (1, .long z3.2), (3, .int (nI (i2)))]) [] z3.1) fX10_lessPrime_4 (fun _ _ => True) 16 ?_ (fun _ _ _ _ => trivial) 16 0 (s0, x1) (by omega) trivial ?_
  · intro i2 z3 hi2 hIi2 k0
    refine j_iload_n C dX10_lessPrime_4 rfl rfl ?_
    refine j_bipush (v := nI 16) C dX10_lessPrime_5 (by decide +kernel) ?_
    refine j_icmp_geN (tgt := 74) C dX10_lessPrime_7 (by decide) (by omega) (by omega) (fun q4 => False.elim (by omega)) (fun q4 => ?_)
    refine j_aload_n C dX10_lessPrime_10 rfl rfl ?_
    refine j_getR C dX10_lessPrime_11 (fx_RX10_21 D kc ad) (Nat.zero_le _) (show 17 < 18 by decide) ?_
    refine j_sipush (v := nI 544) C dX10_lessPrime_14 (by decide +kernel) ?_
    refine j_iload_n C dX10_lessPrime_17 rfl rfl ?_
    refine j_iaddN C dX10_lessPrime_18 ?_
    refine m_lald C dX10_lessPrime_19 (⟨rfl, rfl, by decide, by decide⟩ : ma 768 2) (by omega) ?_
    refine j_iload_n C dX10_lessPrime_20 rfl rfl ?_
    refine j_if_ne (tgt := 30) C dX10_lessPrime_21 (by decide) (fun q5 => ?_) (fun q5 => ?_)
    · have hA6 : fX10_lessPrime_4 i2 z3 = fX10_lessPrime_a3 i2 z3 := by have q5z := q5; (try dsimp only at q5z); unfold fX10_lessPrime_4; (try dsimp only); rw [if_pos q5z]; (try rfl)
      refine j_iload_n C dX10_lessPrime_30 rfl rfl ?_
      refine j_bipush (v := nI 15) C dX10_lessPrime_31 (by decide +kernel) ?_
      refine j_icmp_neN (tgt := 42) C dX10_lessPrime_33 (by decide) (by omega) (by omega) (fun q7 => ?_) (fun q7 => ?_)
      · have hA8 : fX10_lessPrime_a3 i2 z3 = fX10_lessPrime_a1 i2 z3 := by have q7z := q7; (try dsimp only at q7z); unfold fX10_lessPrime_a3; (try dsimp only); rw [if_pos q7z]; (try rfl)
        refine j_ldc2 C dX10_lessPrime_42 mw_10_19 ?_
        refine j_lsub C dX10_lessPrime_45 ?_
        refine j_lload_n C dX10_lessPrime_46 rfl rfl ?_
        refine j_ladd C dX10_lessPrime_47 ?_
        refine j_nmL (fun x9 ex9 => ?_)
        refine j_lstore C dX10_lessPrime_48 (by decide) ?_
        refine j_aload_n C dX10_lessPrime_50 rfl rfl ?_
        refine j_getR C dX10_lessPrime_51 (fx_RX10_24 D kc ad) (Nat.zero_le _) (show 17 < 18 by decide) ?_
        refine j_iload_n C dX10_lessPrime_54 rfl rfl ?_
        refine j_lload C dX10_lessPrime_55 rfl ?_
        refine j_ldc2 C dX10_lessPrime_57 mw_10_19 ?_
        refine j_land C dX10_lessPrime_60 ?_
        refine m_last C dX10_lessPrime_61 (⟨rfl, rfl, by decide, by decide⟩ : ma 32 3) (by omega) ?_
        refine j_nmS (fun t10 et10 => ?_)
        refine j_lload C dX10_lessPrime_62 rfl ?_
        refine j_bipush (v := nI 16) C dX10_lessPrime_64 (by decide +kernel) ?_
        refine j_lshr C dX10_lessPrime_66 (by omega) ?_
        refine j_nmL (fun x11 ex11 => ?_)
        refine j_lstore_n C dX10_lessPrime_67 rfl (by decide) ?_
        refine j_iincN (b := 1) C dX10_lessPrime_68 rfl (by decide +kernel) (by decide) ?_
        refine j_goto (tgt := 4) C dX10_lessPrime_71 (by decide) ?_
        refine j_nmS (fun t12 et12 => ?_)
        refine j_at [(0, .ref (zad (wM D kc ad) 17)), (1, .long x11), (3, .int (nI (i2 + 1)))] ⟨rfl, rfl, rfl, trivial⟩ ?_
        have eF : fX10_lessPrime_4 i2 z3 = (t12, x11) := by rw [hA6, hA8]; rw [et12]; (try rw [ex11]); (try rw [et10]); (try rw [ex9]); unfold fX10_lessPrime_a1; first | done | (dsimp only; done) | rfl
        exact Eq.mp (congrArg (fun (z13 : zSt × Int64) => zJ κ (wM D kc ad) 4 (zlof [(0, .ref (zad (wM D kc ad) 17)), (1, .long z13.2), (3, .int (nI (i2 + 1)))]) [] z13.1) eF) (k0 trivial)
      · have hA14 : fX10_lessPrime_a3 i2 z3 = fX10_lessPrime_a2 i2 z3 := by have q7z : ¬ (i2 ≠ 15) := (by omega); (try dsimp only at q7z); unfold fX10_lessPrime_a3; (try dsimp only); rw [if_neg q7z]; (try rfl)
        refine j_ldc2 C dX10_lessPrime_36 mw_12_15 ?_
        refine j_goto (tgt := 45) C dX10_lessPrime_39 (by decide) ?_
        refine j_lsub C dX10_lessPrime_45 ?_
        refine j_lload_n C dX10_lessPrime_46 rfl rfl ?_
        refine j_ladd C dX10_lessPrime_47 ?_
        refine j_nmL (fun x15 ex15 => ?_)
        refine j_lstore C dX10_lessPrime_48 (by decide) ?_
        refine j_aload_n C dX10_lessPrime_50 rfl rfl ?_
        refine j_getR C dX10_lessPrime_51 (fx_RX10_24 D kc ad) (Nat.zero_le _) (show 17 < 18 by decide) ?_
        refine j_iload_n C dX10_lessPrime_54 rfl rfl ?_
        refine j_lload C dX10_lessPrime_55 rfl ?_
        refine j_ldc2 C dX10_lessPrime_57 mw_10_19 ?_
        refine j_land C dX10_lessPrime_60 ?_
        refine m_last C dX10_lessPrime_61 (⟨rfl, rfl, by decide, by decide⟩ : ma 32 3) (by omega) ?_
        refine j_nmS (fun t16 et16 => ?_)
        refine j_lload C dX10_lessPrime_62 rfl ?_
        refine j_bipush (v := nI 16) C dX10_lessPrime_64 (by decide +kernel) ?_
        refine j_lshr C dX10_lessPrime_66 (by omega) ?_
        refine j_nmL (fun x17 ex17 => ?_)
        refine j_lstore_n C dX10_lessPrime_67 rfl (by decide) ?_
        refine j_iincN (b := 1) C dX10_lessPrime_68 rfl (by decide +kernel) (by decide) ?_
        refine j_goto (tgt := 4) C dX10_lessPrime_71 (by decide) ?_
        refine j_nmS (fun t18 et18 => ?_)
        refine j_at [(0, .ref (zad (wM D kc ad) 17)), (1, .long x17), (3, .int (nI (i2 + 1)))] ⟨rfl, rfl, rfl, trivial⟩ ?_
        have eF : fX10_lessPrime_4 i2 z3 = (t18, x17) := by rw [hA6, hA14]; rw [et18]; (try rw [ex17]); (try rw [et16]); (try rw [ex15]); unfold fX10_lessPrime_a2; first | done | (dsimp only; done) | rfl
        exact Eq.mp (congrArg (fun (z19 : zSt × Int64) => zJ κ (wM D kc ad) 4 (zlof [(0, .ref (zad (wM D kc ad) 17)), (1, .long z19.2), (3, .int (nI (i2 + 1)))]) [] z19.1) eF) (k0 trivial)
    · have hA20 : fX10_lessPrime_4 i2 z3 = fX10_lessPrime_a4 i2 z3 := by have q5z := q5; (try dsimp only at q5z); unfold fX10_lessPrime_4; (try dsimp only); rw [if_neg (fun z => z q5z)]; (try rfl)
      refine j_ldc2 C dX10_lessPrime_24 mw_12_14 ?_
      refine j_goto (tgt := 45) C dX10_lessPrime_27 (by decide) ?_
      refine j_lsub C dX10_lessPrime_45 ?_
      refine j_lload_n C dX10_lessPrime_46 rfl rfl ?_
      refine j_ladd C dX10_lessPrime_47 ?_
      refine j_nmL (fun x21 ex21 => ?_)
      refine j_lstore C dX10_lessPrime_48 (by decide) ?_
      refine j_aload_n C dX10_lessPrime_50 rfl rfl ?_
      refine j_getR C dX10_lessPrime_51 (fx_RX10_24 D kc ad) (Nat.zero_le _) (show 17 < 18 by decide) ?_
      refine j_iload_n C dX10_lessPrime_54 rfl rfl ?_
      refine j_lload C dX10_lessPrime_55 rfl ?_
      refine j_ldc2 C dX10_lessPrime_57 mw_10_19 ?_
      refine j_land C dX10_lessPrime_60 ?_
      refine m_last C dX10_lessPrime_61 (⟨rfl, rfl, by decide, by decide⟩ : ma 32 3) (by omega) ?_
      refine j_nmS (fun t22 et22 => ?_)
      refine j_lload C dX10_lessPrime_62 rfl ?_
      refine j_bipush (v := nI 16) C dX10_lessPrime_64 (by decide +kernel) ?_
      refine j_lshr C dX10_lessPrime_66 (by omega) ?_
      refine j_nmL (fun x23 ex23 => ?_)
      refine j_lstore_n C dX10_lessPrime_67 rfl (by decide) ?_
      refine j_iincN (b := 1) C dX10_lessPrime_68 rfl (by decide +kernel) (by decide) ?_
      refine j_goto (tgt := 4) C dX10_lessPrime_71 (by decide) ?_
      refine j_nmS (fun t24 et24 => ?_)
      refine j_at [(0, .ref (zad (wM D kc ad) 17)), (1, .long x23), (3, .int (nI (i2 + 1)))] ⟨rfl, rfl, rfl, trivial⟩ ?_
      have eF : fX10_lessPrime_4 i2 z3 = (t24, x23) := by rw [hA20]; rw [et24]; (try rw [ex23]); (try rw [et22]); (try rw [ex21]); unfold fX10_lessPrime_a4; first | done | (dsimp only; done) | rfl
      exact Eq.mp (congrArg (fun (z25 : zSt × Int64) => zJ κ (wM D kc ad) 4 (zlof [(0, .ref (zad (wM D kc ad) 17)), (1, .long z25.2), (3, .int (nI (i2 + 1)))]) [] z25.1) eF) (k0 trivial)
  · intro hIi2
    refine z_nm (P := fun (z3 : zSt × Int64) => zJ κ (wM D kc ad) 4 (zlof [(0, .ref (zad (wM D kc ad) 17)), (1, .long z3.2), (3, .int (nI (16)))]) [] z3.1) (fun u26 eu26 => ?_)
    refine j_iload_n C dX10_lessPrime_4 rfl rfl ?_
    refine j_bipush (v := nI 16) C dX10_lessPrime_5 (by decide +kernel) ?_
    refine j_icmp_geN (tgt := 74) C dX10_lessPrime_7 (by decide) (by omega) (by omega) (fun q27 => ?_) (fun q27 => False.elim (by omega))
    refine j_lload_n C dX10_lessPrime_74 rfl rfl ?_
    refine j_lconst (v := 0) C dX10_lessPrime_75 rfl ?_
    refine j_lcmp C dX10_lessPrime_76 ?_
    refine j_if_ne (tgt := 110) C dX10_lessPrime_77 (by decide) (fun q28 => ?_) (fun q28 => ?_)
    · have hA29 : fX10_lessPrime  s0 = fX10_lessPrime_a5 u26 := by (try rw [eu26]); (try rw [ex1]); have q28z := q28; (try rw [eu26] at q28z); (try rw [ex1] at q28z); (try dsimp only at q28z); unfold fX10_lessPrime; (try dsimp only); rw [if_pos q28z]; (try rfl)
      exact j_vret (st := []) C R0 dX10_lessPrime_110 ⟨rfl, (by rw [hA29]; unfold fX10_lessPrime_a5; (try dsimp only); all_goals ((try simp only [zfst_mk, zsnd_mk]); all_goals rfl))⟩
    · have hA30 : fX10_lessPrime  s0 = fX10_lessPrime_a6 u26 := by (try rw [eu26]); (try rw [ex1]); have q28z := q28; (try rw [eu26] at q28z); (try rw [ex1] at q28z); (try dsimp only at q28z); unfold fX10_lessPrime; (try dsimp only); rw [if_neg (fun z => z q28z)]; (try rfl)
      refine j_iconst (v := nI 0) C dX10_lessPrime_80 (by decide +kernel) ?_
      refine j_istore_n C dX10_lessPrime_81 rfl (by decide) ?_
      refine j_nmS (fun t31 et31 => ?_)
      refine j_at [(0, .ref (zad (wM D kc ad) 17)), (3, .int (nI (0)))] ⟨rfl, rfl, trivial⟩ ?_
      refine z_up (α := zSt) (fun (i32 : Nat) (z33 : zSt) => zJ κ (wM D kc ad) 82 (zlof [(0, .ref (zad (wM D kc ad) 17)), (3, .int (nI (i32)))]) [] z33) fX10_lessPrime_82 (fun _ _ => True) 16 ?_ (fun _ _ _ _ => trivial) 16 0 t31 (by omega) trivial ?_
      · intro i32 z33 hi32 hIi32 k0
        refine j_iload_n C dX10_lessPrime_82 rfl rfl ?_
        refine j_bipush (v := nI 16) C dX10_lessPrime_83 (by decide +kernel) ?_
        refine j_icmp_geN (tgt := 110) C dX10_lessPrime_85 (by decide) (by omega) (by omega) (fun q34 => False.elim (by omega)) (fun q34 => ?_)
        refine j_aload_n C dX10_lessPrime_88 rfl rfl ?_
        refine j_getR C dX10_lessPrime_89 (fx_RX10_21 D kc ad) (Nat.zero_le _) (show 17 < 18 by decide) ?_
        refine j_sipush (v := nI 544) C dX10_lessPrime_92 (by decide +kernel) ?_
        refine j_iload_n C dX10_lessPrime_95 rfl rfl ?_
        refine j_iaddN C dX10_lessPrime_96 ?_
        refine j_aload_n C dX10_lessPrime_97 rfl rfl ?_
        refine j_getR C dX10_lessPrime_98 (fx_RX10_24 D kc ad) (Nat.zero_le _) (show 17 < 18 by decide) ?_
        refine j_iload_n C dX10_lessPrime_101 rfl rfl ?_
        refine m_lald C dX10_lessPrime_102 (⟨rfl, rfl, by decide, by decide⟩ : ma 32 3) (by omega) ?_
        refine m_last C dX10_lessPrime_103 (⟨rfl, rfl, by decide, by decide⟩ : ma 768 2) (by omega) ?_
        refine j_nmS (fun t35 et35 => ?_)
        refine j_iincN (b := 1) C dX10_lessPrime_104 rfl (by decide +kernel) (by decide) ?_
        refine j_goto (tgt := 82) C dX10_lessPrime_107 (by decide) ?_
        refine j_nmS (fun t36 et36 => ?_)
        refine j_at [(0, .ref (zad (wM D kc ad) 17)), (3, .int (nI (i32 + 1)))] ⟨rfl, rfl, trivial⟩ ?_
        have eF : fX10_lessPrime_82 i32 z33 = t36 := by rw [et36]; (try rw [et35]); unfold fX10_lessPrime_82; first | done | (dsimp only; done) | rfl
        exact Eq.mp (congrArg (fun (z37 : zSt) => zJ κ (wM D kc ad) 82 (zlof [(0, .ref (zad (wM D kc ad) 17)), (3, .int (nI (i32 + 1)))]) [] z37) eF) (k0 trivial)
      · intro hIi32
        refine z_nm (P := fun (z33 : zSt) => zJ κ (wM D kc ad) 82 (zlof [(0, .ref (zad (wM D kc ad) 17)), (3, .int (nI (16)))]) [] z33) (fun u38 eu38 => ?_)
        refine j_iload_n C dX10_lessPrime_82 rfl rfl ?_
        refine j_bipush (v := nI 16) C dX10_lessPrime_83 (by decide +kernel) ?_
        refine j_icmp_geN (tgt := 110) C dX10_lessPrime_85 (by decide) (by omega) (by omega) (fun q39 => ?_) (fun q39 => False.elim (by omega))
        exact j_vret (st := []) C R0 dX10_lessPrime_110 ⟨rfl, (by rw [hA30]; (try rw [eu38]); (try rw [et31]); unfold fX10_lessPrime_a6; (try dsimp only); all_goals ((try simp only [zfst_mk, zsnd_mk]); all_goals rfl))⟩
theorem k2q_fX10_lessPrime_a1 (i2 : Nat) (z3 : zSt × Int64) : zk2f (fX10_lessPrime_a1 i2 z3) = zk2 z3.1 := by
  unfold fX10_lessPrime_a1
  (try dsimp only)
  all_goals (simp only [zW_2, zL_2, zk2f_mk]; done)
theorem k2_fX10_lessPrime_a1 (i2 : Nat) (z3 : zSt × Int64) : zk2 (fX10_lessPrime_a1 i2 z3).1 = zk2 z3.1 := k2q_fX10_lessPrime_a1 i2 z3
theorem k2q_fX10_lessPrime_a2 (i2 : Nat) (z3 : zSt × Int64) : zk2f (fX10_lessPrime_a2 i2 z3) = zk2 z3.1 := by
  unfold fX10_lessPrime_a2
  (try dsimp only)
  all_goals (simp only [zW_2, zL_2, zk2f_mk]; done)
theorem k2_fX10_lessPrime_a2 (i2 : Nat) (z3 : zSt × Int64) : zk2 (fX10_lessPrime_a2 i2 z3).1 = zk2 z3.1 := k2q_fX10_lessPrime_a2 i2 z3
theorem k2q_fX10_lessPrime_a3 (i2 : Nat) (z3 : zSt × Int64) : zk2f (fX10_lessPrime_a3 i2 z3) = zk2 z3.1 := by
  unfold fX10_lessPrime_a3
  (try dsimp only)
  all_goals (refine ite_keep (fun r : zSt × Int64 => zk2f r) _ _ ?_ ?_ <;> (simp only [zW_2, zL_2, k2_fX10_lessPrime_a1, k2_fX10_lessPrime_a2, k2q_fX10_lessPrime_a1, k2q_fX10_lessPrime_a2, zk2f_mk]; done))
theorem k2_fX10_lessPrime_a3 (i2 : Nat) (z3 : zSt × Int64) : zk2 (fX10_lessPrime_a3 i2 z3).1 = zk2 z3.1 := k2q_fX10_lessPrime_a3 i2 z3
theorem k2q_fX10_lessPrime_a4 (i2 : Nat) (z3 : zSt × Int64) : zk2f (fX10_lessPrime_a4 i2 z3) = zk2 z3.1 := by
  unfold fX10_lessPrime_a4
  (try dsimp only)
  all_goals (simp only [zW_2, zL_2, zk2f_mk]; done)
theorem k2_fX10_lessPrime_a4 (i2 : Nat) (z3 : zSt × Int64) : zk2 (fX10_lessPrime_a4 i2 z3).1 = zk2 z3.1 := k2q_fX10_lessPrime_a4 i2 z3
theorem k2q_fX10_lessPrime_4  (i2 : Nat) (z3 : zSt × Int64) : zk2f (fX10_lessPrime_4  i2 z3) = zk2 z3.1 := by
  unfold fX10_lessPrime_4
  (try dsimp only)
  all_goals (refine ite_keep (fun r : zSt × Int64 => zk2f r) _ _ ?_ ?_ <;> (simp only [zW_2, zL_2, k2_fX10_lessPrime_a3, k2_fX10_lessPrime_a4, k2q_fX10_lessPrime_a3, k2q_fX10_lessPrime_a4, zk2f_mk]; done))
theorem k2_fX10_lessPrime_4  (i2 : Nat) (z3 : zSt × Int64) : zk2 (fX10_lessPrime_4  i2 z3).1 = zk2 z3.1 := k2q_fX10_lessPrime_4 i2 z3
theorem k2it_fX10_lessPrime_4  (nn ii : Nat) (xx : zSt × Int64) : zk2 (ziter (fX10_lessPrime_4 ) ii nn xx).1 = zk2 xx.1 := ziter_keep (fun x => zk2 x.1) _ (k2_fX10_lessPrime_4 ) nn ii xx
theorem k2_fX10_lessPrime_a5 (u26 : zSt × Int64) : zk2 (fX10_lessPrime_a5 u26) = zk2 u26.1 := by
  unfold fX10_lessPrime_a5
  (try dsimp only)
  all_goals (simp only [zW_2, zL_2]; done)
theorem k2_fX10_lessPrime_82  (i32 : Nat) (z33 : zSt) : zk2 (fX10_lessPrime_82  i32 z33) = zk2 z33 := by
  unfold fX10_lessPrime_82
  (try dsimp only)
  all_goals (simp only [zW_2, zL_2]; done)
theorem k2it_fX10_lessPrime_82  (nn ii : Nat) (xx : zSt) : zk2 (ziter (fX10_lessPrime_82 ) ii nn xx) = zk2 xx := ziter_keep (fun x => zk2 x) _ (k2_fX10_lessPrime_82 ) nn ii xx
theorem k2_fX10_lessPrime_a6 (u26 : zSt × Int64) : zk2 (fX10_lessPrime_a6 u26) = zk2 u26.1 := by
  unfold fX10_lessPrime_a6
  (try dsimp only)
  all_goals (simp only [zW_2, zL_2, k2_fX10_lessPrime_82, k2it_fX10_lessPrime_82]; done)
theorem k2_fX10_lessPrime  (s0 : zSt) : zk2 (fX10_lessPrime  s0) = zk2 s0 := by
  unfold fX10_lessPrime
  (try dsimp only)
  all_goals (refine ite_keep (fun r : zSt => zk2 r) _ _ ?_ ?_ <;> (simp only [zW_2, zL_2, k2_fX10_lessPrime_4, k2_fX10_lessPrime_a5, k2_fX10_lessPrime_a6, k2q_fX10_lessPrime_4, k2it_fX10_lessPrime_4]; done))
theorem i2_fX10_lessPrime  (s0 : zSt) (kk9 : Nat) : (fX10_lessPrime  s0).2.2 kk9 = s0.2.2 kk9 := z2_I (k2_fX10_lessPrime s0) kk9
theorem i3_fX10_lessPrime  (s0 : zSt) (kk9 : Nat) : zi (fX10_lessPrime  s0) kk9 = zi s0 kk9 := zi_of (k2_fX10_lessPrime s0) kk9

def fX10_pack_9  (i2 : Nat) (z3 : zSt) : zSt :=
    let t5 := fX10_reduce 34 z3
    t5
def fX10_pack_28  (i10 : Nat) (z11 : zSt) : zSt :=
    let t13 := fX10_lessPrime  z11
    t13
def fX10_pack_45 (p : Nat) (i18 : Nat) (z19 : zSt) : zSt :=
    let x21 := 544 + (4 * i18)
    let t22 := zW z19 4 (p + i18) ((((z19.1 2 x21) ||| (zsl (z19.1 2 (x21 + 1)) 16)) ||| (zsl (z19.1 2 (x21 + 2)) 32)) ||| (zsl (z19.1 2 (x21 + 3)) 48))
    t22
def fX10_pack (p : Nat) (r : Nat) (s0 : zSt) : zSt :=
    let t1 := fX10_copyOf 34 r s0
    let u8 := ziter fX10_pack_9 0 4 t1
    let u16 := ziter fX10_pack_28 0 3 u8
    let u25 := ziter (fX10_pack_45 p) 0 4 u16
    u25
set_option maxHeartbeats 4000000 in
set_option maxRecDepth 100000 in
theorem k_X10_pack (l : Launch) (D : va_G) (kc : Nat → ClassId) (ad : Nat → Nat) (p : Nat) (hp : p ≤ 60) (r : Nat) (hr : r < 48) (s0 : zSt) : zM l yX10_pack cX10_pack 5 none rX10_pack (wM D kc ad) [.ref (zad (wM D kc ad) 17), .int (nI (p)), .int (nI (r))] s0 (zV0 (fX10_pack p r s0)) := by
  refine z_of (own := RX10) (by decide +kernel) rfl (Nat.le_of_ble_eq_true rfl) ?_
  intro κ C R0
  refine j_at [(0, .ref (zad (wM D kc ad) 17)), (1, .int (nI (p))), (2, .int (nI (r)))] ⟨rfl, rfl, rfl, trivial⟩ ?_
  refine j_aload_n C dX10_pack_0 rfl rfl ?_
  refine j_bipush (v := nI 34) C dX10_pack_1 (by decide +kernel) ?_
  refine j_iload_n C dX10_pack_3 rfl rfl ?_
  refine j_callV0 (T := TX10) (N := 23) C dX10_pack_4 (k_X10_copyOf l D kc ad 34 (by omega) r (by omega) _ ) zy_X10_copyOf mw_11_0 rfl rfl (Nat.zero_le _) (show 17 < 18 by decide) rfl rfl (Nat.le_of_ble_eq_true rfl) ⟨rfl, rfl, Nat.le_of_ble_eq_true rfl, Nat.le_of_ble_eq_true rfl⟩ ?_
  refine j_nmS (fun t1 et1 => ?_)
  refine j_iconst (v := nI 0) C dX10_pack_7 (by decide +kernel) ?_
  refine j_istore_n C dX10_pack_8 rfl (by decide) ?_
  refine j_at [(0, .ref (zad (wM D kc ad) 17)), (1, .int (nI (p))), (3, .int (nI (0)))] ⟨rfl, rfl, rfl, trivial⟩ ?_
  refine z_up (α := zSt) (fun (i2 : Nat) (z3 : zSt) => zJ κ (wM D kc ad) 9 (zlof [(0, .ref (zad (wM D kc ad) 17)), (1, .int (nI (p))), (3, .int (nI (i2)))]) [] z3) fX10_pack_9 (fun _ _ => True) 4 ?_ (fun _ _ _ _ => trivial) 4 0 t1 (by omega) trivial ?_
  · intro i2 z3 hi2 hIi2 k0
    refine j_iload_n C dX10_pack_9 rfl rfl ?_
    refine j_iconst (v := nI 4) C dX10_pack_10 (by decide +kernel) ?_
    refine j_icmp_geN (tgt := 26) C dX10_pack_11 (by decide) (by omega) (by omega) (fun q4 => False.elim (by omega)) (fun q4 => ?_)
    refine j_aload_n C dX10_pack_14 rfl rfl ?_
    refine j_bipush (v := nI 34) C dX10_pack_15 (by decide +kernel) ?_
    refine j_callV0 (T := TX10) (N := 23) C dX10_pack_17 (k_X10_reduce l D kc ad 34 (by omega) _ ) zy_X10_reduce mw_11_9 rfl rfl (Nat.zero_le _) (show 17 < 18 by decide) rfl rfl (Nat.le_of_ble_eq_true rfl) ⟨rfl, rfl, Nat.le_of_ble_eq_true rfl, Nat.le_of_ble_eq_true rfl⟩ ?_
    refine j_nmS (fun t5 et5 => ?_)
    refine j_iincN (b := 1) C dX10_pack_20 rfl (by decide +kernel) (by decide) ?_
    refine j_goto (tgt := 9) C dX10_pack_23 (by decide) ?_
    refine j_nmS (fun t6 et6 => ?_)
    refine j_at [(0, .ref (zad (wM D kc ad) 17)), (1, .int (nI (p))), (3, .int (nI (i2 + 1)))] ⟨rfl, rfl, rfl, trivial⟩ ?_
    have eF : fX10_pack_9 i2 z3 = t6 := by rw [et6]; (try rw [et5]); unfold fX10_pack_9; first | done | (dsimp only; done) | rfl
    exact Eq.mp (congrArg (fun (z7 : zSt) => zJ κ (wM D kc ad) 9 (zlof [(0, .ref (zad (wM D kc ad) 17)), (1, .int (nI (p))), (3, .int (nI (i2 + 1)))]) [] z7) eF) (k0 trivial)
  · intro hIi2
    refine z_nm (P := fun (z3 : zSt) => zJ κ (wM D kc ad) 9 (zlof [(0, .ref (zad (wM D kc ad) 17)), (1, .int (nI (p))), (3, .int (nI (4)))]) [] z3) (fun u8 eu8 => ?_)
    refine j_iload_n C dX10_pack_9 rfl rfl ?_
    refine j_iconst (v := nI 4) C dX10_pack_10 (by decide +kernel) ?_
    refine j_icmp_geN (tgt := 26) C dX10_pack_11 (by decide) (by omega) (by omega) (fun q9 => ?_) (fun q9 => False.elim (by omega))
    refine j_iconst (v := nI 0) C dX10_pack_26 (by decide +kernel) ?_
    refine j_istore_n C dX10_pack_27 rfl (by decide) ?_
    refine j_at [(0, .ref (zad (wM D kc ad) 17)), (1, .int (nI (p))), (3, .int (nI (0)))] ⟨rfl, rfl, rfl, trivial⟩ ?_
    refine z_up (α := zSt) (fun (i10 : Nat) (z11 : zSt) => zJ κ (wM D kc ad) 28 (zlof [(0, .ref (zad (wM D kc ad) 17)), (1, .int (nI (p))), (3, .int (nI (i10)))]) [] z11) fX10_pack_28 (fun _ _ => True) 3 ?_ (fun _ _ _ _ => trivial) 3 0 u8 (by omega) trivial ?_
    · intro i10 z11 hi10 hIi10 k0
      refine j_iload_n C dX10_pack_28 rfl rfl ?_
      refine j_iconst (v := nI 3) C dX10_pack_29 (by decide +kernel) ?_
      refine j_icmp_geN (tgt := 43) C dX10_pack_30 (by decide) (by omega) (by omega) (fun q12 => False.elim (by omega)) (fun q12 => ?_)
      refine j_aload_n C dX10_pack_33 rfl rfl ?_
      refine j_callV0 (T := TX10) (N := 23) C dX10_pack_34 (k_X10_lessPrime l D kc ad  _ ) zy_X10_lessPrime mw_12_10 rfl rfl (Nat.zero_le _) (show 17 < 18 by decide) rfl rfl (Nat.le_of_ble_eq_true rfl) ⟨rfl, rfl, Nat.le_of_ble_eq_true rfl, Nat.le_of_ble_eq_true rfl⟩ ?_
      refine j_nmS (fun t13 et13 => ?_)
      refine j_iincN (b := 1) C dX10_pack_37 rfl (by decide +kernel) (by decide) ?_
      refine j_goto (tgt := 28) C dX10_pack_40 (by decide) ?_
      refine j_nmS (fun t14 et14 => ?_)
      refine j_at [(0, .ref (zad (wM D kc ad) 17)), (1, .int (nI (p))), (3, .int (nI (i10 + 1)))] ⟨rfl, rfl, rfl, trivial⟩ ?_
      have eF : fX10_pack_28 i10 z11 = t14 := by rw [et14]; (try rw [et13]); unfold fX10_pack_28; first | done | (dsimp only; done) | rfl
      exact Eq.mp (congrArg (fun (z15 : zSt) => zJ κ (wM D kc ad) 28 (zlof [(0, .ref (zad (wM D kc ad) 17)), (1, .int (nI (p))), (3, .int (nI (i10 + 1)))]) [] z15) eF) (k0 trivial)
    · intro hIi10
      refine z_nm (P := fun (z11 : zSt) => zJ κ (wM D kc ad) 28 (zlof [(0, .ref (zad (wM D kc ad) 17)), (1, .int (nI (p))), (3, .int (nI (3)))]) [] z11) (fun u16 eu16 => ?_)
      refine j_iload_n C dX10_pack_28 rfl rfl ?_
      refine j_iconst (v := nI 3) C dX10_pack_29 (by decide +kernel) ?_
      refine j_icmp_geN (tgt := 43) C dX10_pack_30 (by decide) (by omega) (by omega) (fun q17 => ?_) (fun q17 => False.elim (by omega))
      refine j_iconst (v := nI 0) C dX10_pack_43 (by decide +kernel) ?_
      refine j_istore_n C dX10_pack_44 rfl (by decide) ?_
      refine j_at [(0, .ref (zad (wM D kc ad) 17)), (1, .int (nI (p))), (3, .int (nI (0)))] ⟨rfl, rfl, rfl, trivial⟩ ?_
      refine z_up (α := zSt) (fun (i18 : Nat) (z19 : zSt) => zJ κ (wM D kc ad) 45 (zlof [(0, .ref (zad (wM D kc ad) 17)), (1, .int (nI (p))), (3, .int (nI (i18)))]) [] z19) (fX10_pack_45 p) (fun _ _ => True) 4 ?_ (fun _ _ _ _ => trivial) 4 0 u16 (by omega) trivial ?_
      · intro i18 z19 hi18 hIi18 k0
        refine j_iload_n C dX10_pack_45 rfl rfl ?_
        refine j_iconst (v := nI 4) C dX10_pack_46 (by decide +kernel) ?_
        refine j_icmp_geN (tgt := 119) C dX10_pack_47 (by decide) (by omega) (by omega) (fun q20 => False.elim (by omega)) (fun q20 => ?_)
        refine j_sipush (v := nI 544) C dX10_pack_50 (by decide +kernel) ?_
        refine j_iconst (v := nI 4) C dX10_pack_53 (by decide +kernel) ?_
        refine j_iload_n C dX10_pack_54 rfl rfl ?_
        refine j_imulN C dX10_pack_55 ?_
        refine j_iaddN C dX10_pack_56 ?_
        refine j_nmN (fun x21 ex21 => ?_)
        refine j_istore C dX10_pack_57 (by decide) ?_
        refine j_aload_n C dX10_pack_59 rfl rfl ?_
        refine j_getR C dX10_pack_60 (fx_RX10_27 D kc ad) (Nat.zero_le _) (show 17 < 18 by decide) ?_
        refine j_iload_n C dX10_pack_63 rfl rfl ?_
        refine j_iload_n C dX10_pack_64 rfl rfl ?_
        refine j_iaddN C dX10_pack_65 ?_
        refine j_aload_n C dX10_pack_66 rfl rfl ?_
        refine j_getR C dX10_pack_67 (fx_RX10_21 D kc ad) (Nat.zero_le _) (show 17 < 18 by decide) ?_
        refine j_iload C dX10_pack_70 rfl ?_
        refine m_lald C dX10_pack_72 (⟨rfl, rfl, by decide, by decide⟩ : ma 768 2) (by omega) ?_
        refine j_aload_n C dX10_pack_73 rfl rfl ?_
        refine j_getR C dX10_pack_74 (fx_RX10_21 D kc ad) (Nat.zero_le _) (show 17 < 18 by decide) ?_
        refine j_iload C dX10_pack_77 rfl ?_
        refine j_iconst (v := nI 1) C dX10_pack_79 (by decide +kernel) ?_
        refine j_iaddN C dX10_pack_80 ?_
        refine m_lald C dX10_pack_81 (⟨rfl, rfl, by decide, by decide⟩ : ma 768 2) (by omega) ?_
        refine j_bipush (v := nI 16) C dX10_pack_82 (by decide +kernel) ?_
        refine j_lshl C dX10_pack_84 (by omega) ?_
        refine j_lor C dX10_pack_85 ?_
        refine j_aload_n C dX10_pack_86 rfl rfl ?_
        refine j_getR C dX10_pack_87 (fx_RX10_21 D kc ad) (Nat.zero_le _) (show 17 < 18 by decide) ?_
        refine j_iload C dX10_pack_90 rfl ?_
        refine j_iconst (v := nI 2) C dX10_pack_92 (by decide +kernel) ?_
        refine j_iaddN C dX10_pack_93 ?_
        refine m_lald C dX10_pack_94 (⟨rfl, rfl, by decide, by decide⟩ : ma 768 2) (by omega) ?_
        refine j_bipush (v := nI 32) C dX10_pack_95 (by decide +kernel) ?_
        refine j_lshl C dX10_pack_97 (by omega) ?_
        refine j_lor C dX10_pack_98 ?_
        refine j_aload_n C dX10_pack_99 rfl rfl ?_
        refine j_getR C dX10_pack_100 (fx_RX10_21 D kc ad) (Nat.zero_le _) (show 17 < 18 by decide) ?_
        refine j_iload C dX10_pack_103 rfl ?_
        refine j_iconst (v := nI 3) C dX10_pack_105 (by decide +kernel) ?_
        refine j_iaddN C dX10_pack_106 ?_
        refine m_lald C dX10_pack_107 (⟨rfl, rfl, by decide, by decide⟩ : ma 768 2) (by omega) ?_
        refine j_bipush (v := nI 48) C dX10_pack_108 (by decide +kernel) ?_
        refine j_lshl C dX10_pack_110 (by omega) ?_
        refine j_lor C dX10_pack_111 ?_
        refine m_last C dX10_pack_112 (⟨rfl, rfl, by decide, by decide⟩ : ma 64 4) (by omega) ?_
        refine j_nmS (fun t22 et22 => ?_)
        refine j_iincN (b := 1) C dX10_pack_113 rfl (by decide +kernel) (by decide) ?_
        refine j_goto (tgt := 45) C dX10_pack_116 (by decide) ?_
        refine j_nmS (fun t23 et23 => ?_)
        refine j_at [(0, .ref (zad (wM D kc ad) 17)), (1, .int (nI (p))), (3, .int (nI (i18 + 1)))] ⟨rfl, rfl, rfl, trivial⟩ ?_
        have eF : (fX10_pack_45 p) i18 z19 = t23 := by rw [et23]; (try rw [et22]); (try rw [ex21]); unfold fX10_pack_45; first | done | (dsimp only; done) | rfl
        exact Eq.mp (congrArg (fun (z24 : zSt) => zJ κ (wM D kc ad) 45 (zlof [(0, .ref (zad (wM D kc ad) 17)), (1, .int (nI (p))), (3, .int (nI (i18 + 1)))]) [] z24) eF) (k0 trivial)
      · intro hIi18
        refine z_nm (P := fun (z19 : zSt) => zJ κ (wM D kc ad) 45 (zlof [(0, .ref (zad (wM D kc ad) 17)), (1, .int (nI (p))), (3, .int (nI (4)))]) [] z19) (fun u25 eu25 => ?_)
        refine j_iload_n C dX10_pack_45 rfl rfl ?_
        refine j_iconst (v := nI 4) C dX10_pack_46 (by decide +kernel) ?_
        refine j_icmp_geN (tgt := 119) C dX10_pack_47 (by decide) (by omega) (by omega) (fun q26 => ?_) (fun q26 => False.elim (by omega))
        exact j_vret (st := []) C R0 dX10_pack_119 ⟨rfl, (by (try rw [eu25]); (try rw [eu16]); (try rw [eu8]); (try rw [et1]); unfold fX10_pack; (try dsimp only); all_goals ((try simp only [zfst_mk, zsnd_mk]); all_goals rfl))⟩
theorem k2_fX10_pack_9  (i2 : Nat) (z3 : zSt) : zk2 (fX10_pack_9  i2 z3) = zk2 z3 := by
  unfold fX10_pack_9
  (try dsimp only)
  all_goals (simp only [zW_2, zL_2, k2_fX10_reduce]; done)
theorem k2it_fX10_pack_9  (nn ii : Nat) (xx : zSt) : zk2 (ziter (fX10_pack_9 ) ii nn xx) = zk2 xx := ziter_keep (fun x => zk2 x) _ (k2_fX10_pack_9 ) nn ii xx
theorem k2_fX10_pack_28  (i10 : Nat) (z11 : zSt) : zk2 (fX10_pack_28  i10 z11) = zk2 z11 := by
  unfold fX10_pack_28
  (try dsimp only)
  all_goals (simp only [zW_2, zL_2, k2_fX10_lessPrime]; done)
theorem k2it_fX10_pack_28  (nn ii : Nat) (xx : zSt) : zk2 (ziter (fX10_pack_28 ) ii nn xx) = zk2 xx := ziter_keep (fun x => zk2 x) _ (k2_fX10_pack_28 ) nn ii xx
theorem k2_fX10_pack_45 (p : Nat) (i18 : Nat) (z19 : zSt) : zk2 (fX10_pack_45 p i18 z19) = zk2 z19 := by
  unfold fX10_pack_45
  (try dsimp only)
  all_goals (simp only [zW_2, zL_2]; done)
theorem k2it_fX10_pack_45 (p : Nat) (nn ii : Nat) (xx : zSt) : zk2 (ziter (fX10_pack_45 p) ii nn xx) = zk2 xx := ziter_keep (fun x => zk2 x) _ (k2_fX10_pack_45 p) nn ii xx
theorem k2_fX10_pack (p : Nat) (r : Nat) (s0 : zSt) : zk2 (fX10_pack p r s0) = zk2 s0 := by
  unfold fX10_pack
  (try dsimp only)
  all_goals (simp only [zW_2, zL_2, k2_fX10_copyOf, k2_fX10_pack_28, k2_fX10_pack_45, k2_fX10_pack_9, k2it_fX10_pack_28, k2it_fX10_pack_45, k2it_fX10_pack_9]; done)
theorem i2_fX10_pack (p : Nat) (r : Nat) (s0 : zSt) (kk9 : Nat) : (fX10_pack p r s0).2.2 kk9 = s0.2.2 kk9 := z2_I (k2_fX10_pack p r s0) kk9
theorem i3_fX10_pack (p : Nat) (r : Nat) (s0 : zSt) (kk9 : Nat) : zi (fX10_pack p r s0) kk9 = zi s0 kk9 := zi_of (k2_fX10_pack p r s0) kk9

def fX10_unpack_2 (r : Nat) (p : Nat) (i1 : Nat) (z2 : zSt) : zSt :=
    let t4 := zW z2 2 ((16 * r) + i1) ((zus (z2.1 4 (p + (i1 / 4))) (16 * (i1 % 4))) &&& ((65535 : Int64)))
    t4
def fX10_unpack (r : Nat) (p : Nat) (s0 : zSt) : zSt :=
    let u7 := ziter (fX10_unpack_2 r p) 0 16 s0
    let t9 := zW u7 2 ((16 * r) + 15) ((u7.1 2 ((16 * r) + 15)) &&& ((32767 : Int64)))
    t9
set_option maxHeartbeats 4000000 in
set_option maxRecDepth 100000 in
theorem k_X10_unpack (l : Launch) (D : va_G) (kc : Nat → ClassId) (ad : Nat → Nat) (r : Nat) (hr : r < 48) (p : Nat) (hp : p ≤ 60) (s0 : zSt) : zM l yX10_unpack cX10_unpack 4 none rX10_unpack (wM D kc ad) [.ref (zad (wM D kc ad) 17), .int (nI (r)), .int (nI (p))] s0 (zV0 (fX10_unpack r p s0)) := by
  refine z_of (own := RX10) (by decide +kernel) rfl (Nat.le_of_ble_eq_true rfl) ?_
  intro κ C R0
  refine j_at [(0, .ref (zad (wM D kc ad) 17)), (1, .int (nI (r))), (2, .int (nI (p)))] ⟨rfl, rfl, rfl, trivial⟩ ?_
  refine j_iconst (v := nI 0) C dX10_unpack_0 (by decide +kernel) ?_
  refine j_istore_n C dX10_unpack_1 rfl (by decide) ?_
  refine j_at [(0, .ref (zad (wM D kc ad) 17)), (1, .int (nI (r))), (2, .int (nI (p))), (3, .int (nI (0)))] ⟨rfl, rfl, rfl, rfl, trivial⟩ ?_
  refine z_up (α := zSt) (fun (i1 : Nat) (z2 : zSt) => zJ κ (wM D kc ad) 2 (zlof [(0, .ref (zad (wM D kc ad) 17)), (1, .int (nI (r))), (2, .int (nI (p))), (3, .int (nI (i1)))]) [] z2) (fX10_unpack_2 r p) (fun _ _ => True) 16 ?_ (fun _ _ _ _ => trivial) 16 0 s0 (by omega) trivial ?_
  · intro i1 z2 hi1 hIi1 k0
    refine j_iload_n C dX10_unpack_2 rfl rfl ?_
    refine j_bipush (v := nI 16) C dX10_unpack_3 (by decide +kernel) ?_
    refine j_icmp_geN (tgt := 46) C dX10_unpack_5 (by decide) (by omega) (by omega) (fun q3 => False.elim (by omega)) (fun q3 => ?_)
    refine j_aload_n C dX10_unpack_8 rfl rfl ?_
    refine j_getR C dX10_unpack_9 (fx_RX10_21 D kc ad) (Nat.zero_le _) (show 17 < 18 by decide) ?_
    refine j_bipush (v := nI 16) C dX10_unpack_12 (by decide +kernel) ?_
    refine j_iload_n C dX10_unpack_14 rfl rfl ?_
    refine j_imulN C dX10_unpack_15 ?_
    refine j_iload_n C dX10_unpack_16 rfl rfl ?_
    refine j_iaddN C dX10_unpack_17 ?_
    refine j_aload_n C dX10_unpack_18 rfl rfl ?_
    refine j_getR C dX10_unpack_19 (fx_RX10_27 D kc ad) (Nat.zero_le _) (show 17 < 18 by decide) ?_
    refine j_iload_n C dX10_unpack_22 rfl rfl ?_
    refine j_iload_n C dX10_unpack_23 rfl rfl ?_
    refine j_iconst (v := nI 4) C dX10_unpack_24 (by decide +kernel) ?_
    refine j_idivN C dX10_unpack_25 (by omega) (by decide) (by decide) ?_
    refine j_iaddN C dX10_unpack_26 ?_
    refine m_lald C dX10_unpack_27 (⟨rfl, rfl, by decide, by decide⟩ : ma 64 4) (by omega) ?_
    refine j_bipush (v := nI 16) C dX10_unpack_28 (by decide +kernel) ?_
    refine j_iload_n C dX10_unpack_30 rfl rfl ?_
    refine j_iconst (v := nI 4) C dX10_unpack_31 (by decide +kernel) ?_
    refine j_iremN C dX10_unpack_32 (by omega) (by decide) (by decide) ?_
    refine j_imulN C dX10_unpack_33 ?_
    refine j_lushr C dX10_unpack_34 (by omega) ?_
    refine j_ldc2 C dX10_unpack_35 mw_10_19 ?_
    refine j_land C dX10_unpack_38 ?_
    refine m_last C dX10_unpack_39 (⟨rfl, rfl, by decide, by decide⟩ : ma 768 2) (by omega) ?_
    refine j_nmS (fun t4 et4 => ?_)
    refine j_iincN (b := 1) C dX10_unpack_40 rfl (by decide +kernel) (by decide) ?_
    refine j_goto (tgt := 2) C dX10_unpack_43 (by decide) ?_
    refine j_nmS (fun t5 et5 => ?_)
    refine j_at [(0, .ref (zad (wM D kc ad) 17)), (1, .int (nI (r))), (2, .int (nI (p))), (3, .int (nI (i1 + 1)))] ⟨rfl, rfl, rfl, rfl, trivial⟩ ?_
    have eF : (fX10_unpack_2 r p) i1 z2 = t5 := by rw [et5]; (try rw [et4]); unfold fX10_unpack_2; first | done | (dsimp only; done) | rfl
    exact Eq.mp (congrArg (fun (z6 : zSt) => zJ κ (wM D kc ad) 2 (zlof [(0, .ref (zad (wM D kc ad) 17)), (1, .int (nI (r))), (2, .int (nI (p))), (3, .int (nI (i1 + 1)))]) [] z6) eF) (k0 trivial)
  · intro hIi1
    refine z_nm (P := fun (z2 : zSt) => zJ κ (wM D kc ad) 2 (zlof [(0, .ref (zad (wM D kc ad) 17)), (1, .int (nI (r))), (2, .int (nI (p))), (3, .int (nI (16)))]) [] z2) (fun u7 eu7 => ?_)
    refine j_iload_n C dX10_unpack_2 rfl rfl ?_
    refine j_bipush (v := nI 16) C dX10_unpack_3 (by decide +kernel) ?_
    refine j_icmp_geN (tgt := 46) C dX10_unpack_5 (by decide) (by omega) (by omega) (fun q8 => ?_) (fun q8 => False.elim (by omega))
    refine j_aload_n C dX10_unpack_46 rfl rfl ?_
    refine j_getR C dX10_unpack_47 (fx_RX10_21 D kc ad) (Nat.zero_le _) (show 17 < 18 by decide) ?_
    refine j_bipush (v := nI 16) C dX10_unpack_50 (by decide +kernel) ?_
    refine j_iload_n C dX10_unpack_52 rfl rfl ?_
    refine j_imulN C dX10_unpack_53 ?_
    refine j_bipush (v := nI 15) C dX10_unpack_54 (by decide +kernel) ?_
    refine j_iaddN C dX10_unpack_56 ?_
    refine j_dup2 C dX10_unpack_57 rfl rfl ?_
    refine m_lald C dX10_unpack_58 (⟨rfl, rfl, by decide, by decide⟩ : ma 768 2) (by omega) ?_
    refine j_ldc2 C dX10_unpack_59 mw_12_15 ?_
    refine j_land C dX10_unpack_62 ?_
    refine m_last C dX10_unpack_63 (⟨rfl, rfl, by decide, by decide⟩ : ma 768 2) (by omega) ?_
    refine j_nmS (fun t9 et9 => ?_)
    exact j_vret (st := []) C R0 dX10_unpack_64 ⟨rfl, (by (try rw [et9]); (try rw [eu7]); unfold fX10_unpack; (try dsimp only); all_goals ((try simp only [zfst_mk, zsnd_mk]); all_goals rfl))⟩
theorem k2_fX10_unpack_2 (r : Nat) (p : Nat) (i1 : Nat) (z2 : zSt) : zk2 (fX10_unpack_2 r p i1 z2) = zk2 z2 := by
  unfold fX10_unpack_2
  (try dsimp only)
  all_goals (simp only [zW_2, zL_2]; done)
theorem k2it_fX10_unpack_2 (r : Nat) (p : Nat) (nn ii : Nat) (xx : zSt) : zk2 (ziter (fX10_unpack_2 r p) ii nn xx) = zk2 xx := ziter_keep (fun x => zk2 x) _ (k2_fX10_unpack_2 r p) nn ii xx
theorem k2_fX10_unpack (r : Nat) (p : Nat) (s0 : zSt) : zk2 (fX10_unpack r p s0) = zk2 s0 := by
  unfold fX10_unpack
  (try dsimp only)
  all_goals (simp only [zW_2, zL_2, k2_fX10_unpack_2, k2it_fX10_unpack_2]; done)
theorem i2_fX10_unpack (r : Nat) (p : Nat) (s0 : zSt) (kk9 : Nat) : (fX10_unpack r p s0).2.2 kk9 = s0.2.2 kk9 := z2_I (k2_fX10_unpack r p s0) kk9
theorem i3_fX10_unpack (r : Nat) (p : Nat) (s0 : zSt) (kk9 : Nat) : zi (fX10_unpack r p s0) kk9 = zi s0 kk9 := zi_of (k2_fX10_unpack r p s0) kk9

def fX10_isSame_a1 (t3 : zSt) : Bool × zSt :=
    (false, t3)
def fX10_isSame_a2 (t3 : zSt) : Bool × zSt :=
    (true, t3)
def fX10_isSame (a : Nat) (b : Nat) (s0 : zSt) : Bool × zSt :=
    let t1 := fX10_pack 24 a s0
    let t2 := fX10_words 16 (t1.1 4 24) (t1.1 4 25) (t1.1 4 26) (t1.1 4 27) t1
    let t3 := fX10_pack 24 b t2
    if ¬ vX10_against 24 16 t3 = 0 then
      fX10_isSame_a1 t3
    else
      fX10_isSame_a2 t3
set_option maxHeartbeats 4000000 in
set_option maxRecDepth 100000 in
theorem k_X10_isSame (l : Launch) (D : va_G) (kc : Nat → ClassId) (ad : Nat → Nat) (a : Nat) (ha : a < 48) (b : Nat) (hb : b < 48) (s0 : zSt) : zM l yX10_isSame cX10_isSame 3 (some .boolean) rX10_isSame (wM D kc ad) [.ref (zad (wM D kc ad) 17), .int (nI (a)), .int (nI (b))] s0 (zV1 (.int (bI (zfst (fX10_isSame a b s0)))) (zsnd (fX10_isSame a b s0))) := by
  refine z_of (own := RX10) (by decide +kernel) rfl (Nat.le_of_ble_eq_true rfl) ?_
  intro κ C R0
  refine j_at [(0, .ref (zad (wM D kc ad) 17)), (1, .int (nI (a))), (2, .int (nI (b)))] ⟨rfl, rfl, rfl, trivial⟩ ?_
  refine j_aload_n C dX10_isSame_0 rfl rfl ?_
  refine j_bipush (v := nI 24) C dX10_isSame_1 (by decide +kernel) ?_
  refine j_iload_n C dX10_isSame_3 rfl rfl ?_
  refine j_callV0 (T := TX10) (N := 23) C dX10_isSame_4 (k_X10_pack l D kc ad 24 (by omega) a (by omega) _ ) zy_X10_pack mw_12_6 rfl rfl (Nat.zero_le _) (show 17 < 18 by decide) rfl rfl (Nat.le_of_ble_eq_true rfl) ⟨rfl, rfl, Nat.le_of_ble_eq_true rfl, Nat.le_of_ble_eq_true rfl⟩ ?_
  refine j_nmS (fun t1 et1 => ?_)
  refine j_aload_n C dX10_isSame_7 rfl rfl ?_
  refine j_bipush (v := nI 16) C dX10_isSame_8 (by decide +kernel) ?_
  refine j_aload_n C dX10_isSame_10 rfl rfl ?_
  refine j_getR C dX10_isSame_11 (fx_RX10_27 D kc ad) (Nat.zero_le _) (show 17 < 18 by decide) ?_
  refine j_bipush (v := nI 24) C dX10_isSame_14 (by decide +kernel) ?_
  refine m_lald C dX10_isSame_16 (⟨rfl, rfl, by decide, by decide⟩ : ma 64 4) (by omega) ?_
  refine j_aload_n C dX10_isSame_17 rfl rfl ?_
  refine j_getR C dX10_isSame_18 (fx_RX10_27 D kc ad) (Nat.zero_le _) (show 17 < 18 by decide) ?_
  refine j_bipush (v := nI 25) C dX10_isSame_21 (by decide +kernel) ?_
  refine m_lald C dX10_isSame_23 (⟨rfl, rfl, by decide, by decide⟩ : ma 64 4) (by omega) ?_
  refine j_aload_n C dX10_isSame_24 rfl rfl ?_
  refine j_getR C dX10_isSame_25 (fx_RX10_27 D kc ad) (Nat.zero_le _) (show 17 < 18 by decide) ?_
  refine j_bipush (v := nI 26) C dX10_isSame_28 (by decide +kernel) ?_
  refine m_lald C dX10_isSame_30 (⟨rfl, rfl, by decide, by decide⟩ : ma 64 4) (by omega) ?_
  refine j_aload_n C dX10_isSame_31 rfl rfl ?_
  refine j_getR C dX10_isSame_32 (fx_RX10_27 D kc ad) (Nat.zero_le _) (show 17 < 18 by decide) ?_
  refine j_bipush (v := nI 27) C dX10_isSame_35 (by decide +kernel) ?_
  refine m_lald C dX10_isSame_37 (⟨rfl, rfl, by decide, by decide⟩ : ma 64 4) (by omega) ?_
  refine j_callV0 (T := TX10) (N := 23) C dX10_isSame_38 (k_X10_words l D kc ad 16 (by omega) (t1.1 4 24) (t1.1 4 25) (t1.1 4 26) (t1.1 4 27) _ ) zy_X10_words mw_10_11 rfl rfl (Nat.zero_le _) (show 17 < 18 by decide) rfl rfl (Nat.le_of_ble_eq_true rfl) ⟨rfl, rfl, Nat.le_of_ble_eq_true rfl, Nat.le_of_ble_eq_true rfl⟩ ?_
  refine j_nmS (fun t2 et2 => ?_)
  refine j_aload_n C dX10_isSame_41 rfl rfl ?_
  refine j_bipush (v := nI 24) C dX10_isSame_42 (by decide +kernel) ?_
  refine j_iload_n C dX10_isSame_44 rfl rfl ?_
  refine j_callV0 (T := TX10) (N := 23) C dX10_isSame_45 (k_X10_pack l D kc ad 24 (by omega) b (by omega) _ ) zy_X10_pack mw_12_6 rfl rfl (Nat.zero_le _) (show 17 < 18 by decide) rfl rfl (Nat.le_of_ble_eq_true rfl) ⟨rfl, rfl, Nat.le_of_ble_eq_true rfl, Nat.le_of_ble_eq_true rfl⟩ ?_
  refine j_nmS (fun t3 et3 => ?_)
  refine j_aload_n C dX10_isSame_48 rfl rfl ?_
  refine j_bipush (v := nI 24) C dX10_isSame_49 (by decide +kernel) ?_
  refine j_bipush (v := nI 16) C dX10_isSame_51 (by decide +kernel) ?_
  refine j_callV1 (T := TX10) (N := 23) C dX10_isSame_53 (k_X10_against l D kc ad 24 (by omega) 16 (by omega) _ ) zy_X10_against mw_12_20 rfl rfl (Nat.zero_le _) (show 17 < 18 by decide) rfl rfl (Nat.le_of_ble_eq_true rfl) ⟨rfl, rfl, Nat.le_of_ble_eq_true rfl, Nat.le_of_ble_eq_true rfl⟩ ?_
  refine j_if_ne (tgt := 63) C dX10_isSame_56 (by decide) (fun q4 => ?_) (fun q4 => ?_)
  · have hA5 : fX10_isSame a b s0 = fX10_isSame_a1 t3 := by (try rw [et3]); (try rw [et2]); (try rw [et1]); have q4z := q4; (try rw [et3] at q4z); (try rw [et2] at q4z); (try rw [et1] at q4z); (try dsimp only at q4z); unfold fX10_isSame; (try dsimp only); rw [if_pos q4z]; (try rfl)
    refine j_iconst (v := nI 0) C dX10_isSame_63 (by decide +kernel) ?_
    refine j_top (v := .int (bI false)) (by decide +kernel) ?_
    exact j_zret (st := []) C R0 dX10_isSame_64 ⟨(by rw [hA5]; unfold fX10_isSame_a1; (try dsimp only); all_goals ((try simp only [zfst_mk, zsnd_mk]); all_goals rfl)), ((by rw [hA5]; unfold fX10_isSame_a1; (try dsimp only); all_goals ((try simp only [zfst_mk, zsnd_mk]); all_goals rfl)))⟩
  · have hA6 : fX10_isSame a b s0 = fX10_isSame_a2 t3 := by (try rw [et3]); (try rw [et2]); (try rw [et1]); have q4z := q4; (try rw [et3] at q4z); (try rw [et2] at q4z); (try rw [et1] at q4z); (try dsimp only at q4z); unfold fX10_isSame; (try dsimp only); rw [if_neg (fun z => z q4z)]; (try rfl)
    refine j_iconst (v := nI 1) C dX10_isSame_59 (by decide +kernel) ?_
    refine j_goto (tgt := 64) C dX10_isSame_60 (by decide) ?_
    refine j_top (v := .int (bI true)) (by decide +kernel) ?_
    exact j_zret (st := []) C R0 dX10_isSame_64 ⟨(by rw [hA6]; unfold fX10_isSame_a2; (try dsimp only); all_goals ((try simp only [zfst_mk, zsnd_mk]); all_goals rfl)), ((by rw [hA6]; unfold fX10_isSame_a2; (try dsimp only); all_goals ((try simp only [zfst_mk, zsnd_mk]); all_goals rfl)))⟩
theorem k2q_fX10_isSame_a1 (t3 : zSt) : zk2s (fX10_isSame_a1 t3) = zk2 t3 := by
  unfold fX10_isSame_a1
  (try dsimp only)
  all_goals (simp only [zW_2, zL_2, zk2s_mk]; done)
theorem k2_fX10_isSame_a1 (t3 : zSt) : zk2 (zsnd (fX10_isSame_a1 t3)) = zk2 t3 := k2q_fX10_isSame_a1 t3
theorem k2q_fX10_isSame_a2 (t3 : zSt) : zk2s (fX10_isSame_a2 t3) = zk2 t3 := by
  unfold fX10_isSame_a2
  (try dsimp only)
  all_goals (simp only [zW_2, zL_2, zk2s_mk]; done)
theorem k2_fX10_isSame_a2 (t3 : zSt) : zk2 (zsnd (fX10_isSame_a2 t3)) = zk2 t3 := k2q_fX10_isSame_a2 t3
theorem k2q_fX10_isSame (a : Nat) (b : Nat) (s0 : zSt) : zk2s (fX10_isSame a b s0) = zk2 s0 := by
  unfold fX10_isSame
  (try dsimp only)
  all_goals (refine ite_keep (fun r : Bool × zSt => zk2s r) _ _ ?_ ?_ <;> (simp only [zW_2, zL_2, k2_fX10_isSame_a1, k2_fX10_isSame_a2, k2_fX10_pack, k2_fX10_words, k2q_fX10_isSame_a1, k2q_fX10_isSame_a2, zk2s_mk]; done))
theorem k2_fX10_isSame (a : Nat) (b : Nat) (s0 : zSt) : zk2 (zsnd (fX10_isSame a b s0)) = zk2 s0 := k2q_fX10_isSame a b s0
theorem i2_fX10_isSame (a : Nat) (b : Nat) (s0 : zSt) (kk9 : Nat) : (zsnd (fX10_isSame a b s0)).2.2 kk9 = s0.2.2 kk9 := z2_I (k2_fX10_isSame a b s0) kk9
theorem i3_fX10_isSame (a : Nat) (b : Nat) (s0 : zSt) (kk9 : Nat) : zi (zsnd (fX10_isSame a b s0)) kk9 = zi s0 kk9 := zi_of (k2_fX10_isSame a b s0) kk9

def fX10_lowest (r : Nat) (s0 : zSt) : Int32 × zSt :=
    let t1 := fX10_pack 24 r s0
    (((t1.1 4 24) &&& ((1 : Int64))).toInt32, t1)
set_option maxHeartbeats 4000000 in
set_option maxRecDepth 100000 in
theorem k_X10_lowest (l : Launch) (D : va_G) (kc : Nat → ClassId) (ad : Nat → Nat) (r : Nat) (hr : r < 48) (s0 : zSt) : zM l yX10_lowest cX10_lowest 2 (some .int) rX10_lowest (wM D kc ad) [.ref (zad (wM D kc ad) 17), .int (nI (r))] s0 (zV1 (.int (zfst (fX10_lowest r s0))) (zsnd (fX10_lowest r s0))) := by
  refine z_of (own := RX10) (by decide +kernel) rfl (Nat.le_of_ble_eq_true rfl) ?_
  intro κ C R0
  refine j_at [(0, .ref (zad (wM D kc ad) 17)), (1, .int (nI (r)))] ⟨rfl, rfl, trivial⟩ ?_
  refine j_aload_n C dX10_lowest_0 rfl rfl ?_
  refine j_bipush (v := nI 24) C dX10_lowest_1 (by decide +kernel) ?_
  refine j_iload_n C dX10_lowest_3 rfl rfl ?_
  refine j_callV0 (T := TX10) (N := 23) C dX10_lowest_4 (k_X10_pack l D kc ad 24 (by omega) r (by omega) _ ) zy_X10_pack mw_12_6 rfl rfl (Nat.zero_le _) (show 17 < 18 by decide) rfl rfl (Nat.le_of_ble_eq_true rfl) ⟨rfl, rfl, Nat.le_of_ble_eq_true rfl, Nat.le_of_ble_eq_true rfl⟩ ?_
  refine j_nmS (fun t1 et1 => ?_)
  refine j_aload_n C dX10_lowest_7 rfl rfl ?_
  refine j_getR C dX10_lowest_8 (fx_RX10_27 D kc ad) (Nat.zero_le _) (show 17 < 18 by decide) ?_
  refine j_bipush (v := nI 24) C dX10_lowest_11 (by decide +kernel) ?_
  refine m_lald C dX10_lowest_13 (⟨rfl, rfl, by decide, by decide⟩ : ma 64 4) (by omega) ?_
  refine j_lconst (v := 1) C dX10_lowest_14 rfl ?_
  refine j_land C dX10_lowest_15 ?_
  refine j_l2i C dX10_lowest_16 ?_
  exact j_iret (st := []) C R0 dX10_lowest_17 ⟨(by (try rw [et1]); unfold fX10_lowest; (try dsimp only); all_goals ((try simp only [zfst_mk, zsnd_mk]); all_goals rfl)), ((by (try rw [et1]); unfold fX10_lowest; (try dsimp only); all_goals ((try simp only [zfst_mk, zsnd_mk]); all_goals rfl)))⟩
theorem k2q_fX10_lowest (r : Nat) (s0 : zSt) : zk2s (fX10_lowest r s0) = zk2 s0 := by
  unfold fX10_lowest
  (try dsimp only)
  all_goals (simp only [zW_2, zL_2, k2_fX10_pack, zk2s_mk]; done)
theorem k2_fX10_lowest (r : Nat) (s0 : zSt) : zk2 (zsnd (fX10_lowest r s0)) = zk2 s0 := k2q_fX10_lowest r s0
theorem i2_fX10_lowest (r : Nat) (s0 : zSt) (kk9 : Nat) : (zsnd (fX10_lowest r s0)).2.2 kk9 = s0.2.2 kk9 := z2_I (k2_fX10_lowest r s0) kk9
theorem i3_fX10_lowest (r : Nat) (s0 : zSt) (kk9 : Nat) : zi (zsnd (fX10_lowest r s0)) kk9 = zi s0 kk9 := zi_of (k2_fX10_lowest r s0) kk9

def fX10_roots_a1 (r : Nat) (t5 : zSt) : Bool × zSt :=
    let t8 := fX10_multiply r r 4 t5
    let t9 := fX10_multiply 33 r r t8
    let t10 := zsnd (fX10_isSame 33 44 t9)
    (zfst (fX10_isSame 33 44 t9), t10)
def fX10_roots_a2 (t5 : zSt) : Bool × zSt :=
    (true, t5)
def fX10_roots (r : Nat) (a : Nat) (s0 : zSt) : Bool × zSt :=
    let t1 := fX10_words 0 ((-2 : Int64)) ((-1 : Int64)) ((-1 : Int64)) ((1152921504606846975 : Int64)) s0
    let t2 := fX10_copyOf 44 a t1
    let t3 := fX10_raise r 44 0 t2
    let t4 := fX10_multiply 33 r r t3
    let t5 := zsnd (fX10_isSame 33 44 t4)
    bif (zfst (fX10_isSame 33 44 t4)) then
      fX10_roots_a2 t5
    else
      fX10_roots_a1 r t5
set_option maxHeartbeats 4000000 in
set_option maxRecDepth 100000 in
theorem k_X10_roots (l : Launch) (D : va_G) (kc : Nat → ClassId) (ad : Nat → Nat) (r : Nat) (hr : r < 48) (a : Nat) (ha : a < 48) (s0 : zSt) : zM l yX10_roots cX10_roots 3 (some .boolean) rX10_roots (wM D kc ad) [.ref (zad (wM D kc ad) 17), .int (nI (r)), .int (nI (a))] s0 (zV1 (.int (bI (zfst (fX10_roots r a s0)))) (zsnd (fX10_roots r a s0))) := by
  refine z_of (own := RX10) (by decide +kernel) rfl (Nat.le_of_ble_eq_true rfl) ?_
  intro κ C R0
  refine j_at [(0, .ref (zad (wM D kc ad) 17)), (1, .int (nI (r))), (2, .int (nI (a)))] ⟨rfl, rfl, rfl, trivial⟩ ?_
  refine j_aload_n C dX10_roots_0 rfl rfl ?_
  refine j_iconst (v := nI 0) C dX10_roots_1 (by decide +kernel) ?_
  refine j_ldc2 C dX10_roots_2 mw_13_12 ?_
  refine j_ldc2 C dX10_roots_5 mw_9_23 ?_
  refine j_ldc2 C dX10_roots_8 mw_9_23 ?_
  refine j_ldc2 C dX10_roots_11 mw_13_13 ?_
  refine j_callV0 (T := TX10) (N := 23) C dX10_roots_14 (k_X10_words l D kc ad 0 (by omega) ((-2 : Int64)) ((-1 : Int64)) ((-1 : Int64)) ((1152921504606846975 : Int64)) _ ) zy_X10_words mw_10_11 rfl rfl (Nat.zero_le _) (show 17 < 18 by decide) rfl rfl (Nat.le_of_ble_eq_true rfl) ⟨rfl, rfl, Nat.le_of_ble_eq_true rfl, Nat.le_of_ble_eq_true rfl⟩ ?_
  refine j_nmS (fun t1 et1 => ?_)
  refine j_aload_n C dX10_roots_17 rfl rfl ?_
  refine j_bipush (v := nI 44) C dX10_roots_18 (by decide +kernel) ?_
  refine j_iload_n C dX10_roots_20 rfl rfl ?_
  refine j_callV0 (T := TX10) (N := 23) C dX10_roots_21 (k_X10_copyOf l D kc ad 44 (by omega) a (by omega) _ ) zy_X10_copyOf mw_11_0 rfl rfl (Nat.zero_le _) (show 17 < 18 by decide) rfl rfl (Nat.le_of_ble_eq_true rfl) ⟨rfl, rfl, Nat.le_of_ble_eq_true rfl, Nat.le_of_ble_eq_true rfl⟩ ?_
  refine j_nmS (fun t2 et2 => ?_)
  refine j_aload_n C dX10_roots_24 rfl rfl ?_
  refine j_iload_n C dX10_roots_25 rfl rfl ?_
  refine j_bipush (v := nI 44) C dX10_roots_26 (by decide +kernel) ?_
  refine j_iconst (v := nI 0) C dX10_roots_28 (by decide +kernel) ?_
  refine j_callV0 (T := TX10) (N := 23) C dX10_roots_29 (k_X10_raise l D kc ad r (by omega) 44 (by omega) 0 (by omega) _ ) zy_X10_raise mw_10_20 rfl rfl (Nat.zero_le _) (show 17 < 18 by decide) rfl rfl (Nat.le_of_ble_eq_true rfl) ⟨rfl, rfl, Nat.le_of_ble_eq_true rfl, Nat.le_of_ble_eq_true rfl⟩ ?_
  refine j_nmS (fun t3 et3 => ?_)
  refine j_aload_n C dX10_roots_32 rfl rfl ?_
  refine j_bipush (v := nI 33) C dX10_roots_33 (by decide +kernel) ?_
  refine j_iload_n C dX10_roots_35 rfl rfl ?_
  refine j_iload_n C dX10_roots_36 rfl rfl ?_
  refine j_callV0 (T := TX10) (N := 23) C dX10_roots_37 (k_X10_multiply l D kc ad 33 (by omega) r (by omega) r (by omega) _ ) zy_X10_multiply mw_11_4 rfl rfl (Nat.zero_le _) (show 17 < 18 by decide) rfl rfl (Nat.le_of_ble_eq_true rfl) ⟨rfl, rfl, Nat.le_of_ble_eq_true rfl, Nat.le_of_ble_eq_true rfl⟩ ?_
  refine j_nmS (fun t4 et4 => ?_)
  refine j_aload_n C dX10_roots_40 rfl rfl ?_
  refine j_bipush (v := nI 33) C dX10_roots_41 (by decide +kernel) ?_
  refine j_bipush (v := nI 44) C dX10_roots_43 (by decide +kernel) ?_
  refine j_callV1 (T := TX10) (N := 23) C dX10_roots_45 (k_X10_isSame l D kc ad 33 (by omega) 44 (by omega) _ ) zy_X10_isSame mw_13_14 rfl rfl (Nat.zero_le _) (show 17 < 18 by decide) rfl rfl (Nat.le_of_ble_eq_true rfl) ⟨rfl, rfl, Nat.le_of_ble_eq_true rfl, Nat.le_of_ble_eq_true rfl⟩ ?_
  refine j_nmS (fun t5 et5 => ?_)
  refine j_if_eqB (tgt := 53) C dX10_roots_48 (by decide) (fun q6 => ?_) (fun q6 => ?_)
  · have hA7 : fX10_roots r a s0 = fX10_roots_a1 r t5 := by (try rw [et5]); (try rw [et4]); (try rw [et3]); (try rw [et2]); (try rw [et1]); have q6z := q6; (try rw [et5] at q6z); (try rw [et4] at q6z); (try rw [et3] at q6z); (try rw [et2] at q6z); (try rw [et1] at q6z); (try dsimp only at q6z); unfold fX10_roots; (try dsimp only); rw [q6z, cond_false]; (try rfl)
    refine j_aload_n C dX10_roots_53 rfl rfl ?_
    refine j_iload_n C dX10_roots_54 rfl rfl ?_
    refine j_iload_n C dX10_roots_55 rfl rfl ?_
    refine j_iconst (v := nI 4) C dX10_roots_56 (by decide +kernel) ?_
    refine j_callV0 (T := TX10) (N := 23) C dX10_roots_57 (k_X10_multiply l D kc ad r (by omega) r (by omega) 4 (by omega) _ ) zy_X10_multiply mw_11_4 rfl rfl (Nat.zero_le _) (show 17 < 18 by decide) rfl rfl (Nat.le_of_ble_eq_true rfl) ⟨rfl, rfl, Nat.le_of_ble_eq_true rfl, Nat.le_of_ble_eq_true rfl⟩ ?_
    refine j_nmS (fun t8 et8 => ?_)
    refine j_aload_n C dX10_roots_60 rfl rfl ?_
    refine j_bipush (v := nI 33) C dX10_roots_61 (by decide +kernel) ?_
    refine j_iload_n C dX10_roots_63 rfl rfl ?_
    refine j_iload_n C dX10_roots_64 rfl rfl ?_
    refine j_callV0 (T := TX10) (N := 23) C dX10_roots_65 (k_X10_multiply l D kc ad 33 (by omega) r (by omega) r (by omega) _ ) zy_X10_multiply mw_11_4 rfl rfl (Nat.zero_le _) (show 17 < 18 by decide) rfl rfl (Nat.le_of_ble_eq_true rfl) ⟨rfl, rfl, Nat.le_of_ble_eq_true rfl, Nat.le_of_ble_eq_true rfl⟩ ?_
    refine j_nmS (fun t9 et9 => ?_)
    refine j_aload_n C dX10_roots_68 rfl rfl ?_
    refine j_bipush (v := nI 33) C dX10_roots_69 (by decide +kernel) ?_
    refine j_bipush (v := nI 44) C dX10_roots_71 (by decide +kernel) ?_
    refine j_callV1 (T := TX10) (N := 23) C dX10_roots_73 (k_X10_isSame l D kc ad 33 (by omega) 44 (by omega) _ ) zy_X10_isSame mw_13_14 rfl rfl (Nat.zero_le _) (show 17 < 18 by decide) rfl rfl (Nat.le_of_ble_eq_true rfl) ⟨rfl, rfl, Nat.le_of_ble_eq_true rfl, Nat.le_of_ble_eq_true rfl⟩ ?_
    refine j_nmS (fun t10 et10 => ?_)
    exact j_zret (st := []) C R0 dX10_roots_76 ⟨(by rw [hA7]; (try rw [et10]); (try rw [et9]); (try rw [et8]); unfold fX10_roots_a1; (try dsimp only); all_goals ((try simp only [zfst_mk, zsnd_mk]); all_goals rfl)), ((by rw [hA7]; (try rw [et10]); (try rw [et9]); (try rw [et8]); unfold fX10_roots_a1; (try dsimp only); all_goals ((try simp only [zfst_mk, zsnd_mk]); all_goals rfl)))⟩
  · have hA11 : fX10_roots r a s0 = fX10_roots_a2 t5 := by (try rw [et5]); (try rw [et4]); (try rw [et3]); (try rw [et2]); (try rw [et1]); have q6z := q6; (try rw [et5] at q6z); (try rw [et4] at q6z); (try rw [et3] at q6z); (try rw [et2] at q6z); (try rw [et1] at q6z); (try dsimp only at q6z); unfold fX10_roots; (try dsimp only); rw [q6z, cond_true]; (try rfl)
    refine j_iconst (v := nI 1) C dX10_roots_51 (by decide +kernel) ?_
    refine j_top (v := .int (bI true)) (by decide +kernel) ?_
    exact j_zret (st := []) C R0 dX10_roots_52 ⟨(by rw [hA11]; unfold fX10_roots_a2; (try dsimp only); all_goals ((try simp only [zfst_mk, zsnd_mk]); all_goals rfl)), ((by rw [hA11]; unfold fX10_roots_a2; (try dsimp only); all_goals ((try simp only [zfst_mk, zsnd_mk]); all_goals rfl)))⟩
theorem k2q_fX10_roots_a1 (r : Nat) (t5 : zSt) : zk2s (fX10_roots_a1 r t5) = zk2 t5 := by
  unfold fX10_roots_a1
  (try dsimp only)
  all_goals (simp only [zW_2, zL_2, k2_fX10_isSame, k2_fX10_multiply, k2q_fX10_isSame, zk2s_mk]; done)
theorem k2_fX10_roots_a1 (r : Nat) (t5 : zSt) : zk2 (zsnd (fX10_roots_a1 r t5)) = zk2 t5 := k2q_fX10_roots_a1 r t5
theorem k2q_fX10_roots_a2 (t5 : zSt) : zk2s (fX10_roots_a2 t5) = zk2 t5 := by
  unfold fX10_roots_a2
  (try dsimp only)
  all_goals (simp only [zW_2, zL_2, zk2s_mk]; done)
theorem k2_fX10_roots_a2 (t5 : zSt) : zk2 (zsnd (fX10_roots_a2 t5)) = zk2 t5 := k2q_fX10_roots_a2 t5
theorem k2q_fX10_roots (r : Nat) (a : Nat) (s0 : zSt) : zk2s (fX10_roots r a s0) = zk2 s0 := by
  unfold fX10_roots
  (try dsimp only)
  all_goals (refine cond_keep (fun r : Bool × zSt => zk2s r) _ ?_ ?_ <;> (simp only [zW_2, zL_2, k2_fX10_copyOf, k2_fX10_isSame, k2_fX10_multiply, k2_fX10_raise, k2_fX10_roots_a1, k2_fX10_roots_a2, k2_fX10_words, k2q_fX10_isSame, k2q_fX10_roots_a1, k2q_fX10_roots_a2, zk2s_mk]; done))
theorem k2_fX10_roots (r : Nat) (a : Nat) (s0 : zSt) : zk2 (zsnd (fX10_roots r a s0)) = zk2 s0 := k2q_fX10_roots r a s0
theorem i2_fX10_roots (r : Nat) (a : Nat) (s0 : zSt) (kk9 : Nat) : (zsnd (fX10_roots r a s0)).2.2 kk9 = s0.2.2 kk9 := z2_I (k2_fX10_roots r a s0) kk9
theorem i3_fX10_roots (r : Nat) (a : Nat) (s0 : zSt) (kk9 : Nat) : zi (zsnd (fX10_roots r a s0)) kk9 = zi s0 kk9 := zi_of (k2_fX10_roots r a s0) kk9
