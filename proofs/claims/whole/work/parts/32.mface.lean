theorem min_of {x : Int32} {b : Nat} {s : zSt} (hb : b + 1 < 2 ^ 31) (h : vX10_in x (nI 0) (nI b) s = true) : x = nI x.toNatClampNeg ∧ x.toNatClampNeg < b + 1 := by
  unfold vX10_in at h
  by_cases h1 : x < nI 0
  · rw [if_pos h1] at h; cases h
  · rw [if_neg h1] at h
    unfold fX10_in_a4 at h
    by_cases h2 : nI b < x
    · rw [if_pos h2] at h; cases h
    · refine nI_self (by omega) h1 (Or.inl (Int32.lt_iff_toInt_lt.mpr ?_))
      have := Int32.le_iff_toInt_le.mp (Int32.not_lt.mp h2)
      rw [nI_toInt (by omega)] at this ⊢
      omega
theorem msl_of {x : Int32} {s : zSt} (h : vX10_isSlot x s = true) : x = nI x.toNatClampNeg ∧ x.toNatClampNeg < 24 := min_of (b := 23) (by decide) h
theorem msl_N {k : Nat} {s : zSt} (hk : k < 100) (h : vX10_isSlot (nI k) s = true) : k < 24 := by
  have := (msl_of h).2
  rw [nI_clamp (by omega)] at this
  exact this
def fX10_set_a1 (v : Int32) (i : Int32) (x : Int64) (s0 : zSt) : Int32 × zSt :=
    let t7 := zW s0 0 ((4 * v.toNatClampNeg) + i.toNatClampNeg) x
    (nI (1), t7)
def fX10_set_a2 (s0 : zSt) : Int32 × zSt :=
    ((-102 : Int32), s0)
def fX10_set_a3 (v : Int32) (i : Int32) (x : Int64) (s0 : zSt) : Int32 × zSt :=
    bif (vX10_in i (nI (0)) (nI (3)) s0) then
      fX10_set_a1 v i x s0
    else
      fX10_set_a2 s0
def fX10_set_a4 (s0 : zSt) : Int32 × zSt :=
    ((-101 : Int32), s0)
def fX10_set (v : Int32) (i : Int32) (x : Int64) (s0 : zSt) : Int32 × zSt :=
    bif (vX10_isSlot v s0) then
      fX10_set_a3 v i x s0
    else
      fX10_set_a4 s0
set_option maxHeartbeats 4000000 in
set_option maxRecDepth 100000 in
theorem k_X10_set (l : Launch) (D : va_G) (kc : Nat → ClassId) (ad : Nat → Nat) (v : Int32) (i : Int32) (x : Int64) (s0 : zSt) : zM l yX10_set cX10_set 5 (some .int) rX10_set (wM D kc ad) [.ref (zad (wM D kc ad) 17), .int v, .int i, .long x] s0 (zV1 (.int (zfst (fX10_set v i x s0))) (zsnd (fX10_set v i x s0))) := by
  refine z_of (own := RX10) (by decide +kernel) rfl (Nat.le_of_ble_eq_true rfl) ?_
  intro κ C R0
  refine j_at [(0, .ref (zad (wM D kc ad) 17)), (1, .int v), (2, .int i), (3, .long x)] ⟨rfl, rfl, rfl, rfl, trivial⟩ ?_
  refine j_iload_n C dX10_set_0 rfl rfl ?_
  refine j_callS1 C dX10_set_1 (k_X10_isSlot l D kc ad (v) _ ) zy_X10_isSlot mw_15_3 rfl rfl (Nat.le_of_ble_eq_true rfl) ⟨rfl, rfl, Nat.le_of_ble_eq_true rfl, Nat.le_of_ble_eq_true rfl⟩ ?_
  refine j_if_neB (tgt := 10) C dX10_set_4 (by decide) (fun q1 => ?_) (fun q1 => ?_)
  · have hA2 : fX10_set v i x s0 = fX10_set_a3 v i x s0 := by have q1z := q1; (try dsimp only at q1z); unfold fX10_set; (try dsimp only); rw [q1z, cond_true]; (try rfl)
    have hc3 := msl_of (x := v) (by assumption)
    have hc3b := hc3.2
    refine j_at [(0, .ref (zad (wM D kc ad) 17)), (1, .int (nI (v.toNatClampNeg))), (2, .int i), (3, .long x)] ⟨rfl, congrArg (fun q => some (Value.int q)) hc3.1, rfl, rfl, trivial⟩ ?_
    refine j_iload_n C dX10_set_10 rfl rfl ?_
    refine j_iconst (v := nI 0) C dX10_set_11 (by decide +kernel) ?_
    refine j_iconst (v := nI 3) C dX10_set_12 (by decide +kernel) ?_
    refine j_callS1 C dX10_set_13 (k_X10_in l D kc ad (i) (nI (0)) (nI (3)) _ ) zy_X10_in mw_15_6 rfl rfl (Nat.le_of_ble_eq_true rfl) ⟨rfl, rfl, Nat.le_of_ble_eq_true rfl, Nat.le_of_ble_eq_true rfl⟩ ?_
    refine j_if_neB (tgt := 22) C dX10_set_16 (by decide) (fun q4 => ?_) (fun q4 => ?_)
    · have hA5 : fX10_set_a3 v i x s0 = fX10_set_a1 v i x s0 := by have q4z := q4; (try dsimp only at q4z); unfold fX10_set_a3; (try dsimp only); rw [q4z, cond_true]; (try rfl)
      have hc6 := min_of (x := i) (b := 3) (by decide) (by assumption)
      have hc6b := hc6.2
      refine j_at [(0, .ref (zad (wM D kc ad) 17)), (1, .int (nI (v.toNatClampNeg))), (2, .int (nI (i.toNatClampNeg))), (3, .long x)] ⟨rfl, rfl, congrArg (fun q => some (Value.int q)) hc6.1, rfl, trivial⟩ ?_
      refine j_aload_n C dX10_set_22 rfl rfl ?_
      refine j_getR C dX10_set_23 (fx_RX10_7 D kc ad) (Nat.zero_le _) (show 17 < 18 by decide) ?_
      refine j_iconst (v := nI 4) C dX10_set_26 (by decide +kernel) ?_
      refine j_iload_n C dX10_set_27 rfl rfl ?_
      refine j_imulN C dX10_set_28 ?_
      refine j_iload_n C dX10_set_29 rfl rfl ?_
      refine j_iaddN C dX10_set_30 ?_
      refine j_lload_n C dX10_set_31 rfl rfl ?_
      refine m_last C dX10_set_32 (⟨rfl, rfl, by decide, by decide⟩ : ma 96 0) (by omega) ?_
      refine j_nmS (fun t7 et7 => ?_)
      refine j_iconst (v := nI 1) C dX10_set_33 (by decide +kernel) ?_
      exact j_iret (st := []) C R0 dX10_set_34 ⟨(by rw [hA2, hA5]; (try rw [et7]); unfold fX10_set_a1; (try dsimp only); all_goals ((try simp only [zfst_mk, zsnd_mk]); all_goals rfl)), ((by rw [hA2, hA5]; (try rw [et7]); unfold fX10_set_a1; (try dsimp only); all_goals ((try simp only [zfst_mk, zsnd_mk]); all_goals rfl)))⟩
    · have hA8 : fX10_set_a3 v i x s0 = fX10_set_a2 s0 := by have q4z := q4; (try dsimp only at q4z); unfold fX10_set_a3; (try dsimp only); rw [q4z, cond_false]; (try rfl)
      refine j_bipush (v := -102) C dX10_set_19 (by decide +kernel) ?_
      exact j_iret (st := []) C R0 dX10_set_21 ⟨(by rw [hA2, hA8]; unfold fX10_set_a2; (try dsimp only); all_goals ((try simp only [zfst_mk, zsnd_mk]); all_goals rfl)), ((by rw [hA2, hA8]; unfold fX10_set_a2; (try dsimp only); all_goals ((try simp only [zfst_mk, zsnd_mk]); all_goals rfl)))⟩
  · have hA9 : fX10_set v i x s0 = fX10_set_a4 s0 := by have q1z := q1; (try dsimp only at q1z); unfold fX10_set; (try dsimp only); rw [q1z, cond_false]; (try rfl)
    refine j_bipush (v := -101) C dX10_set_7 (by decide +kernel) ?_
    exact j_iret (st := []) C R0 dX10_set_9 ⟨(by rw [hA9]; unfold fX10_set_a4; (try dsimp only); all_goals ((try simp only [zfst_mk, zsnd_mk]); all_goals rfl)), ((by rw [hA9]; unfold fX10_set_a4; (try dsimp only); all_goals ((try simp only [zfst_mk, zsnd_mk]); all_goals rfl)))⟩
theorem k2q_fX10_set_a1 (v : Int32) (i : Int32) (x : Int64) (s0 : zSt) : zk2s (fX10_set_a1 v i x s0) = zk2 s0 := by
  unfold fX10_set_a1
  (try dsimp only)
  all_goals (simp only [zW_2, zL_2, zk2s_mk]; done)
theorem k2_fX10_set_a1 (v : Int32) (i : Int32) (x : Int64) (s0 : zSt) : zk2 (zsnd (fX10_set_a1 v i x s0)) = zk2 s0 := k2q_fX10_set_a1 v i x s0
theorem k2q_fX10_set_a2 (s0 : zSt) : zk2s (fX10_set_a2 s0) = zk2 s0 := by
  unfold fX10_set_a2
  (try dsimp only)
  all_goals (simp only [zW_2, zL_2, zk2s_mk]; done)
theorem k2_fX10_set_a2 (s0 : zSt) : zk2 (zsnd (fX10_set_a2 s0)) = zk2 s0 := k2q_fX10_set_a2 s0
theorem k2q_fX10_set_a3 (v : Int32) (i : Int32) (x : Int64) (s0 : zSt) : zk2s (fX10_set_a3 v i x s0) = zk2 s0 := by
  unfold fX10_set_a3
  (try dsimp only)
  all_goals (refine cond_keep (fun r : Int32 × zSt => zk2s r) _ ?_ ?_ <;> (simp only [zW_2, zL_2, k2_fX10_set_a1, k2_fX10_set_a2, k2q_fX10_set_a1, k2q_fX10_set_a2, zk2s_mk]; done))
theorem k2_fX10_set_a3 (v : Int32) (i : Int32) (x : Int64) (s0 : zSt) : zk2 (zsnd (fX10_set_a3 v i x s0)) = zk2 s0 := k2q_fX10_set_a3 v i x s0
theorem k2q_fX10_set_a4 (s0 : zSt) : zk2s (fX10_set_a4 s0) = zk2 s0 := by
  unfold fX10_set_a4
  (try dsimp only)
  all_goals (simp only [zW_2, zL_2, zk2s_mk]; done)
theorem k2_fX10_set_a4 (s0 : zSt) : zk2 (zsnd (fX10_set_a4 s0)) = zk2 s0 := k2q_fX10_set_a4 s0
theorem k2q_fX10_set (v : Int32) (i : Int32) (x : Int64) (s0 : zSt) : zk2s (fX10_set v i x s0) = zk2 s0 := by
  unfold fX10_set
  (try dsimp only)
  all_goals (refine cond_keep (fun r : Int32 × zSt => zk2s r) _ ?_ ?_ <;> (simp only [zW_2, zL_2, k2_fX10_set_a3, k2_fX10_set_a4, k2q_fX10_set_a3, k2q_fX10_set_a4, zk2s_mk]; done))
theorem k2_fX10_set (v : Int32) (i : Int32) (x : Int64) (s0 : zSt) : zk2 (zsnd (fX10_set v i x s0)) = zk2 s0 := k2q_fX10_set v i x s0
theorem i2_fX10_set (v : Int32) (i : Int32) (x : Int64) (s0 : zSt) (kk9 : Nat) : (zsnd (fX10_set v i x s0)).2.2 kk9 = s0.2.2 kk9 := z2_I (k2_fX10_set v i x s0) kk9
theorem i3_fX10_set (v : Int32) (i : Int32) (x : Int64) (s0 : zSt) (kk9 : Nat) : zi (zsnd (fX10_set v i x s0)) kk9 = zi s0 kk9 := zi_of (k2_fX10_set v i x s0) kk9

def fX10_word_a1 (s0 : zSt) : Int64 :=
    (0 : Int64)
def fX10_word_a2 (s0 : zSt) : Int64 :=
    (0 : Int64)
def fX10_word_a3 (v : Int32) (i : Int32) (s0 : zSt) : Int64 :=
    s0.1 0 ((4 * v.toNatClampNeg) + i.toNatClampNeg)
def fX10_word_a4 (v : Int32) (i : Int32) (s0 : zSt) : Int64 :=
    bif (vX10_in i (nI (0)) (nI (3)) s0) then
      fX10_word_a3 v i s0
    else
      fX10_word_a2 s0
def vX10_word (v : Int32) (i : Int32) (s0 : zSt) : Int64 :=
    bif (vX10_isSlot v s0) then
      fX10_word_a4 v i s0
    else
      fX10_word_a1 s0
set_option maxHeartbeats 4000000 in
set_option maxRecDepth 100000 in
theorem k_X10_word (l : Launch) (D : va_G) (kc : Nat → ClassId) (ad : Nat → Nat) (v : Int32) (i : Int32) (s0 : zSt) : zM l yX10_word cX10_word 3 (some .long) rX10_word (wM D kc ad) [.ref (zad (wM D kc ad) 17), .int v, .int i] s0 (zV1 (.long (vX10_word v i s0)) s0) := by
  refine z_of (own := RX10) (by decide +kernel) rfl (Nat.le_of_ble_eq_true rfl) ?_
  intro κ C R0
  refine j_at [(0, .ref (zad (wM D kc ad) 17)), (1, .int v), (2, .int i)] ⟨rfl, rfl, rfl, trivial⟩ ?_
  refine j_iload_n C dX10_word_0 rfl rfl ?_
  refine j_callS1 C dX10_word_1 (k_X10_isSlot l D kc ad (v) _ ) zy_X10_isSlot mw_15_3 rfl rfl (Nat.le_of_ble_eq_true rfl) ⟨rfl, rfl, Nat.le_of_ble_eq_true rfl, Nat.le_of_ble_eq_true rfl⟩ ?_
  refine j_if_eqB (tgt := 29) C dX10_word_4 (by decide) (fun q1 => ?_) (fun q1 => ?_)
  · have hA2 : vX10_word v i s0 = fX10_word_a1 s0 := by have q1z := q1; (try dsimp only at q1z); unfold vX10_word; (try dsimp only); rw [q1z, cond_false]; (try rfl)
    refine j_lconst (v := 0) C dX10_word_29 rfl ?_
    exact j_lret (st := []) C R0 dX10_word_30 ⟨(by rw [hA2]; unfold fX10_word_a1; (try dsimp only); all_goals ((try simp only [zfst_mk, zsnd_mk]); all_goals rfl)), ((by rfl))⟩
  · have hA3 : vX10_word v i s0 = fX10_word_a4 v i s0 := by have q1z := q1; (try dsimp only at q1z); unfold vX10_word; (try dsimp only); rw [q1z, cond_true]; (try rfl)
    refine j_iload_n C dX10_word_7 rfl rfl ?_
    refine j_iconst (v := nI 0) C dX10_word_8 (by decide +kernel) ?_
    refine j_iconst (v := nI 3) C dX10_word_9 (by decide +kernel) ?_
    refine j_callS1 C dX10_word_10 (k_X10_in l D kc ad (i) (nI (0)) (nI (3)) _ ) zy_X10_in mw_15_6 rfl rfl (Nat.le_of_ble_eq_true rfl) ⟨rfl, rfl, Nat.le_of_ble_eq_true rfl, Nat.le_of_ble_eq_true rfl⟩ ?_
    refine j_if_eqB (tgt := 29) C dX10_word_13 (by decide) (fun q4 => ?_) (fun q4 => ?_)
    · have hA5 : fX10_word_a4 v i s0 = fX10_word_a2 s0 := by have q4z := q4; (try dsimp only at q4z); unfold fX10_word_a4; (try dsimp only); rw [q4z, cond_false]; (try rfl)
      refine j_lconst (v := 0) C dX10_word_29 rfl ?_
      exact j_lret (st := []) C R0 dX10_word_30 ⟨(by rw [hA3, hA5]; unfold fX10_word_a2; (try dsimp only); all_goals ((try simp only [zfst_mk, zsnd_mk]); all_goals rfl)), ((by rfl))⟩
    · have hA6 : fX10_word_a4 v i s0 = fX10_word_a3 v i s0 := by have q4z := q4; (try dsimp only at q4z); unfold fX10_word_a4; (try dsimp only); rw [q4z, cond_true]; (try rfl)
      have hc7 := msl_of (x := v) (by assumption)
      have hc7b := hc7.2
      have hc8 := min_of (x := i) (b := 3) (by decide) (by assumption)
      have hc8b := hc8.2
      refine j_at [(0, .ref (zad (wM D kc ad) 17)), (1, .int (nI (v.toNatClampNeg))), (2, .int (nI (i.toNatClampNeg)))] ⟨rfl, congrArg (fun q => some (Value.int q)) hc7.1, congrArg (fun q => some (Value.int q)) hc8.1, trivial⟩ ?_
      refine j_aload_n C dX10_word_16 rfl rfl ?_
      refine j_getR C dX10_word_17 (fx_RX10_7 D kc ad) (Nat.zero_le _) (show 17 < 18 by decide) ?_
      refine j_iconst (v := nI 4) C dX10_word_20 (by decide +kernel) ?_
      refine j_iload_n C dX10_word_21 rfl rfl ?_
      refine j_imulN C dX10_word_22 ?_
      refine j_iload_n C dX10_word_23 rfl rfl ?_
      refine j_iaddN C dX10_word_24 ?_
      refine m_lald C dX10_word_25 (⟨rfl, rfl, by decide, by decide⟩ : ma 96 0) (by omega) ?_
      refine j_goto (tgt := 30) C dX10_word_26 (by decide) ?_
      exact j_lret (st := []) C R0 dX10_word_30 ⟨(by rw [hA3, hA6]; unfold fX10_word_a3; (try dsimp only); all_goals ((try simp only [zfst_mk, zsnd_mk]); all_goals rfl)), ((by rfl))⟩

def fX10_copy_a1 (s0 : zSt) : Int32 × zSt :=
    ((-101 : Int32), s0)
def fX10_copy_a2 (v : Int32) (u : Int32) (s0 : zSt) : Int32 × zSt :=
    let t8 := fX10_fromSlot 4 v.toNatClampNeg s0
    let t9 := fX10_toSlot u.toNatClampNeg 4 t8
    (nI (1), t9)
def fX10_copy_a3 (s0 : zSt) : Int32 × zSt :=
    ((-101 : Int32), s0)
def fX10_copy_a4 (v : Int32) (u : Int32) (s0 : zSt) : Int32 × zSt :=
    bif (vX10_isSlot u s0) then
      fX10_copy_a2 v u s0
    else
      fX10_copy_a3 s0
def fX10_copy (v : Int32) (u : Int32) (s0 : zSt) : Int32 × zSt :=
    bif (vX10_isSlot v s0) then
      fX10_copy_a4 v u s0
    else
      fX10_copy_a1 s0
set_option maxHeartbeats 4000000 in
set_option maxRecDepth 100000 in
theorem k_X10_copy (l : Launch) (D : va_G) (kc : Nat → ClassId) (ad : Nat → Nat) (v : Int32) (u : Int32) (s0 : zSt) : zM l yX10_copy cX10_copy 3 (some .int) rX10_copy (wM D kc ad) [.ref (zad (wM D kc ad) 17), .int v, .int u] s0 (zV1 (.int (zfst (fX10_copy v u s0))) (zsnd (fX10_copy v u s0))) := by
  refine z_of (own := RX10) (by decide +kernel) rfl (Nat.le_of_ble_eq_true rfl) ?_
  intro κ C R0
  refine j_at [(0, .ref (zad (wM D kc ad) 17)), (1, .int v), (2, .int u)] ⟨rfl, rfl, rfl, trivial⟩ ?_
  refine j_iload_n C dX10_copy_0 rfl rfl ?_
  refine j_callS1 C dX10_copy_1 (k_X10_isSlot l D kc ad (v) _ ) zy_X10_isSlot mw_15_3 rfl rfl (Nat.le_of_ble_eq_true rfl) ⟨rfl, rfl, Nat.le_of_ble_eq_true rfl, Nat.le_of_ble_eq_true rfl⟩ ?_
  refine j_if_eqB (tgt := 14) C dX10_copy_4 (by decide) (fun q1 => ?_) (fun q1 => ?_)
  · have hA2 : fX10_copy v u s0 = fX10_copy_a1 s0 := by have q1z := q1; (try dsimp only at q1z); unfold fX10_copy; (try dsimp only); rw [q1z, cond_false]; (try rfl)
    refine j_bipush (v := -101) C dX10_copy_14 (by decide +kernel) ?_
    exact j_iret (st := []) C R0 dX10_copy_16 ⟨(by rw [hA2]; unfold fX10_copy_a1; (try dsimp only); all_goals ((try simp only [zfst_mk, zsnd_mk]); all_goals rfl)), ((by rw [hA2]; unfold fX10_copy_a1; (try dsimp only); all_goals ((try simp only [zfst_mk, zsnd_mk]); all_goals rfl)))⟩
  · have hA3 : fX10_copy v u s0 = fX10_copy_a4 v u s0 := by have q1z := q1; (try dsimp only at q1z); unfold fX10_copy; (try dsimp only); rw [q1z, cond_true]; (try rfl)
    refine j_iload_n C dX10_copy_7 rfl rfl ?_
    refine j_callS1 C dX10_copy_8 (k_X10_isSlot l D kc ad (u) _ ) zy_X10_isSlot mw_15_3 rfl rfl (Nat.le_of_ble_eq_true rfl) ⟨rfl, rfl, Nat.le_of_ble_eq_true rfl, Nat.le_of_ble_eq_true rfl⟩ ?_
    refine j_if_neB (tgt := 17) C dX10_copy_11 (by decide) (fun q4 => ?_) (fun q4 => ?_)
    · have hA5 : fX10_copy_a4 v u s0 = fX10_copy_a2 v u s0 := by have q4z := q4; (try dsimp only at q4z); unfold fX10_copy_a4; (try dsimp only); rw [q4z, cond_true]; (try rfl)
      have hc6 := msl_of (x := v) (by assumption)
      have hc6b := hc6.2
      have hc7 := msl_of (x := u) (by assumption)
      have hc7b := hc7.2
      refine j_at [(0, .ref (zad (wM D kc ad) 17)), (1, .int (nI (v.toNatClampNeg))), (2, .int (nI (u.toNatClampNeg)))] ⟨rfl, congrArg (fun q => some (Value.int q)) hc6.1, congrArg (fun q => some (Value.int q)) hc7.1, trivial⟩ ?_
      refine j_aload_n C dX10_copy_17 rfl rfl ?_
      refine j_iconst (v := nI 4) C dX10_copy_18 (by decide +kernel) ?_
      refine j_iload_n C dX10_copy_19 rfl rfl ?_
      refine j_callV0 (T := TX10) (N := 23) C dX10_copy_20 (k_X10_fromSlot l D kc ad 4 (by omega) v.toNatClampNeg (by omega) _ ) zy_X10_fromSlot mw_16_9 rfl rfl (Nat.zero_le _) (show 17 < 18 by decide) rfl rfl (Nat.le_of_ble_eq_true rfl) ⟨rfl, rfl, Nat.le_of_ble_eq_true rfl, Nat.le_of_ble_eq_true rfl⟩ ?_
      refine j_nmS (fun t8 et8 => ?_)
      refine j_aload_n C dX10_copy_23 rfl rfl ?_
      refine j_iload_n C dX10_copy_24 rfl rfl ?_
      refine j_iconst (v := nI 4) C dX10_copy_25 (by decide +kernel) ?_
      refine j_callV0 (T := TX10) (N := 23) C dX10_copy_26 (k_X10_toSlot l D kc ad u.toNatClampNeg (by omega) 4 (by omega) _ ) zy_X10_toSlot mw_16_13 rfl rfl (Nat.zero_le _) (show 17 < 18 by decide) rfl rfl (Nat.le_of_ble_eq_true rfl) ⟨rfl, rfl, Nat.le_of_ble_eq_true rfl, Nat.le_of_ble_eq_true rfl⟩ ?_
      refine j_nmS (fun t9 et9 => ?_)
      refine j_iconst (v := nI 1) C dX10_copy_29 (by decide +kernel) ?_
      exact j_iret (st := []) C R0 dX10_copy_30 ⟨(by rw [hA3, hA5]; (try rw [et9]); (try rw [et8]); unfold fX10_copy_a2; (try dsimp only); all_goals ((try simp only [zfst_mk, zsnd_mk]); all_goals rfl)), ((by rw [hA3, hA5]; (try rw [et9]); (try rw [et8]); unfold fX10_copy_a2; (try dsimp only); all_goals ((try simp only [zfst_mk, zsnd_mk]); all_goals rfl)))⟩
    · have hA10 : fX10_copy_a4 v u s0 = fX10_copy_a3 s0 := by have q4z := q4; (try dsimp only at q4z); unfold fX10_copy_a4; (try dsimp only); rw [q4z, cond_false]; (try rfl)
      refine j_bipush (v := -101) C dX10_copy_14 (by decide +kernel) ?_
      exact j_iret (st := []) C R0 dX10_copy_16 ⟨(by rw [hA3, hA10]; unfold fX10_copy_a3; (try dsimp only); all_goals ((try simp only [zfst_mk, zsnd_mk]); all_goals rfl)), ((by rw [hA3, hA10]; unfold fX10_copy_a3; (try dsimp only); all_goals ((try simp only [zfst_mk, zsnd_mk]); all_goals rfl)))⟩
theorem k2q_fX10_copy_a1 (s0 : zSt) : zk2s (fX10_copy_a1 s0) = zk2 s0 := by
  unfold fX10_copy_a1
  (try dsimp only)
  all_goals (simp only [zW_2, zL_2, zk2s_mk]; done)
theorem k2_fX10_copy_a1 (s0 : zSt) : zk2 (zsnd (fX10_copy_a1 s0)) = zk2 s0 := k2q_fX10_copy_a1 s0
theorem k2q_fX10_copy_a2 (v : Int32) (u : Int32) (s0 : zSt) : zk2s (fX10_copy_a2 v u s0) = zk2 s0 := by
  unfold fX10_copy_a2
  (try dsimp only)
  all_goals (simp only [zW_2, zL_2, k2_fX10_fromSlot, k2_fX10_toSlot, zk2s_mk]; done)
theorem k2_fX10_copy_a2 (v : Int32) (u : Int32) (s0 : zSt) : zk2 (zsnd (fX10_copy_a2 v u s0)) = zk2 s0 := k2q_fX10_copy_a2 v u s0
theorem k2q_fX10_copy_a3 (s0 : zSt) : zk2s (fX10_copy_a3 s0) = zk2 s0 := by
  unfold fX10_copy_a3
  (try dsimp only)
  all_goals (simp only [zW_2, zL_2, zk2s_mk]; done)
theorem k2_fX10_copy_a3 (s0 : zSt) : zk2 (zsnd (fX10_copy_a3 s0)) = zk2 s0 := k2q_fX10_copy_a3 s0
theorem k2q_fX10_copy_a4 (v : Int32) (u : Int32) (s0 : zSt) : zk2s (fX10_copy_a4 v u s0) = zk2 s0 := by
  unfold fX10_copy_a4
  (try dsimp only)
  all_goals (refine cond_keep (fun r : Int32 × zSt => zk2s r) _ ?_ ?_ <;> (simp only [zW_2, zL_2, k2_fX10_copy_a2, k2_fX10_copy_a3, k2q_fX10_copy_a2, k2q_fX10_copy_a3, zk2s_mk]; done))
theorem k2_fX10_copy_a4 (v : Int32) (u : Int32) (s0 : zSt) : zk2 (zsnd (fX10_copy_a4 v u s0)) = zk2 s0 := k2q_fX10_copy_a4 v u s0
theorem k2q_fX10_copy (v : Int32) (u : Int32) (s0 : zSt) : zk2s (fX10_copy v u s0) = zk2 s0 := by
  unfold fX10_copy
  (try dsimp only)
  all_goals (refine cond_keep (fun r : Int32 × zSt => zk2s r) _ ?_ ?_ <;> (simp only [zW_2, zL_2, k2_fX10_copy_a1, k2_fX10_copy_a4, k2q_fX10_copy_a1, k2q_fX10_copy_a4, zk2s_mk]; done))
theorem k2_fX10_copy (v : Int32) (u : Int32) (s0 : zSt) : zk2 (zsnd (fX10_copy v u s0)) = zk2 s0 := k2q_fX10_copy v u s0
theorem i2_fX10_copy (v : Int32) (u : Int32) (s0 : zSt) (kk9 : Nat) : (zsnd (fX10_copy v u s0)).2.2 kk9 = s0.2.2 kk9 := z2_I (k2_fX10_copy v u s0) kk9
theorem i3_fX10_copy (v : Int32) (u : Int32) (s0 : zSt) (kk9 : Nat) : zi (zsnd (fX10_copy v u s0)) kk9 = zi s0 kk9 := zi_of (k2_fX10_copy v u s0) kk9

def fX10_clear  (s0 : zSt) : Int32 × zSt :=
    let x1 := s0.2.2 0
    let t2 := zI s0 0 (nI (0))
    (x1, t2)
set_option maxHeartbeats 4000000 in
set_option maxRecDepth 100000 in
theorem k_X10_clear (l : Launch) (D : va_G) (kc : Nat → ClassId) (ad : Nat → Nat)  (s0 : zSt) : zM l yX10_clear cX10_clear 2 (some .int) rX10_clear (wM D kc ad) [.ref (zad (wM D kc ad) 17)] s0 (zV1 (.int (zfst (fX10_clear  s0))) (zsnd (fX10_clear  s0))) := by
  refine z_of (own := RX10) (by decide +kernel) rfl (Nat.le_of_ble_eq_true rfl) ?_
  intro κ C R0
  refine j_at [(0, .ref (zad (wM D kc ad) 17))] ⟨rfl, trivial⟩ ?_
  refine j_aload_n C dX10_clear_0 rfl rfl ?_
  refine j_getI C dX10_clear_1 (fx_RX10_203 D kc ad) (Nat.zero_le _) (show 17 < 18 by decide) ?_
  refine j_nmI (fun x1 ex1 => ?_)
  refine j_istore_n C dX10_clear_4 rfl (by decide) ?_
  refine j_aload_n C dX10_clear_5 rfl rfl ?_
  refine j_iconst (v := nI 0) C dX10_clear_6 (by decide +kernel) ?_
  refine j_putI C dX10_clear_7 (pfx_RX10_203 D kc ad) (om_0 D kc ad) (Nat.zero_le _) (show 17 < 18 by decide) ?_
  refine j_nmS (fun t2 et2 => ?_)
  refine j_iload_n C dX10_clear_10 rfl rfl ?_
  exact j_iret (st := []) C R0 dX10_clear_11 ⟨(by (try rw [et2]); (try rw [ex1]); unfold fX10_clear; (try dsimp only); all_goals ((try simp only [zfst_mk, zsnd_mk]); all_goals rfl)), ((by (try rw [et2]); (try rw [ex1]); unfold fX10_clear; (try dsimp only); all_goals ((try simp only [zfst_mk, zsnd_mk]); all_goals rfl)))⟩

def fX10_flip_a1 (s0 : zSt) : Int32 × zSt :=
    ((-102 : Int32), s0)
def fX10_flip_a2 (v : Int32) (k : Int32) (i : Int32) (s0 : zSt) : Int32 × zSt :=
    let x11 := (8 * (k.toNatClampNeg % 2 ^ 3)) + i.toNatClampNeg
    let t12 := zW s0 0 ((4 * v.toNatClampNeg) + (k.toNatClampNeg / 2 ^ 3)) ((s0.1 0 ((4 * v.toNatClampNeg) + (k.toNatClampNeg / 2 ^ 3))) ^^^ (zsl ((1 : Int64)) x11))
    (nI (((zus (t12.1 0 ((4 * v.toNatClampNeg) + (k.toNatClampNeg / 2 ^ 3))) x11).toInt32).toBitVec.toNat % 2 ^ 1), t12)
def fX10_flip_a3 (s0 : zSt) : Int32 × zSt :=
    ((-102 : Int32), s0)
def fX10_flip_a4 (v : Int32) (k : Int32) (i : Int32) (s0 : zSt) : Int32 × zSt :=
    bif (vX10_in i (nI (0)) (nI (7)) s0) then
      fX10_flip_a2 v k i s0
    else
      fX10_flip_a3 s0
def fX10_flip_a5 (v : Int32) (k : Int32) (i : Int32) (s0 : zSt) : Int32 × zSt :=
    bif (vX10_in k (nI (0)) (nI (31)) s0) then
      fX10_flip_a4 v k i s0
    else
      fX10_flip_a1 s0
def fX10_flip_a6 (s0 : zSt) : Int32 × zSt :=
    ((-101 : Int32), s0)
def fX10_flip (v : Int32) (k : Int32) (i : Int32) (s0 : zSt) : Int32 × zSt :=
    bif (vX10_isSlot v s0) then
      fX10_flip_a5 v k i s0
    else
      fX10_flip_a6 s0
set_option maxHeartbeats 4000000 in
set_option maxRecDepth 100000 in
theorem k_X10_flip (l : Launch) (D : va_G) (kc : Nat → ClassId) (ad : Nat → Nat) (v : Int32) (k : Int32) (i : Int32) (s0 : zSt) : zM l yX10_flip cX10_flip 5 (some .int) rX10_flip (wM D kc ad) [.ref (zad (wM D kc ad) 17), .int v, .int k, .int i] s0 (zV1 (.int (zfst (fX10_flip v k i s0))) (zsnd (fX10_flip v k i s0))) := by
  refine z_of (own := RX10) (by decide +kernel) rfl (Nat.le_of_ble_eq_true rfl) ?_
  intro κ C R0
  refine j_at [(0, .ref (zad (wM D kc ad) 17)), (1, .int v), (2, .int k), (3, .int i)] ⟨rfl, rfl, rfl, rfl, trivial⟩ ?_
  refine j_iload_n C dX10_flip_0 rfl rfl ?_
  refine j_callS1 C dX10_flip_1 (k_X10_isSlot l D kc ad (v) _ ) zy_X10_isSlot mw_15_3 rfl rfl (Nat.le_of_ble_eq_true rfl) ⟨rfl, rfl, Nat.le_of_ble_eq_true rfl, Nat.le_of_ble_eq_true rfl⟩ ?_
  refine j_if_neB (tgt := 10) C dX10_flip_4 (by decide) (fun q1 => ?_) (fun q1 => ?_)
  · have hA2 : fX10_flip v k i s0 = fX10_flip_a5 v k i s0 := by have q1z := q1; (try dsimp only at q1z); unfold fX10_flip; (try dsimp only); rw [q1z, cond_true]; (try rfl)
    have hc3 := msl_of (x := v) (by assumption)
    have hc3b := hc3.2
    refine j_at [(0, .ref (zad (wM D kc ad) 17)), (1, .int (nI (v.toNatClampNeg))), (2, .int k), (3, .int i)] ⟨rfl, congrArg (fun q => some (Value.int q)) hc3.1, rfl, rfl, trivial⟩ ?_
    refine j_iload_n C dX10_flip_10 rfl rfl ?_
    refine j_iconst (v := nI 0) C dX10_flip_11 (by decide +kernel) ?_
    refine j_bipush (v := nI 31) C dX10_flip_12 (by decide +kernel) ?_
    refine j_callS1 C dX10_flip_14 (k_X10_in l D kc ad (k) (nI (0)) (nI (31)) _ ) zy_X10_in mw_15_6 rfl rfl (Nat.le_of_ble_eq_true rfl) ⟨rfl, rfl, Nat.le_of_ble_eq_true rfl, Nat.le_of_ble_eq_true rfl⟩ ?_
    refine j_if_eqB (tgt := 30) C dX10_flip_17 (by decide) (fun q4 => ?_) (fun q4 => ?_)
    · have hA5 : fX10_flip_a5 v k i s0 = fX10_flip_a1 s0 := by have q4z := q4; (try dsimp only at q4z); unfold fX10_flip_a5; (try dsimp only); rw [q4z, cond_false]; (try rfl)
      refine j_bipush (v := -102) C dX10_flip_30 (by decide +kernel) ?_
      exact j_iret (st := []) C R0 dX10_flip_32 ⟨(by rw [hA2, hA5]; unfold fX10_flip_a1; (try dsimp only); all_goals ((try simp only [zfst_mk, zsnd_mk]); all_goals rfl)), ((by rw [hA2, hA5]; unfold fX10_flip_a1; (try dsimp only); all_goals ((try simp only [zfst_mk, zsnd_mk]); all_goals rfl)))⟩
    · have hA6 : fX10_flip_a5 v k i s0 = fX10_flip_a4 v k i s0 := by have q4z := q4; (try dsimp only at q4z); unfold fX10_flip_a5; (try dsimp only); rw [q4z, cond_true]; (try rfl)
      refine j_iload_n C dX10_flip_20 rfl rfl ?_
      refine j_iconst (v := nI 0) C dX10_flip_21 (by decide +kernel) ?_
      refine j_bipush (v := nI 7) C dX10_flip_22 (by decide +kernel) ?_
      refine j_callS1 C dX10_flip_24 (k_X10_in l D kc ad (i) (nI (0)) (nI (7)) _ ) zy_X10_in mw_15_6 rfl rfl (Nat.le_of_ble_eq_true rfl) ⟨rfl, rfl, Nat.le_of_ble_eq_true rfl, Nat.le_of_ble_eq_true rfl⟩ ?_
      refine j_if_neB (tgt := 33) C dX10_flip_27 (by decide) (fun q7 => ?_) (fun q7 => ?_)
      · have hA8 : fX10_flip_a4 v k i s0 = fX10_flip_a2 v k i s0 := by have q7z := q7; (try dsimp only at q7z); unfold fX10_flip_a4; (try dsimp only); rw [q7z, cond_true]; (try rfl)
        have hc9 := min_of (x := k) (b := 31) (by decide) (by assumption)
        have hc9b := hc9.2
        have hc10 := min_of (x := i) (b := 7) (by decide) (by assumption)
        have hc10b := hc10.2
        refine j_at [(0, .ref (zad (wM D kc ad) 17)), (1, .int (nI (v.toNatClampNeg))), (2, .int (nI (k.toNatClampNeg))), (3, .int (nI (i.toNatClampNeg)))] ⟨rfl, rfl, congrArg (fun q => some (Value.int q)) hc9.1, congrArg (fun q => some (Value.int q)) hc10.1, trivial⟩ ?_
        refine j_bipush (v := nI 8) C dX10_flip_33 (by decide +kernel) ?_
        refine j_iload_n C dX10_flip_35 rfl rfl ?_
        refine j_bipush (v := nI 7) C dX10_flip_36 (by decide +kernel) ?_
        refine j_iandN C 3 dX10_flip_38 (by omega) (by decide +kernel) ?_
        refine j_imulN C dX10_flip_39 ?_
        refine j_iload_n C dX10_flip_40 rfl rfl ?_
        refine j_iaddN C dX10_flip_41 ?_
        refine j_nmN (fun x11 ex11 => ?_)
        refine j_istore C dX10_flip_42 (by decide) ?_
        refine j_aload_n C dX10_flip_44 rfl rfl ?_
        refine j_getR C dX10_flip_45 (fx_RX10_7 D kc ad) (Nat.zero_le _) (show 17 < 18 by decide) ?_
        refine j_iconst (v := nI 4) C dX10_flip_48 (by decide +kernel) ?_
        refine j_iload_n C dX10_flip_49 rfl rfl ?_
        refine j_imulN C dX10_flip_50 ?_
        refine j_iload_n C dX10_flip_51 rfl rfl ?_
        refine j_iconst (v := nI 3) C dX10_flip_52 (by decide +kernel) ?_
        refine j_ishrN C dX10_flip_53 (by omega) (by decide +kernel) ?_
        refine j_iaddN C dX10_flip_54 ?_
        refine j_dup2 C dX10_flip_55 rfl rfl ?_
        refine m_lald C dX10_flip_56 (⟨rfl, rfl, by decide, by decide⟩ : ma 96 0) (by omega) ?_
        refine j_lconst (v := 1) C dX10_flip_57 rfl ?_
        refine j_iload C dX10_flip_58 rfl ?_
        refine j_lshl C dX10_flip_60 (by omega) ?_
        refine j_lxor C dX10_flip_61 ?_
        refine m_last C dX10_flip_62 (⟨rfl, rfl, by decide, by decide⟩ : ma 96 0) (by omega) ?_
        refine j_nmS (fun t12 et12 => ?_)
        refine j_aload_n C dX10_flip_63 rfl rfl ?_
        refine j_getR C dX10_flip_64 (fx_RX10_7 D kc ad) (Nat.zero_le _) (show 17 < 18 by decide) ?_
        refine j_iconst (v := nI 4) C dX10_flip_67 (by decide +kernel) ?_
        refine j_iload_n C dX10_flip_68 rfl rfl ?_
        refine j_imulN C dX10_flip_69 ?_
        refine j_iload_n C dX10_flip_70 rfl rfl ?_
        refine j_iconst (v := nI 3) C dX10_flip_71 (by decide +kernel) ?_
        refine j_ishrN C dX10_flip_72 (by omega) (by decide +kernel) ?_
        refine j_iaddN C dX10_flip_73 ?_
        refine m_lald C dX10_flip_74 (⟨rfl, rfl, by decide, by decide⟩ : ma 96 0) (by omega) ?_
        refine j_iload C dX10_flip_75 rfl ?_
        refine j_lushr C dX10_flip_77 (by omega) ?_
        refine j_l2i C dX10_flip_78 ?_
        refine j_iconst (v := nI 1) C dX10_flip_79 (by decide +kernel) ?_
        refine j_iand C dX10_flip_80 ?_
        refine j_top (v := .int (nI (((zus (t12.1 0 ((4 * v.toNatClampNeg) + (k.toNatClampNeg / 2 ^ 3))) x11).toInt32).toBitVec.toNat % 2 ^ 1))) (congrArg Value.int (pk_and _ 1 (by decide +kernel))) ?_
        exact j_iret (st := []) C R0 dX10_flip_81 ⟨(by rw [hA2, hA6, hA8]; (try rw [et12]); (try rw [ex11]); unfold fX10_flip_a2; (try dsimp only); all_goals ((try simp only [zfst_mk, zsnd_mk]); all_goals rfl)), ((by rw [hA2, hA6, hA8]; (try rw [et12]); (try rw [ex11]); unfold fX10_flip_a2; (try dsimp only); all_goals ((try simp only [zfst_mk, zsnd_mk]); all_goals rfl)))⟩
      · have hA13 : fX10_flip_a4 v k i s0 = fX10_flip_a3 s0 := by have q7z := q7; (try dsimp only at q7z); unfold fX10_flip_a4; (try dsimp only); rw [q7z, cond_false]; (try rfl)
        refine j_bipush (v := -102) C dX10_flip_30 (by decide +kernel) ?_
        exact j_iret (st := []) C R0 dX10_flip_32 ⟨(by rw [hA2, hA6, hA13]; unfold fX10_flip_a3; (try dsimp only); all_goals ((try simp only [zfst_mk, zsnd_mk]); all_goals rfl)), ((by rw [hA2, hA6, hA13]; unfold fX10_flip_a3; (try dsimp only); all_goals ((try simp only [zfst_mk, zsnd_mk]); all_goals rfl)))⟩
  · have hA14 : fX10_flip v k i s0 = fX10_flip_a6 s0 := by have q1z := q1; (try dsimp only at q1z); unfold fX10_flip; (try dsimp only); rw [q1z, cond_false]; (try rfl)
    refine j_bipush (v := -101) C dX10_flip_7 (by decide +kernel) ?_
    exact j_iret (st := []) C R0 dX10_flip_9 ⟨(by rw [hA14]; unfold fX10_flip_a6; (try dsimp only); all_goals ((try simp only [zfst_mk, zsnd_mk]); all_goals rfl)), ((by rw [hA14]; unfold fX10_flip_a6; (try dsimp only); all_goals ((try simp only [zfst_mk, zsnd_mk]); all_goals rfl)))⟩
theorem k2q_fX10_flip_a1 (s0 : zSt) : zk2s (fX10_flip_a1 s0) = zk2 s0 := by
  unfold fX10_flip_a1
  (try dsimp only)
  all_goals (simp only [zW_2, zL_2, zk2s_mk]; done)
theorem k2_fX10_flip_a1 (s0 : zSt) : zk2 (zsnd (fX10_flip_a1 s0)) = zk2 s0 := k2q_fX10_flip_a1 s0
theorem k2q_fX10_flip_a2 (v : Int32) (k : Int32) (i : Int32) (s0 : zSt) : zk2s (fX10_flip_a2 v k i s0) = zk2 s0 := by
  unfold fX10_flip_a2
  (try dsimp only)
  all_goals (simp only [zW_2, zL_2, zk2s_mk]; done)
theorem k2_fX10_flip_a2 (v : Int32) (k : Int32) (i : Int32) (s0 : zSt) : zk2 (zsnd (fX10_flip_a2 v k i s0)) = zk2 s0 := k2q_fX10_flip_a2 v k i s0
theorem k2q_fX10_flip_a3 (s0 : zSt) : zk2s (fX10_flip_a3 s0) = zk2 s0 := by
  unfold fX10_flip_a3
  (try dsimp only)
  all_goals (simp only [zW_2, zL_2, zk2s_mk]; done)
theorem k2_fX10_flip_a3 (s0 : zSt) : zk2 (zsnd (fX10_flip_a3 s0)) = zk2 s0 := k2q_fX10_flip_a3 s0
theorem k2q_fX10_flip_a4 (v : Int32) (k : Int32) (i : Int32) (s0 : zSt) : zk2s (fX10_flip_a4 v k i s0) = zk2 s0 := by
  unfold fX10_flip_a4
  (try dsimp only)
  all_goals (refine cond_keep (fun r : Int32 × zSt => zk2s r) _ ?_ ?_ <;> (simp only [zW_2, zL_2, k2_fX10_flip_a2, k2_fX10_flip_a3, k2q_fX10_flip_a2, k2q_fX10_flip_a3, zk2s_mk]; done))
theorem k2_fX10_flip_a4 (v : Int32) (k : Int32) (i : Int32) (s0 : zSt) : zk2 (zsnd (fX10_flip_a4 v k i s0)) = zk2 s0 := k2q_fX10_flip_a4 v k i s0
theorem k2q_fX10_flip_a5 (v : Int32) (k : Int32) (i : Int32) (s0 : zSt) : zk2s (fX10_flip_a5 v k i s0) = zk2 s0 := by
  unfold fX10_flip_a5
  (try dsimp only)
  all_goals (refine cond_keep (fun r : Int32 × zSt => zk2s r) _ ?_ ?_ <;> (simp only [zW_2, zL_2, k2_fX10_flip_a1, k2_fX10_flip_a4, k2q_fX10_flip_a1, k2q_fX10_flip_a4, zk2s_mk]; done))
theorem k2_fX10_flip_a5 (v : Int32) (k : Int32) (i : Int32) (s0 : zSt) : zk2 (zsnd (fX10_flip_a5 v k i s0)) = zk2 s0 := k2q_fX10_flip_a5 v k i s0
theorem k2q_fX10_flip_a6 (s0 : zSt) : zk2s (fX10_flip_a6 s0) = zk2 s0 := by
  unfold fX10_flip_a6
  (try dsimp only)
  all_goals (simp only [zW_2, zL_2, zk2s_mk]; done)
theorem k2_fX10_flip_a6 (s0 : zSt) : zk2 (zsnd (fX10_flip_a6 s0)) = zk2 s0 := k2q_fX10_flip_a6 s0
theorem k2q_fX10_flip (v : Int32) (k : Int32) (i : Int32) (s0 : zSt) : zk2s (fX10_flip v k i s0) = zk2 s0 := by
  unfold fX10_flip
  (try dsimp only)
  all_goals (refine cond_keep (fun r : Int32 × zSt => zk2s r) _ ?_ ?_ <;> (simp only [zW_2, zL_2, k2_fX10_flip_a5, k2_fX10_flip_a6, k2q_fX10_flip_a5, k2q_fX10_flip_a6, zk2s_mk]; done))
theorem k2_fX10_flip (v : Int32) (k : Int32) (i : Int32) (s0 : zSt) : zk2 (zsnd (fX10_flip v k i s0)) = zk2 s0 := k2q_fX10_flip v k i s0
theorem i2_fX10_flip (v : Int32) (k : Int32) (i : Int32) (s0 : zSt) (kk9 : Nat) : (zsnd (fX10_flip v k i s0)).2.2 kk9 = s0.2.2 kk9 := z2_I (k2_fX10_flip v k i s0) kk9
theorem i3_fX10_flip (v : Int32) (k : Int32) (i : Int32) (s0 : zSt) (kk9 : Nat) : zi (zsnd (fX10_flip v k i s0)) kk9 = zi s0 kk9 := zi_of (k2_fX10_flip v k i s0) kk9

def fX10_field_a1 (s0 : zSt) : Int32 × zSt :=
    ((-101 : Int32), s0)
def fX10_field_a2 (s0 : zSt) : Int32 × zSt :=
    ((-101 : Int32), s0)
def fX10_field_a3 (u : Int32) (t16 : zSt) : Int32 × zSt :=
    let t25 := fX10_invert 37 36 t16
    let t26 := fX10_multiply 38 40 37 t25
    let t27 := fX10_store u.toNatClampNeg 38 t26
    (nI (1), t27)
def fX10_field_a4 (u : Int32) (t16 : zSt) : Int32 × zSt :=
    let t29 := fX10_multiply 38 40 36 t16
    let t30 := fX10_store u.toNatClampNeg 38 t29
    (nI (1), t30)
def fX10_field_a5 (way : Int32) (u : Int32) (t16 : zSt) : Int32 × zSt :=
    if way.toNatClampNeg ≠ 2 then
      fX10_field_a3 u t16
    else
      fX10_field_a4 u t16
def fX10_field_a6 (u : Int32) (t16 : zSt) : Int32 × zSt :=
    let t32 := fX10_subtract 38 40 36 t16
    let t33 := fX10_store u.toNatClampNeg 38 t32
    (nI (1), t33)
def fX10_field_a7 (way : Int32) (u : Int32) (t16 : zSt) : Int32 × zSt :=
    if way.toNatClampNeg ≠ 1 then
      fX10_field_a5 way u t16
    else
      fX10_field_a6 u t16
def fX10_field_a8 (u : Int32) (t16 : zSt) : Int32 × zSt :=
    let t35 := fX10_add 38 40 36 t16
    let t36 := fX10_store u.toNatClampNeg 38 t35
    (nI (1), t36)
def fX10_field_a9 (way : Int32) (u : Int32) (t16 : zSt) : Int32 × zSt :=
    if ¬ nI (way.toNatClampNeg) = 0 then
      fX10_field_a7 way u t16
    else
      fX10_field_a8 u t16
def fX10_field_a10 (u : Int32) (t38 : zSt) : Int32 × zSt :=
    let t47 := fX10_invert 37 36 t38
    let t48 := fX10_multiply 38 40 37 t47
    let t49 := fX10_store u.toNatClampNeg 38 t48
    (nI (1), t49)
def fX10_field_a11 (u : Int32) (t38 : zSt) : Int32 × zSt :=
    let t51 := fX10_multiply 38 40 36 t38
    let t52 := fX10_store u.toNatClampNeg 38 t51
    (nI (1), t52)
def fX10_field_a12 (way : Int32) (u : Int32) (t38 : zSt) : Int32 × zSt :=
    if way.toNatClampNeg ≠ 2 then
      fX10_field_a10 u t38
    else
      fX10_field_a11 u t38
def fX10_field_a13 (u : Int32) (t38 : zSt) : Int32 × zSt :=
    let t54 := fX10_subtract 38 40 36 t38
    let t55 := fX10_store u.toNatClampNeg 38 t54
    (nI (1), t55)
def fX10_field_a14 (way : Int32) (u : Int32) (t38 : zSt) : Int32 × zSt :=
    if way.toNatClampNeg ≠ 1 then
      fX10_field_a12 way u t38
    else
      fX10_field_a13 u t38
def fX10_field_a15 (u : Int32) (t38 : zSt) : Int32 × zSt :=
    let t57 := fX10_add 38 40 36 t38
    let t58 := fX10_store u.toNatClampNeg 38 t57
    (nI (1), t58)
def fX10_field_a16 (way : Int32) (u : Int32) (t38 : zSt) : Int32 × zSt :=
    if ¬ nI (way.toNatClampNeg) = 0 then
      fX10_field_a14 way u t38
    else
      fX10_field_a15 u t38
def fX10_field_a17 (t38 : zSt) : Int32 × zSt :=
    ((-103 : Int32), t38)
def fX10_field_a18 (way : Int32) (u : Int32) (t16 : zSt) : Int32 × zSt :=
    let t38 := zsnd (fX10_isSame 36 0 t16)
    bif (zfst (fX10_isSame 36 0 t16)) then
      fX10_field_a17 t38
    else
      fX10_field_a16 way u t38
def fX10_field_a19 (way : Int32) (a : Int32) (b : Int32) (u : Int32) (s0 : zSt) : Int32 × zSt :=
    let t15 := fX10_load 40 a.toNatClampNeg s0
    let t16 := fX10_load 36 b.toNatClampNeg t15
    if way.toNatClampNeg ≠ 3 then
      fX10_field_a9 way u t16
    else
      fX10_field_a18 way u t16
def fX10_field_a20 (s0 : zSt) : Int32 × zSt :=
    ((-102 : Int32), s0)
def fX10_field_a21 (way : Int32) (a : Int32) (b : Int32) (u : Int32) (s0 : zSt) : Int32 × zSt :=
    bif (vX10_in way (nI (0)) (nI (3)) s0) then
      fX10_field_a19 way a b u s0
    else
      fX10_field_a20 s0
def fX10_field_a22 (s0 : zSt) : Int32 × zSt :=
    ((-101 : Int32), s0)
def fX10_field_a23 (way : Int32) (a : Int32) (b : Int32) (u : Int32) (s0 : zSt) : Int32 × zSt :=
    bif (vX10_isSlot u s0) then
      fX10_field_a21 way a b u s0
    else
      fX10_field_a22 s0
def fX10_field_a24 (way : Int32) (a : Int32) (b : Int32) (u : Int32) (s0 : zSt) : Int32 × zSt :=
    bif (vX10_isSlot b s0) then
      fX10_field_a23 way a b u s0
    else
      fX10_field_a2 s0
def fX10_field (way : Int32) (a : Int32) (b : Int32) (u : Int32) (s0 : zSt) : Int32 × zSt :=
    bif (vX10_isSlot a s0) then
      fX10_field_a24 way a b u s0
    else
      fX10_field_a1 s0
set_option maxHeartbeats 4000000 in
set_option maxRecDepth 100000 in
theorem k_X10_field (l : Launch) (D : va_G) (kc : Nat → ClassId) (ad : Nat → Nat) (way : Int32) (a : Int32) (b : Int32) (u : Int32) (s0 : zSt) : zM l yX10_field cX10_field 5 (some .int) rX10_field (wM D kc ad) [.ref (zad (wM D kc ad) 17), .int way, .int a, .int b, .int u] s0 (zV1 (.int (zfst (fX10_field way a b u s0))) (zsnd (fX10_field way a b u s0))) := by
  refine z_of (own := RX10) (by decide +kernel) rfl (Nat.le_of_ble_eq_true rfl) ?_
  intro κ C R0
  refine j_at [(0, .ref (zad (wM D kc ad) 17)), (1, .int way), (2, .int a), (3, .int b), (4, .int u)] ⟨rfl, rfl, rfl, rfl, rfl, trivial⟩ ?_
  refine j_iload_n C dX10_field_0 rfl rfl ?_
  refine j_callS1 C dX10_field_1 (k_X10_isSlot l D kc ad (a) _ ) zy_X10_isSlot mw_15_3 rfl rfl (Nat.le_of_ble_eq_true rfl) ⟨rfl, rfl, Nat.le_of_ble_eq_true rfl, Nat.le_of_ble_eq_true rfl⟩ ?_
  refine j_if_eqB (tgt := 22) C dX10_field_4 (by decide) (fun q1 => ?_) (fun q1 => ?_)
  · have hA2 : fX10_field way a b u s0 = fX10_field_a1 s0 := by have q1z := q1; (try dsimp only at q1z); unfold fX10_field; (try dsimp only); rw [q1z, cond_false]; (try rfl)
    refine j_bipush (v := -101) C dX10_field_22 (by decide +kernel) ?_
    exact j_iret (st := []) C R0 dX10_field_24 ⟨(by rw [hA2]; unfold fX10_field_a1; (try dsimp only); all_goals ((try simp only [zfst_mk, zsnd_mk]); all_goals rfl)), ((by rw [hA2]; unfold fX10_field_a1; (try dsimp only); all_goals ((try simp only [zfst_mk, zsnd_mk]); all_goals rfl)))⟩
  · have hA3 : fX10_field way a b u s0 = fX10_field_a24 way a b u s0 := by have q1z := q1; (try dsimp only at q1z); unfold fX10_field; (try dsimp only); rw [q1z, cond_true]; (try rfl)
    refine j_iload_n C dX10_field_7 rfl rfl ?_
    refine j_callS1 C dX10_field_8 (k_X10_isSlot l D kc ad (b) _ ) zy_X10_isSlot mw_15_3 rfl rfl (Nat.le_of_ble_eq_true rfl) ⟨rfl, rfl, Nat.le_of_ble_eq_true rfl, Nat.le_of_ble_eq_true rfl⟩ ?_
    refine j_if_eqB (tgt := 22) C dX10_field_11 (by decide) (fun q4 => ?_) (fun q4 => ?_)
    · have hA5 : fX10_field_a24 way a b u s0 = fX10_field_a2 s0 := by have q4z := q4; (try dsimp only at q4z); unfold fX10_field_a24; (try dsimp only); rw [q4z, cond_false]; (try rfl)
      refine j_bipush (v := -101) C dX10_field_22 (by decide +kernel) ?_
      exact j_iret (st := []) C R0 dX10_field_24 ⟨(by rw [hA3, hA5]; unfold fX10_field_a2; (try dsimp only); all_goals ((try simp only [zfst_mk, zsnd_mk]); all_goals rfl)), ((by rw [hA3, hA5]; unfold fX10_field_a2; (try dsimp only); all_goals ((try simp only [zfst_mk, zsnd_mk]); all_goals rfl)))⟩
    · have hA6 : fX10_field_a24 way a b u s0 = fX10_field_a23 way a b u s0 := by have q4z := q4; (try dsimp only at q4z); unfold fX10_field_a24; (try dsimp only); rw [q4z, cond_true]; (try rfl)
      refine j_iload C dX10_field_14 rfl ?_
      refine j_callS1 C dX10_field_16 (k_X10_isSlot l D kc ad (u) _ ) zy_X10_isSlot mw_15_3 rfl rfl (Nat.le_of_ble_eq_true rfl) ⟨rfl, rfl, Nat.le_of_ble_eq_true rfl, Nat.le_of_ble_eq_true rfl⟩ ?_
      refine j_if_neB (tgt := 25) C dX10_field_19 (by decide) (fun q7 => ?_) (fun q7 => ?_)
      · have hA8 : fX10_field_a23 way a b u s0 = fX10_field_a21 way a b u s0 := by have q7z := q7; (try dsimp only at q7z); unfold fX10_field_a23; (try dsimp only); rw [q7z, cond_true]; (try rfl)
        refine j_iload_n C dX10_field_25 rfl rfl ?_
        refine j_iconst (v := nI 0) C dX10_field_26 (by decide +kernel) ?_
        refine j_iconst (v := nI 3) C dX10_field_27 (by decide +kernel) ?_
        refine j_callS1 C dX10_field_28 (k_X10_in l D kc ad (way) (nI (0)) (nI (3)) _ ) zy_X10_in mw_15_6 rfl rfl (Nat.le_of_ble_eq_true rfl) ⟨rfl, rfl, Nat.le_of_ble_eq_true rfl, Nat.le_of_ble_eq_true rfl⟩ ?_
        refine j_if_neB (tgt := 37) C dX10_field_31 (by decide) (fun q9 => ?_) (fun q9 => ?_)
        · have hA10 : fX10_field_a21 way a b u s0 = fX10_field_a19 way a b u s0 := by have q9z := q9; (try dsimp only at q9z); unfold fX10_field_a21; (try dsimp only); rw [q9z, cond_true]; (try rfl)
          have hc11 := min_of (x := way) (b := 3) (by decide) (by assumption)
          have hc11b := hc11.2
          have hc12 := msl_of (x := a) (by assumption)
          have hc12b := hc12.2
          have hc13 := msl_of (x := b) (by assumption)
          have hc13b := hc13.2
          have hc14 := msl_of (x := u) (by assumption)
          have hc14b := hc14.2
          refine j_at [(0, .ref (zad (wM D kc ad) 17)), (1, .int (nI (way.toNatClampNeg))), (2, .int (nI (a.toNatClampNeg))), (3, .int (nI (b.toNatClampNeg))), (4, .int (nI (u.toNatClampNeg)))] ⟨rfl, congrArg (fun q => some (Value.int q)) hc11.1, congrArg (fun q => some (Value.int q)) hc12.1, congrArg (fun q => some (Value.int q)) hc13.1, congrArg (fun q => some (Value.int q)) hc14.1, trivial⟩ ?_
          refine j_aload_n C dX10_field_37 rfl rfl ?_
          refine j_bipush (v := nI 40) C dX10_field_38 (by decide +kernel) ?_
          refine j_iload_n C dX10_field_40 rfl rfl ?_
          refine j_callV0 (T := TX10) (N := 23) C dX10_field_41 (k_X10_load l D kc ad 40 (by omega) a.toNatClampNeg (by omega) _ ) zy_X10_load mw_21_0 rfl rfl (Nat.zero_le _) (show 17 < 18 by decide) rfl rfl (Nat.le_of_ble_eq_true rfl) ⟨rfl, rfl, Nat.le_of_ble_eq_true rfl, Nat.le_of_ble_eq_true rfl⟩ ?_
          refine j_nmS (fun t15 et15 => ?_)
          refine j_aload_n C dX10_field_44 rfl rfl ?_
          refine j_bipush (v := nI 36) C dX10_field_45 (by decide +kernel) ?_
          refine j_iload_n C dX10_field_47 rfl rfl ?_
          refine j_callV0 (T := TX10) (N := 23) C dX10_field_48 (k_X10_load l D kc ad 36 (by omega) b.toNatClampNeg (by omega) _ ) zy_X10_load mw_21_0 rfl rfl (Nat.zero_le _) (show 17 < 18 by decide) rfl rfl (Nat.le_of_ble_eq_true rfl) ⟨rfl, rfl, Nat.le_of_ble_eq_true rfl, Nat.le_of_ble_eq_true rfl⟩ ?_
          refine j_nmS (fun t16 et16 => ?_)
          refine j_iload_n C dX10_field_51 rfl rfl ?_
          refine j_iconst (v := nI 3) C dX10_field_52 (by decide +kernel) ?_
          refine j_icmp_neN (tgt := 69) C dX10_field_53 (by decide) (by omega) (by omega) (fun q17 => ?_) (fun q17 => ?_)
          · have hA18 : fX10_field_a19 way a b u s0 = fX10_field_a9 way u t16 := by (try rw [et16]); (try rw [et15]); have q17z := q17; (try rw [et16] at q17z); (try rw [et15] at q17z); (try dsimp only at q17z); unfold fX10_field_a19; (try dsimp only); rw [if_pos q17z]; (try rfl)
            refine j_iload_n C dX10_field_69 rfl rfl ?_
            refine j_if_ne (tgt := 86) C dX10_field_70 (by decide) (fun q19 => ?_) (fun q19 => ?_)
            · have hA20 : fX10_field_a9 way u t16 = fX10_field_a7 way u t16 := by have q19z := q19; (try dsimp only at q19z); unfold fX10_field_a9; (try dsimp only); rw [if_pos q19z]; (try rfl)
              refine j_iload_n C dX10_field_86 rfl rfl ?_
              refine j_iconst (v := nI 1) C dX10_field_87 (by decide +kernel) ?_
              refine j_icmp_neN (tgt := 104) C dX10_field_88 (by decide) (by omega) (by omega) (fun q21 => ?_) (fun q21 => ?_)
              · have hA22 : fX10_field_a7 way u t16 = fX10_field_a5 way u t16 := by have q21z := q21; (try dsimp only at q21z); unfold fX10_field_a7; (try dsimp only); rw [if_pos q21z]; (try rfl)
                refine j_iload_n C dX10_field_104 rfl rfl ?_
                refine j_iconst (v := nI 2) C dX10_field_105 (by decide +kernel) ?_
                refine j_icmp_neN (tgt := 122) C dX10_field_106 (by decide) (by omega) (by omega) (fun q23 => ?_) (fun q23 => ?_)
                · have hA24 : fX10_field_a5 way u t16 = fX10_field_a3 u t16 := by have q23z := q23; (try dsimp only at q23z); unfold fX10_field_a5; (try dsimp only); rw [if_pos q23z]; (try rfl)
                  refine j_aload_n C dX10_field_122 rfl rfl ?_
                  refine j_bipush (v := nI 37) C dX10_field_123 (by decide +kernel) ?_
                  refine j_bipush (v := nI 36) C dX10_field_125 (by decide +kernel) ?_
                  refine j_callV0 (T := TX10) (N := 23) C dX10_field_127 (k_X10_invert l D kc ad 37 (by omega) 36 (by omega) _ ) zy_X10_invert mw_11_21 rfl rfl (Nat.zero_le _) (show 17 < 18 by decide) rfl rfl (Nat.le_of_ble_eq_true rfl) ⟨rfl, rfl, Nat.le_of_ble_eq_true rfl, Nat.le_of_ble_eq_true rfl⟩ ?_
                  refine j_nmS (fun t25 et25 => ?_)
                  refine j_aload_n C dX10_field_130 rfl rfl ?_
                  refine j_bipush (v := nI 38) C dX10_field_131 (by decide +kernel) ?_
                  refine j_bipush (v := nI 40) C dX10_field_133 (by decide +kernel) ?_
                  refine j_bipush (v := nI 37) C dX10_field_135 (by decide +kernel) ?_
                  refine j_callV0 (T := TX10) (N := 23) C dX10_field_137 (k_X10_multiply l D kc ad 38 (by omega) 40 (by omega) 37 (by omega) _ ) zy_X10_multiply mw_11_4 rfl rfl (Nat.zero_le _) (show 17 < 18 by decide) rfl rfl (Nat.le_of_ble_eq_true rfl) ⟨rfl, rfl, Nat.le_of_ble_eq_true rfl, Nat.le_of_ble_eq_true rfl⟩ ?_
                  refine j_nmS (fun t26 et26 => ?_)
                  refine j_aload_n C dX10_field_140 rfl rfl ?_
                  refine j_iload C dX10_field_141 rfl ?_
                  refine j_bipush (v := nI 38) C dX10_field_143 (by decide +kernel) ?_
                  refine j_callV0 (T := TX10) (N := 23) C dX10_field_145 (k_X10_store l D kc ad u.toNatClampNeg (by omega) 38 (by omega) _ ) zy_X10_store mw_21_4 rfl rfl (Nat.zero_le _) (show 17 < 18 by decide) rfl rfl (Nat.le_of_ble_eq_true rfl) ⟨rfl, rfl, Nat.le_of_ble_eq_true rfl, Nat.le_of_ble_eq_true rfl⟩ ?_
                  refine j_nmS (fun t27 et27 => ?_)
                  refine j_iconst (v := nI 1) C dX10_field_148 (by decide +kernel) ?_
                  exact j_iret (st := []) C R0 dX10_field_149 ⟨(by rw [hA3, hA6, hA8, hA10, hA18, hA20, hA22, hA24]; (try rw [et27]); (try rw [et26]); (try rw [et25]); unfold fX10_field_a3; (try dsimp only); all_goals ((try simp only [zfst_mk, zsnd_mk]); all_goals rfl)), ((by rw [hA3, hA6, hA8, hA10, hA18, hA20, hA22, hA24]; (try rw [et27]); (try rw [et26]); (try rw [et25]); unfold fX10_field_a3; (try dsimp only); all_goals ((try simp only [zfst_mk, zsnd_mk]); all_goals rfl)))⟩
                · have hA28 : fX10_field_a5 way u t16 = fX10_field_a4 u t16 := by have q23z : ¬ (way.toNatClampNeg ≠ 2) := (by omega); (try dsimp only at q23z); unfold fX10_field_a5; (try dsimp only); rw [if_neg q23z]; (try rfl)
                  refine j_aload_n C dX10_field_109 rfl rfl ?_
                  refine j_bipush (v := nI 38) C dX10_field_110 (by decide +kernel) ?_
                  refine j_bipush (v := nI 40) C dX10_field_112 (by decide +kernel) ?_
                  refine j_bipush (v := nI 36) C dX10_field_114 (by decide +kernel) ?_
                  refine j_callV0 (T := TX10) (N := 23) C dX10_field_116 (k_X10_multiply l D kc ad 38 (by omega) 40 (by omega) 36 (by omega) _ ) zy_X10_multiply mw_11_4 rfl rfl (Nat.zero_le _) (show 17 < 18 by decide) rfl rfl (Nat.le_of_ble_eq_true rfl) ⟨rfl, rfl, Nat.le_of_ble_eq_true rfl, Nat.le_of_ble_eq_true rfl⟩ ?_
                  refine j_nmS (fun t29 et29 => ?_)
                  refine j_goto (tgt := 140) C dX10_field_119 (by decide) ?_
                  refine j_aload_n C dX10_field_140 rfl rfl ?_
                  refine j_iload C dX10_field_141 rfl ?_
                  refine j_bipush (v := nI 38) C dX10_field_143 (by decide +kernel) ?_
                  refine j_callV0 (T := TX10) (N := 23) C dX10_field_145 (k_X10_store l D kc ad u.toNatClampNeg (by omega) 38 (by omega) _ ) zy_X10_store mw_21_4 rfl rfl (Nat.zero_le _) (show 17 < 18 by decide) rfl rfl (Nat.le_of_ble_eq_true rfl) ⟨rfl, rfl, Nat.le_of_ble_eq_true rfl, Nat.le_of_ble_eq_true rfl⟩ ?_
                  refine j_nmS (fun t30 et30 => ?_)
                  refine j_iconst (v := nI 1) C dX10_field_148 (by decide +kernel) ?_
                  exact j_iret (st := []) C R0 dX10_field_149 ⟨(by rw [hA3, hA6, hA8, hA10, hA18, hA20, hA22, hA28]; (try rw [et30]); (try rw [et29]); unfold fX10_field_a4; (try dsimp only); all_goals ((try simp only [zfst_mk, zsnd_mk]); all_goals rfl)), ((by rw [hA3, hA6, hA8, hA10, hA18, hA20, hA22, hA28]; (try rw [et30]); (try rw [et29]); unfold fX10_field_a4; (try dsimp only); all_goals ((try simp only [zfst_mk, zsnd_mk]); all_goals rfl)))⟩
              · have hA31 : fX10_field_a7 way u t16 = fX10_field_a6 u t16 := by have q21z : ¬ (way.toNatClampNeg ≠ 1) := (by omega); (try dsimp only at q21z); unfold fX10_field_a7; (try dsimp only); rw [if_neg q21z]; (try rfl)
                refine j_aload_n C dX10_field_91 rfl rfl ?_
                refine j_bipush (v := nI 38) C dX10_field_92 (by decide +kernel) ?_
                refine j_bipush (v := nI 40) C dX10_field_94 (by decide +kernel) ?_
                refine j_bipush (v := nI 36) C dX10_field_96 (by decide +kernel) ?_
                refine j_callV0 (T := TX10) (N := 23) C dX10_field_98 (k_X10_subtract l D kc ad 38 (by omega) 40 (by omega) 36 (by omega) _ ) zy_X10_subtract mw_11_17 rfl rfl (Nat.zero_le _) (show 17 < 18 by decide) rfl rfl (Nat.le_of_ble_eq_true rfl) ⟨rfl, rfl, Nat.le_of_ble_eq_true rfl, Nat.le_of_ble_eq_true rfl⟩ ?_
                refine j_nmS (fun t32 et32 => ?_)
                refine j_goto (tgt := 140) C dX10_field_101 (by decide) ?_
                refine j_aload_n C dX10_field_140 rfl rfl ?_
                refine j_iload C dX10_field_141 rfl ?_
                refine j_bipush (v := nI 38) C dX10_field_143 (by decide +kernel) ?_
                refine j_callV0 (T := TX10) (N := 23) C dX10_field_145 (k_X10_store l D kc ad u.toNatClampNeg (by omega) 38 (by omega) _ ) zy_X10_store mw_21_4 rfl rfl (Nat.zero_le _) (show 17 < 18 by decide) rfl rfl (Nat.le_of_ble_eq_true rfl) ⟨rfl, rfl, Nat.le_of_ble_eq_true rfl, Nat.le_of_ble_eq_true rfl⟩ ?_
                refine j_nmS (fun t33 et33 => ?_)
                refine j_iconst (v := nI 1) C dX10_field_148 (by decide +kernel) ?_
                exact j_iret (st := []) C R0 dX10_field_149 ⟨(by rw [hA3, hA6, hA8, hA10, hA18, hA20, hA31]; (try rw [et33]); (try rw [et32]); unfold fX10_field_a6; (try dsimp only); all_goals ((try simp only [zfst_mk, zsnd_mk]); all_goals rfl)), ((by rw [hA3, hA6, hA8, hA10, hA18, hA20, hA31]; (try rw [et33]); (try rw [et32]); unfold fX10_field_a6; (try dsimp only); all_goals ((try simp only [zfst_mk, zsnd_mk]); all_goals rfl)))⟩
            · have hA34 : fX10_field_a9 way u t16 = fX10_field_a8 u t16 := by have q19z := q19; (try dsimp only at q19z); unfold fX10_field_a9; (try dsimp only); rw [if_neg (fun z => z q19z)]; (try rfl)
              refine j_aload_n C dX10_field_73 rfl rfl ?_
              refine j_bipush (v := nI 38) C dX10_field_74 (by decide +kernel) ?_
              refine j_bipush (v := nI 40) C dX10_field_76 (by decide +kernel) ?_
              refine j_bipush (v := nI 36) C dX10_field_78 (by decide +kernel) ?_
              refine j_callV0 (T := TX10) (N := 23) C dX10_field_80 (k_X10_add l D kc ad 38 (by omega) 40 (by omega) 36 (by omega) _ ) zy_X10_add mw_12_2 rfl rfl (Nat.zero_le _) (show 17 < 18 by decide) rfl rfl (Nat.le_of_ble_eq_true rfl) ⟨rfl, rfl, Nat.le_of_ble_eq_true rfl, Nat.le_of_ble_eq_true rfl⟩ ?_
              refine j_nmS (fun t35 et35 => ?_)
              refine j_goto (tgt := 140) C dX10_field_83 (by decide) ?_
              refine j_aload_n C dX10_field_140 rfl rfl ?_
              refine j_iload C dX10_field_141 rfl ?_
              refine j_bipush (v := nI 38) C dX10_field_143 (by decide +kernel) ?_
              refine j_callV0 (T := TX10) (N := 23) C dX10_field_145 (k_X10_store l D kc ad u.toNatClampNeg (by omega) 38 (by omega) _ ) zy_X10_store mw_21_4 rfl rfl (Nat.zero_le _) (show 17 < 18 by decide) rfl rfl (Nat.le_of_ble_eq_true rfl) ⟨rfl, rfl, Nat.le_of_ble_eq_true rfl, Nat.le_of_ble_eq_true rfl⟩ ?_
              refine j_nmS (fun t36 et36 => ?_)
              refine j_iconst (v := nI 1) C dX10_field_148 (by decide +kernel) ?_
              exact j_iret (st := []) C R0 dX10_field_149 ⟨(by rw [hA3, hA6, hA8, hA10, hA18, hA34]; (try rw [et36]); (try rw [et35]); unfold fX10_field_a8; (try dsimp only); all_goals ((try simp only [zfst_mk, zsnd_mk]); all_goals rfl)), ((by rw [hA3, hA6, hA8, hA10, hA18, hA34]; (try rw [et36]); (try rw [et35]); unfold fX10_field_a8; (try dsimp only); all_goals ((try simp only [zfst_mk, zsnd_mk]); all_goals rfl)))⟩
          · have hA37 : fX10_field_a19 way a b u s0 = fX10_field_a18 way u t16 := by (try rw [et16]); (try rw [et15]); have q17z : ¬ (way.toNatClampNeg ≠ 3) := (by omega); (try rw [et16] at q17z); (try rw [et15] at q17z); (try dsimp only at q17z); unfold fX10_field_a19; (try dsimp only); rw [if_neg q17z]; (try rfl)
            refine j_aload_n C dX10_field_56 rfl rfl ?_
            refine j_bipush (v := nI 36) C dX10_field_57 (by decide +kernel) ?_
            refine j_iconst (v := nI 0) C dX10_field_59 (by decide +kernel) ?_
            refine j_callV1 (T := TX10) (N := 23) C dX10_field_60 (k_X10_isSame l D kc ad 36 (by omega) 0 (by omega) _ ) zy_X10_isSame mw_13_14 rfl rfl (Nat.zero_le _) (show 17 < 18 by decide) rfl rfl (Nat.le_of_ble_eq_true rfl) ⟨rfl, rfl, Nat.le_of_ble_eq_true rfl, Nat.le_of_ble_eq_true rfl⟩ ?_
            refine j_nmS (fun t38 et38 => ?_)
            refine j_if_eqB (tgt := 69) C dX10_field_63 (by decide) (fun q39 => ?_) (fun q39 => ?_)
            · have hA40 : fX10_field_a18 way u t16 = fX10_field_a16 way u t38 := by (try rw [et38]); have q39z := q39; (try rw [et38] at q39z); (try dsimp only at q39z); unfold fX10_field_a18; (try dsimp only); rw [q39z, cond_false]; (try rfl)
              refine j_iload_n C dX10_field_69 rfl rfl ?_
              refine j_if_ne (tgt := 86) C dX10_field_70 (by decide) (fun q41 => ?_) (fun q41 => ?_)
              · have hA42 : fX10_field_a16 way u t38 = fX10_field_a14 way u t38 := by have q41z := q41; (try dsimp only at q41z); unfold fX10_field_a16; (try dsimp only); rw [if_pos q41z]; (try rfl)
                refine j_iload_n C dX10_field_86 rfl rfl ?_
                refine j_iconst (v := nI 1) C dX10_field_87 (by decide +kernel) ?_
                refine j_icmp_neN (tgt := 104) C dX10_field_88 (by decide) (by omega) (by omega) (fun q43 => ?_) (fun q43 => ?_)
                · have hA44 : fX10_field_a14 way u t38 = fX10_field_a12 way u t38 := by have q43z := q43; (try dsimp only at q43z); unfold fX10_field_a14; (try dsimp only); rw [if_pos q43z]; (try rfl)
                  refine j_iload_n C dX10_field_104 rfl rfl ?_
                  refine j_iconst (v := nI 2) C dX10_field_105 (by decide +kernel) ?_
                  refine j_icmp_neN (tgt := 122) C dX10_field_106 (by decide) (by omega) (by omega) (fun q45 => ?_) (fun q45 => ?_)
                  · have hA46 : fX10_field_a12 way u t38 = fX10_field_a10 u t38 := by have q45z := q45; (try dsimp only at q45z); unfold fX10_field_a12; (try dsimp only); rw [if_pos q45z]; (try rfl)
                    refine j_aload_n C dX10_field_122 rfl rfl ?_
                    refine j_bipush (v := nI 37) C dX10_field_123 (by decide +kernel) ?_
                    refine j_bipush (v := nI 36) C dX10_field_125 (by decide +kernel) ?_
                    refine j_callV0 (T := TX10) (N := 23) C dX10_field_127 (k_X10_invert l D kc ad 37 (by omega) 36 (by omega) _ ) zy_X10_invert mw_11_21 rfl rfl (Nat.zero_le _) (show 17 < 18 by decide) rfl rfl (Nat.le_of_ble_eq_true rfl) ⟨rfl, rfl, Nat.le_of_ble_eq_true rfl, Nat.le_of_ble_eq_true rfl⟩ ?_
                    refine j_nmS (fun t47 et47 => ?_)
                    refine j_aload_n C dX10_field_130 rfl rfl ?_
                    refine j_bipush (v := nI 38) C dX10_field_131 (by decide +kernel) ?_
                    refine j_bipush (v := nI 40) C dX10_field_133 (by decide +kernel) ?_
                    refine j_bipush (v := nI 37) C dX10_field_135 (by decide +kernel) ?_
                    refine j_callV0 (T := TX10) (N := 23) C dX10_field_137 (k_X10_multiply l D kc ad 38 (by omega) 40 (by omega) 37 (by omega) _ ) zy_X10_multiply mw_11_4 rfl rfl (Nat.zero_le _) (show 17 < 18 by decide) rfl rfl (Nat.le_of_ble_eq_true rfl) ⟨rfl, rfl, Nat.le_of_ble_eq_true rfl, Nat.le_of_ble_eq_true rfl⟩ ?_
                    refine j_nmS (fun t48 et48 => ?_)
                    refine j_aload_n C dX10_field_140 rfl rfl ?_
                    refine j_iload C dX10_field_141 rfl ?_
                    refine j_bipush (v := nI 38) C dX10_field_143 (by decide +kernel) ?_
                    refine j_callV0 (T := TX10) (N := 23) C dX10_field_145 (k_X10_store l D kc ad u.toNatClampNeg (by omega) 38 (by omega) _ ) zy_X10_store mw_21_4 rfl rfl (Nat.zero_le _) (show 17 < 18 by decide) rfl rfl (Nat.le_of_ble_eq_true rfl) ⟨rfl, rfl, Nat.le_of_ble_eq_true rfl, Nat.le_of_ble_eq_true rfl⟩ ?_
                    refine j_nmS (fun t49 et49 => ?_)
                    refine j_iconst (v := nI 1) C dX10_field_148 (by decide +kernel) ?_
                    exact j_iret (st := []) C R0 dX10_field_149 ⟨(by rw [hA3, hA6, hA8, hA10, hA37, hA40, hA42, hA44, hA46]; (try rw [et49]); (try rw [et48]); (try rw [et47]); unfold fX10_field_a10; (try dsimp only); all_goals ((try simp only [zfst_mk, zsnd_mk]); all_goals rfl)), ((by rw [hA3, hA6, hA8, hA10, hA37, hA40, hA42, hA44, hA46]; (try rw [et49]); (try rw [et48]); (try rw [et47]); unfold fX10_field_a10; (try dsimp only); all_goals ((try simp only [zfst_mk, zsnd_mk]); all_goals rfl)))⟩
                  · have hA50 : fX10_field_a12 way u t38 = fX10_field_a11 u t38 := by have q45z : ¬ (way.toNatClampNeg ≠ 2) := (by omega); (try dsimp only at q45z); unfold fX10_field_a12; (try dsimp only); rw [if_neg q45z]; (try rfl)
                    refine j_aload_n C dX10_field_109 rfl rfl ?_
                    refine j_bipush (v := nI 38) C dX10_field_110 (by decide +kernel) ?_
                    refine j_bipush (v := nI 40) C dX10_field_112 (by decide +kernel) ?_
                    refine j_bipush (v := nI 36) C dX10_field_114 (by decide +kernel) ?_
                    refine j_callV0 (T := TX10) (N := 23) C dX10_field_116 (k_X10_multiply l D kc ad 38 (by omega) 40 (by omega) 36 (by omega) _ ) zy_X10_multiply mw_11_4 rfl rfl (Nat.zero_le _) (show 17 < 18 by decide) rfl rfl (Nat.le_of_ble_eq_true rfl) ⟨rfl, rfl, Nat.le_of_ble_eq_true rfl, Nat.le_of_ble_eq_true rfl⟩ ?_
                    refine j_nmS (fun t51 et51 => ?_)
                    refine j_goto (tgt := 140) C dX10_field_119 (by decide) ?_
                    refine j_aload_n C dX10_field_140 rfl rfl ?_
                    refine j_iload C dX10_field_141 rfl ?_
                    refine j_bipush (v := nI 38) C dX10_field_143 (by decide +kernel) ?_
                    refine j_callV0 (T := TX10) (N := 23) C dX10_field_145 (k_X10_store l D kc ad u.toNatClampNeg (by omega) 38 (by omega) _ ) zy_X10_store mw_21_4 rfl rfl (Nat.zero_le _) (show 17 < 18 by decide) rfl rfl (Nat.le_of_ble_eq_true rfl) ⟨rfl, rfl, Nat.le_of_ble_eq_true rfl, Nat.le_of_ble_eq_true rfl⟩ ?_
                    refine j_nmS (fun t52 et52 => ?_)
                    refine j_iconst (v := nI 1) C dX10_field_148 (by decide +kernel) ?_
                    exact j_iret (st := []) C R0 dX10_field_149 ⟨(by rw [hA3, hA6, hA8, hA10, hA37, hA40, hA42, hA44, hA50]; (try rw [et52]); (try rw [et51]); unfold fX10_field_a11; (try dsimp only); all_goals ((try simp only [zfst_mk, zsnd_mk]); all_goals rfl)), ((by rw [hA3, hA6, hA8, hA10, hA37, hA40, hA42, hA44, hA50]; (try rw [et52]); (try rw [et51]); unfold fX10_field_a11; (try dsimp only); all_goals ((try simp only [zfst_mk, zsnd_mk]); all_goals rfl)))⟩
                · have hA53 : fX10_field_a14 way u t38 = fX10_field_a13 u t38 := by have q43z : ¬ (way.toNatClampNeg ≠ 1) := (by omega); (try dsimp only at q43z); unfold fX10_field_a14; (try dsimp only); rw [if_neg q43z]; (try rfl)
                  refine j_aload_n C dX10_field_91 rfl rfl ?_
                  refine j_bipush (v := nI 38) C dX10_field_92 (by decide +kernel) ?_
                  refine j_bipush (v := nI 40) C dX10_field_94 (by decide +kernel) ?_
                  refine j_bipush (v := nI 36) C dX10_field_96 (by decide +kernel) ?_
                  refine j_callV0 (T := TX10) (N := 23) C dX10_field_98 (k_X10_subtract l D kc ad 38 (by omega) 40 (by omega) 36 (by omega) _ ) zy_X10_subtract mw_11_17 rfl rfl (Nat.zero_le _) (show 17 < 18 by decide) rfl rfl (Nat.le_of_ble_eq_true rfl) ⟨rfl, rfl, Nat.le_of_ble_eq_true rfl, Nat.le_of_ble_eq_true rfl⟩ ?_
                  refine j_nmS (fun t54 et54 => ?_)
                  refine j_goto (tgt := 140) C dX10_field_101 (by decide) ?_
                  refine j_aload_n C dX10_field_140 rfl rfl ?_
                  refine j_iload C dX10_field_141 rfl ?_
                  refine j_bipush (v := nI 38) C dX10_field_143 (by decide +kernel) ?_
                  refine j_callV0 (T := TX10) (N := 23) C dX10_field_145 (k_X10_store l D kc ad u.toNatClampNeg (by omega) 38 (by omega) _ ) zy_X10_store mw_21_4 rfl rfl (Nat.zero_le _) (show 17 < 18 by decide) rfl rfl (Nat.le_of_ble_eq_true rfl) ⟨rfl, rfl, Nat.le_of_ble_eq_true rfl, Nat.le_of_ble_eq_true rfl⟩ ?_
                  refine j_nmS (fun t55 et55 => ?_)
                  refine j_iconst (v := nI 1) C dX10_field_148 (by decide +kernel) ?_
                  exact j_iret (st := []) C R0 dX10_field_149 ⟨(by rw [hA3, hA6, hA8, hA10, hA37, hA40, hA42, hA53]; (try rw [et55]); (try rw [et54]); unfold fX10_field_a13; (try dsimp only); all_goals ((try simp only [zfst_mk, zsnd_mk]); all_goals rfl)), ((by rw [hA3, hA6, hA8, hA10, hA37, hA40, hA42, hA53]; (try rw [et55]); (try rw [et54]); unfold fX10_field_a13; (try dsimp only); all_goals ((try simp only [zfst_mk, zsnd_mk]); all_goals rfl)))⟩
              · have hA56 : fX10_field_a16 way u t38 = fX10_field_a15 u t38 := by have q41z := q41; (try dsimp only at q41z); unfold fX10_field_a16; (try dsimp only); rw [if_neg (fun z => z q41z)]; (try rfl)
                refine j_aload_n C dX10_field_73 rfl rfl ?_
                refine j_bipush (v := nI 38) C dX10_field_74 (by decide +kernel) ?_
                refine j_bipush (v := nI 40) C dX10_field_76 (by decide +kernel) ?_
                refine j_bipush (v := nI 36) C dX10_field_78 (by decide +kernel) ?_
                refine j_callV0 (T := TX10) (N := 23) C dX10_field_80 (k_X10_add l D kc ad 38 (by omega) 40 (by omega) 36 (by omega) _ ) zy_X10_add mw_12_2 rfl rfl (Nat.zero_le _) (show 17 < 18 by decide) rfl rfl (Nat.le_of_ble_eq_true rfl) ⟨rfl, rfl, Nat.le_of_ble_eq_true rfl, Nat.le_of_ble_eq_true rfl⟩ ?_
                refine j_nmS (fun t57 et57 => ?_)
                refine j_goto (tgt := 140) C dX10_field_83 (by decide) ?_
                refine j_aload_n C dX10_field_140 rfl rfl ?_
                refine j_iload C dX10_field_141 rfl ?_
                refine j_bipush (v := nI 38) C dX10_field_143 (by decide +kernel) ?_
                refine j_callV0 (T := TX10) (N := 23) C dX10_field_145 (k_X10_store l D kc ad u.toNatClampNeg (by omega) 38 (by omega) _ ) zy_X10_store mw_21_4 rfl rfl (Nat.zero_le _) (show 17 < 18 by decide) rfl rfl (Nat.le_of_ble_eq_true rfl) ⟨rfl, rfl, Nat.le_of_ble_eq_true rfl, Nat.le_of_ble_eq_true rfl⟩ ?_
                refine j_nmS (fun t58 et58 => ?_)
                refine j_iconst (v := nI 1) C dX10_field_148 (by decide +kernel) ?_
                exact j_iret (st := []) C R0 dX10_field_149 ⟨(by rw [hA3, hA6, hA8, hA10, hA37, hA40, hA56]; (try rw [et58]); (try rw [et57]); unfold fX10_field_a15; (try dsimp only); all_goals ((try simp only [zfst_mk, zsnd_mk]); all_goals rfl)), ((by rw [hA3, hA6, hA8, hA10, hA37, hA40, hA56]; (try rw [et58]); (try rw [et57]); unfold fX10_field_a15; (try dsimp only); all_goals ((try simp only [zfst_mk, zsnd_mk]); all_goals rfl)))⟩
            · have hA59 : fX10_field_a18 way u t16 = fX10_field_a17 t38 := by (try rw [et38]); have q39z := q39; (try rw [et38] at q39z); (try dsimp only at q39z); unfold fX10_field_a18; (try dsimp only); rw [q39z, cond_true]; (try rfl)
              refine j_bipush (v := -103) C dX10_field_66 (by decide +kernel) ?_
              exact j_iret (st := []) C R0 dX10_field_68 ⟨(by rw [hA3, hA6, hA8, hA10, hA37, hA59]; unfold fX10_field_a17; (try dsimp only); all_goals ((try simp only [zfst_mk, zsnd_mk]); all_goals rfl)), ((by rw [hA3, hA6, hA8, hA10, hA37, hA59]; unfold fX10_field_a17; (try dsimp only); all_goals ((try simp only [zfst_mk, zsnd_mk]); all_goals rfl)))⟩
        · have hA60 : fX10_field_a21 way a b u s0 = fX10_field_a20 s0 := by have q9z := q9; (try dsimp only at q9z); unfold fX10_field_a21; (try dsimp only); rw [q9z, cond_false]; (try rfl)
          refine j_bipush (v := -102) C dX10_field_34 (by decide +kernel) ?_
          exact j_iret (st := []) C R0 dX10_field_36 ⟨(by rw [hA3, hA6, hA8, hA60]; unfold fX10_field_a20; (try dsimp only); all_goals ((try simp only [zfst_mk, zsnd_mk]); all_goals rfl)), ((by rw [hA3, hA6, hA8, hA60]; unfold fX10_field_a20; (try dsimp only); all_goals ((try simp only [zfst_mk, zsnd_mk]); all_goals rfl)))⟩
      · have hA61 : fX10_field_a23 way a b u s0 = fX10_field_a22 s0 := by have q7z := q7; (try dsimp only at q7z); unfold fX10_field_a23; (try dsimp only); rw [q7z, cond_false]; (try rfl)
        refine j_bipush (v := -101) C dX10_field_22 (by decide +kernel) ?_
        exact j_iret (st := []) C R0 dX10_field_24 ⟨(by rw [hA3, hA6, hA61]; unfold fX10_field_a22; (try dsimp only); all_goals ((try simp only [zfst_mk, zsnd_mk]); all_goals rfl)), ((by rw [hA3, hA6, hA61]; unfold fX10_field_a22; (try dsimp only); all_goals ((try simp only [zfst_mk, zsnd_mk]); all_goals rfl)))⟩
theorem k2q_fX10_field_a1 (s0 : zSt) : zk2s (fX10_field_a1 s0) = zk2 s0 := by
  unfold fX10_field_a1
  (try dsimp only)
  all_goals (simp only [zW_2, zL_2, zk2s_mk]; done)
theorem k2_fX10_field_a1 (s0 : zSt) : zk2 (zsnd (fX10_field_a1 s0)) = zk2 s0 := k2q_fX10_field_a1 s0
theorem k2q_fX10_field_a2 (s0 : zSt) : zk2s (fX10_field_a2 s0) = zk2 s0 := by
  unfold fX10_field_a2
  (try dsimp only)
  all_goals (simp only [zW_2, zL_2, zk2s_mk]; done)
theorem k2_fX10_field_a2 (s0 : zSt) : zk2 (zsnd (fX10_field_a2 s0)) = zk2 s0 := k2q_fX10_field_a2 s0
theorem k2q_fX10_field_a3 (u : Int32) (t16 : zSt) : zk2s (fX10_field_a3 u t16) = zk2 t16 := by
  unfold fX10_field_a3
  (try dsimp only)
  all_goals (simp only [zW_2, zL_2, k2_fX10_invert, k2_fX10_multiply, k2_fX10_store, zk2s_mk]; done)
theorem k2_fX10_field_a3 (u : Int32) (t16 : zSt) : zk2 (zsnd (fX10_field_a3 u t16)) = zk2 t16 := k2q_fX10_field_a3 u t16
theorem k2q_fX10_field_a4 (u : Int32) (t16 : zSt) : zk2s (fX10_field_a4 u t16) = zk2 t16 := by
  unfold fX10_field_a4
  (try dsimp only)
  all_goals (simp only [zW_2, zL_2, k2_fX10_multiply, k2_fX10_store, zk2s_mk]; done)
theorem k2_fX10_field_a4 (u : Int32) (t16 : zSt) : zk2 (zsnd (fX10_field_a4 u t16)) = zk2 t16 := k2q_fX10_field_a4 u t16
theorem k2q_fX10_field_a5 (way : Int32) (u : Int32) (t16 : zSt) : zk2s (fX10_field_a5 way u t16) = zk2 t16 := by
  unfold fX10_field_a5
  (try dsimp only)
  all_goals (refine ite_keep (fun r : Int32 × zSt => zk2s r) _ _ ?_ ?_ <;> (simp only [zW_2, zL_2, k2_fX10_field_a3, k2_fX10_field_a4, k2q_fX10_field_a3, k2q_fX10_field_a4, zk2s_mk]; done))
theorem k2_fX10_field_a5 (way : Int32) (u : Int32) (t16 : zSt) : zk2 (zsnd (fX10_field_a5 way u t16)) = zk2 t16 := k2q_fX10_field_a5 way u t16
theorem k2q_fX10_field_a6 (u : Int32) (t16 : zSt) : zk2s (fX10_field_a6 u t16) = zk2 t16 := by
  unfold fX10_field_a6
  (try dsimp only)
  all_goals (simp only [zW_2, zL_2, k2_fX10_store, k2_fX10_subtract, zk2s_mk]; done)
theorem k2_fX10_field_a6 (u : Int32) (t16 : zSt) : zk2 (zsnd (fX10_field_a6 u t16)) = zk2 t16 := k2q_fX10_field_a6 u t16
theorem k2q_fX10_field_a7 (way : Int32) (u : Int32) (t16 : zSt) : zk2s (fX10_field_a7 way u t16) = zk2 t16 := by
  unfold fX10_field_a7
  (try dsimp only)
  all_goals (refine ite_keep (fun r : Int32 × zSt => zk2s r) _ _ ?_ ?_ <;> (simp only [zW_2, zL_2, k2_fX10_field_a5, k2_fX10_field_a6, k2q_fX10_field_a5, k2q_fX10_field_a6, zk2s_mk]; done))
theorem k2_fX10_field_a7 (way : Int32) (u : Int32) (t16 : zSt) : zk2 (zsnd (fX10_field_a7 way u t16)) = zk2 t16 := k2q_fX10_field_a7 way u t16
theorem k2q_fX10_field_a8 (u : Int32) (t16 : zSt) : zk2s (fX10_field_a8 u t16) = zk2 t16 := by
  unfold fX10_field_a8
  (try dsimp only)
  all_goals (simp only [zW_2, zL_2, k2_fX10_add, k2_fX10_store, zk2s_mk]; done)
theorem k2_fX10_field_a8 (u : Int32) (t16 : zSt) : zk2 (zsnd (fX10_field_a8 u t16)) = zk2 t16 := k2q_fX10_field_a8 u t16
theorem k2q_fX10_field_a9 (way : Int32) (u : Int32) (t16 : zSt) : zk2s (fX10_field_a9 way u t16) = zk2 t16 := by
  unfold fX10_field_a9
  (try dsimp only)
  all_goals (refine ite_keep (fun r : Int32 × zSt => zk2s r) _ _ ?_ ?_ <;> (simp only [zW_2, zL_2, k2_fX10_field_a7, k2_fX10_field_a8, k2q_fX10_field_a7, k2q_fX10_field_a8, zk2s_mk]; done))
theorem k2_fX10_field_a9 (way : Int32) (u : Int32) (t16 : zSt) : zk2 (zsnd (fX10_field_a9 way u t16)) = zk2 t16 := k2q_fX10_field_a9 way u t16
theorem k2q_fX10_field_a10 (u : Int32) (t38 : zSt) : zk2s (fX10_field_a10 u t38) = zk2 t38 := by
  unfold fX10_field_a10
  (try dsimp only)
  all_goals (simp only [zW_2, zL_2, k2_fX10_invert, k2_fX10_multiply, k2_fX10_store, zk2s_mk]; done)
theorem k2_fX10_field_a10 (u : Int32) (t38 : zSt) : zk2 (zsnd (fX10_field_a10 u t38)) = zk2 t38 := k2q_fX10_field_a10 u t38
theorem k2q_fX10_field_a11 (u : Int32) (t38 : zSt) : zk2s (fX10_field_a11 u t38) = zk2 t38 := by
  unfold fX10_field_a11
  (try dsimp only)
  all_goals (simp only [zW_2, zL_2, k2_fX10_multiply, k2_fX10_store, zk2s_mk]; done)
theorem k2_fX10_field_a11 (u : Int32) (t38 : zSt) : zk2 (zsnd (fX10_field_a11 u t38)) = zk2 t38 := k2q_fX10_field_a11 u t38
theorem k2q_fX10_field_a12 (way : Int32) (u : Int32) (t38 : zSt) : zk2s (fX10_field_a12 way u t38) = zk2 t38 := by
  unfold fX10_field_a12
  (try dsimp only)
  all_goals (refine ite_keep (fun r : Int32 × zSt => zk2s r) _ _ ?_ ?_ <;> (simp only [zW_2, zL_2, k2_fX10_field_a10, k2_fX10_field_a11, k2q_fX10_field_a10, k2q_fX10_field_a11, zk2s_mk]; done))
theorem k2_fX10_field_a12 (way : Int32) (u : Int32) (t38 : zSt) : zk2 (zsnd (fX10_field_a12 way u t38)) = zk2 t38 := k2q_fX10_field_a12 way u t38
theorem k2q_fX10_field_a13 (u : Int32) (t38 : zSt) : zk2s (fX10_field_a13 u t38) = zk2 t38 := by
  unfold fX10_field_a13
  (try dsimp only)
  all_goals (simp only [zW_2, zL_2, k2_fX10_store, k2_fX10_subtract, zk2s_mk]; done)
theorem k2_fX10_field_a13 (u : Int32) (t38 : zSt) : zk2 (zsnd (fX10_field_a13 u t38)) = zk2 t38 := k2q_fX10_field_a13 u t38
theorem k2q_fX10_field_a14 (way : Int32) (u : Int32) (t38 : zSt) : zk2s (fX10_field_a14 way u t38) = zk2 t38 := by
  unfold fX10_field_a14
  (try dsimp only)
  all_goals (refine ite_keep (fun r : Int32 × zSt => zk2s r) _ _ ?_ ?_ <;> (simp only [zW_2, zL_2, k2_fX10_field_a12, k2_fX10_field_a13, k2q_fX10_field_a12, k2q_fX10_field_a13, zk2s_mk]; done))
theorem k2_fX10_field_a14 (way : Int32) (u : Int32) (t38 : zSt) : zk2 (zsnd (fX10_field_a14 way u t38)) = zk2 t38 := k2q_fX10_field_a14 way u t38
theorem k2q_fX10_field_a15 (u : Int32) (t38 : zSt) : zk2s (fX10_field_a15 u t38) = zk2 t38 := by
  unfold fX10_field_a15
  (try dsimp only)
  all_goals (simp only [zW_2, zL_2, k2_fX10_add, k2_fX10_store, zk2s_mk]; done)
theorem k2_fX10_field_a15 (u : Int32) (t38 : zSt) : zk2 (zsnd (fX10_field_a15 u t38)) = zk2 t38 := k2q_fX10_field_a15 u t38
theorem k2q_fX10_field_a16 (way : Int32) (u : Int32) (t38 : zSt) : zk2s (fX10_field_a16 way u t38) = zk2 t38 := by
  unfold fX10_field_a16
  (try dsimp only)
  all_goals (refine ite_keep (fun r : Int32 × zSt => zk2s r) _ _ ?_ ?_ <;> (simp only [zW_2, zL_2, k2_fX10_field_a14, k2_fX10_field_a15, k2q_fX10_field_a14, k2q_fX10_field_a15, zk2s_mk]; done))
theorem k2_fX10_field_a16 (way : Int32) (u : Int32) (t38 : zSt) : zk2 (zsnd (fX10_field_a16 way u t38)) = zk2 t38 := k2q_fX10_field_a16 way u t38
theorem k2q_fX10_field_a17 (t38 : zSt) : zk2s (fX10_field_a17 t38) = zk2 t38 := by
  unfold fX10_field_a17
  (try dsimp only)
  all_goals (simp only [zW_2, zL_2, zk2s_mk]; done)
theorem k2_fX10_field_a17 (t38 : zSt) : zk2 (zsnd (fX10_field_a17 t38)) = zk2 t38 := k2q_fX10_field_a17 t38
theorem k2q_fX10_field_a18 (way : Int32) (u : Int32) (t16 : zSt) : zk2s (fX10_field_a18 way u t16) = zk2 t16 := by
  unfold fX10_field_a18
  (try dsimp only)
  all_goals (refine cond_keep (fun r : Int32 × zSt => zk2s r) _ ?_ ?_ <;> (simp only [zW_2, zL_2, k2_fX10_field_a16, k2_fX10_field_a17, k2_fX10_isSame, k2q_fX10_field_a16, k2q_fX10_field_a17, k2q_fX10_isSame, zk2s_mk]; done))
theorem k2_fX10_field_a18 (way : Int32) (u : Int32) (t16 : zSt) : zk2 (zsnd (fX10_field_a18 way u t16)) = zk2 t16 := k2q_fX10_field_a18 way u t16
theorem k2q_fX10_field_a19 (way : Int32) (a : Int32) (b : Int32) (u : Int32) (s0 : zSt) : zk2s (fX10_field_a19 way a b u s0) = zk2 s0 := by
  unfold fX10_field_a19
  (try dsimp only)
  all_goals (refine ite_keep (fun r : Int32 × zSt => zk2s r) _ _ ?_ ?_ <;> (simp only [zW_2, zL_2, k2_fX10_field_a18, k2_fX10_field_a9, k2_fX10_load, k2q_fX10_field_a18, k2q_fX10_field_a9, zk2s_mk]; done))
theorem k2_fX10_field_a19 (way : Int32) (a : Int32) (b : Int32) (u : Int32) (s0 : zSt) : zk2 (zsnd (fX10_field_a19 way a b u s0)) = zk2 s0 := k2q_fX10_field_a19 way a b u s0
theorem k2q_fX10_field_a20 (s0 : zSt) : zk2s (fX10_field_a20 s0) = zk2 s0 := by
  unfold fX10_field_a20
  (try dsimp only)
  all_goals (simp only [zW_2, zL_2, zk2s_mk]; done)
theorem k2_fX10_field_a20 (s0 : zSt) : zk2 (zsnd (fX10_field_a20 s0)) = zk2 s0 := k2q_fX10_field_a20 s0
theorem k2q_fX10_field_a21 (way : Int32) (a : Int32) (b : Int32) (u : Int32) (s0 : zSt) : zk2s (fX10_field_a21 way a b u s0) = zk2 s0 := by
  unfold fX10_field_a21
  (try dsimp only)
  all_goals (refine cond_keep (fun r : Int32 × zSt => zk2s r) _ ?_ ?_ <;> (simp only [zW_2, zL_2, k2_fX10_field_a19, k2_fX10_field_a20, k2q_fX10_field_a19, k2q_fX10_field_a20, zk2s_mk]; done))
theorem k2_fX10_field_a21 (way : Int32) (a : Int32) (b : Int32) (u : Int32) (s0 : zSt) : zk2 (zsnd (fX10_field_a21 way a b u s0)) = zk2 s0 := k2q_fX10_field_a21 way a b u s0
theorem k2q_fX10_field_a22 (s0 : zSt) : zk2s (fX10_field_a22 s0) = zk2 s0 := by
  unfold fX10_field_a22
  (try dsimp only)
  all_goals (simp only [zW_2, zL_2, zk2s_mk]; done)
theorem k2_fX10_field_a22 (s0 : zSt) : zk2 (zsnd (fX10_field_a22 s0)) = zk2 s0 := k2q_fX10_field_a22 s0
theorem k2q_fX10_field_a23 (way : Int32) (a : Int32) (b : Int32) (u : Int32) (s0 : zSt) : zk2s (fX10_field_a23 way a b u s0) = zk2 s0 := by
  unfold fX10_field_a23
  (try dsimp only)
  all_goals (refine cond_keep (fun r : Int32 × zSt => zk2s r) _ ?_ ?_ <;> (simp only [zW_2, zL_2, k2_fX10_field_a21, k2_fX10_field_a22, k2q_fX10_field_a21, k2q_fX10_field_a22, zk2s_mk]; done))
theorem k2_fX10_field_a23 (way : Int32) (a : Int32) (b : Int32) (u : Int32) (s0 : zSt) : zk2 (zsnd (fX10_field_a23 way a b u s0)) = zk2 s0 := k2q_fX10_field_a23 way a b u s0
theorem k2q_fX10_field_a24 (way : Int32) (a : Int32) (b : Int32) (u : Int32) (s0 : zSt) : zk2s (fX10_field_a24 way a b u s0) = zk2 s0 := by
  unfold fX10_field_a24
  (try dsimp only)
  all_goals (refine cond_keep (fun r : Int32 × zSt => zk2s r) _ ?_ ?_ <;> (simp only [zW_2, zL_2, k2_fX10_field_a2, k2_fX10_field_a23, k2q_fX10_field_a2, k2q_fX10_field_a23, zk2s_mk]; done))
theorem k2_fX10_field_a24 (way : Int32) (a : Int32) (b : Int32) (u : Int32) (s0 : zSt) : zk2 (zsnd (fX10_field_a24 way a b u s0)) = zk2 s0 := k2q_fX10_field_a24 way a b u s0
theorem k2q_fX10_field (way : Int32) (a : Int32) (b : Int32) (u : Int32) (s0 : zSt) : zk2s (fX10_field way a b u s0) = zk2 s0 := by
  unfold fX10_field
  (try dsimp only)
  all_goals (refine cond_keep (fun r : Int32 × zSt => zk2s r) _ ?_ ?_ <;> (simp only [zW_2, zL_2, k2_fX10_field_a1, k2_fX10_field_a24, k2q_fX10_field_a1, k2q_fX10_field_a24, zk2s_mk]; done))
theorem k2_fX10_field (way : Int32) (a : Int32) (b : Int32) (u : Int32) (s0 : zSt) : zk2 (zsnd (fX10_field way a b u s0)) = zk2 s0 := k2q_fX10_field way a b u s0
theorem i2_fX10_field (way : Int32) (a : Int32) (b : Int32) (u : Int32) (s0 : zSt) (kk9 : Nat) : (zsnd (fX10_field way a b u s0)).2.2 kk9 = s0.2.2 kk9 := z2_I (k2_fX10_field way a b u s0) kk9
theorem i3_fX10_field (way : Int32) (a : Int32) (b : Int32) (u : Int32) (s0 : zSt) (kk9 : Nat) : zi (zsnd (fX10_field way a b u s0)) kk9 = zi s0 kk9 := zi_of (k2_fX10_field way a b u s0) kk9

def fX10_power_a1 (s0 : zSt) : Int32 × zSt :=
    ((-101 : Int32), s0)
def fX10_power_a2 (s0 : zSt) : Int32 × zSt :=
    ((-101 : Int32), s0)
def fX10_power_a3 (a : Int32) (b : Int32) (u : Int32) (s0 : zSt) : Int32 × zSt :=
    let t12 := fX10_load 40 a.toNatClampNeg s0
    let t13 := fX10_fromSlot 8 b.toNatClampNeg t12
    let t14 := fX10_raise 36 40 8 t13
    let t15 := fX10_store u.toNatClampNeg 36 t14
    (nI (1), t15)
def fX10_power_a4 (s0 : zSt) : Int32 × zSt :=
    ((-101 : Int32), s0)
def fX10_power_a5 (a : Int32) (b : Int32) (u : Int32) (s0 : zSt) : Int32 × zSt :=
    bif (vX10_isSlot u s0) then
      fX10_power_a3 a b u s0
    else
      fX10_power_a4 s0
def fX10_power_a6 (a : Int32) (b : Int32) (u : Int32) (s0 : zSt) : Int32 × zSt :=
    bif (vX10_isSlot b s0) then
      fX10_power_a5 a b u s0
    else
      fX10_power_a2 s0
def fX10_power (a : Int32) (b : Int32) (u : Int32) (s0 : zSt) : Int32 × zSt :=
    bif (vX10_isSlot a s0) then
      fX10_power_a6 a b u s0
    else
      fX10_power_a1 s0
set_option maxHeartbeats 4000000 in
set_option maxRecDepth 100000 in
theorem k_X10_power (l : Launch) (D : va_G) (kc : Nat → ClassId) (ad : Nat → Nat) (a : Int32) (b : Int32) (u : Int32) (s0 : zSt) : zM l yX10_power cX10_power 4 (some .int) rX10_power (wM D kc ad) [.ref (zad (wM D kc ad) 17), .int a, .int b, .int u] s0 (zV1 (.int (zfst (fX10_power a b u s0))) (zsnd (fX10_power a b u s0))) := by
  refine z_of (own := RX10) (by decide +kernel) rfl (Nat.le_of_ble_eq_true rfl) ?_
  intro κ C R0
  refine j_at [(0, .ref (zad (wM D kc ad) 17)), (1, .int a), (2, .int b), (3, .int u)] ⟨rfl, rfl, rfl, rfl, trivial⟩ ?_
  refine j_iload_n C dX10_power_0 rfl rfl ?_
  refine j_callS1 C dX10_power_1 (k_X10_isSlot l D kc ad (a) _ ) zy_X10_isSlot mw_15_3 rfl rfl (Nat.le_of_ble_eq_true rfl) ⟨rfl, rfl, Nat.le_of_ble_eq_true rfl, Nat.le_of_ble_eq_true rfl⟩ ?_
  refine j_if_eqB (tgt := 21) C dX10_power_4 (by decide) (fun q1 => ?_) (fun q1 => ?_)
  · have hA2 : fX10_power a b u s0 = fX10_power_a1 s0 := by have q1z := q1; (try dsimp only at q1z); unfold fX10_power; (try dsimp only); rw [q1z, cond_false]; (try rfl)
    refine j_bipush (v := -101) C dX10_power_21 (by decide +kernel) ?_
    exact j_iret (st := []) C R0 dX10_power_23 ⟨(by rw [hA2]; unfold fX10_power_a1; (try dsimp only); all_goals ((try simp only [zfst_mk, zsnd_mk]); all_goals rfl)), ((by rw [hA2]; unfold fX10_power_a1; (try dsimp only); all_goals ((try simp only [zfst_mk, zsnd_mk]); all_goals rfl)))⟩
  · have hA3 : fX10_power a b u s0 = fX10_power_a6 a b u s0 := by have q1z := q1; (try dsimp only at q1z); unfold fX10_power; (try dsimp only); rw [q1z, cond_true]; (try rfl)
    refine j_iload_n C dX10_power_7 rfl rfl ?_
    refine j_callS1 C dX10_power_8 (k_X10_isSlot l D kc ad (b) _ ) zy_X10_isSlot mw_15_3 rfl rfl (Nat.le_of_ble_eq_true rfl) ⟨rfl, rfl, Nat.le_of_ble_eq_true rfl, Nat.le_of_ble_eq_true rfl⟩ ?_
    refine j_if_eqB (tgt := 21) C dX10_power_11 (by decide) (fun q4 => ?_) (fun q4 => ?_)
    · have hA5 : fX10_power_a6 a b u s0 = fX10_power_a2 s0 := by have q4z := q4; (try dsimp only at q4z); unfold fX10_power_a6; (try dsimp only); rw [q4z, cond_false]; (try rfl)
      refine j_bipush (v := -101) C dX10_power_21 (by decide +kernel) ?_
      exact j_iret (st := []) C R0 dX10_power_23 ⟨(by rw [hA3, hA5]; unfold fX10_power_a2; (try dsimp only); all_goals ((try simp only [zfst_mk, zsnd_mk]); all_goals rfl)), ((by rw [hA3, hA5]; unfold fX10_power_a2; (try dsimp only); all_goals ((try simp only [zfst_mk, zsnd_mk]); all_goals rfl)))⟩
    · have hA6 : fX10_power_a6 a b u s0 = fX10_power_a5 a b u s0 := by have q4z := q4; (try dsimp only at q4z); unfold fX10_power_a6; (try dsimp only); rw [q4z, cond_true]; (try rfl)
      refine j_iload_n C dX10_power_14 rfl rfl ?_
      refine j_callS1 C dX10_power_15 (k_X10_isSlot l D kc ad (u) _ ) zy_X10_isSlot mw_15_3 rfl rfl (Nat.le_of_ble_eq_true rfl) ⟨rfl, rfl, Nat.le_of_ble_eq_true rfl, Nat.le_of_ble_eq_true rfl⟩ ?_
      refine j_if_neB (tgt := 24) C dX10_power_18 (by decide) (fun q7 => ?_) (fun q7 => ?_)
      · have hA8 : fX10_power_a5 a b u s0 = fX10_power_a3 a b u s0 := by have q7z := q7; (try dsimp only at q7z); unfold fX10_power_a5; (try dsimp only); rw [q7z, cond_true]; (try rfl)
        have hc9 := msl_of (x := a) (by assumption)
        have hc9b := hc9.2
        have hc10 := msl_of (x := b) (by assumption)
        have hc10b := hc10.2
        have hc11 := msl_of (x := u) (by assumption)
        have hc11b := hc11.2
        refine j_at [(0, .ref (zad (wM D kc ad) 17)), (1, .int (nI (a.toNatClampNeg))), (2, .int (nI (b.toNatClampNeg))), (3, .int (nI (u.toNatClampNeg)))] ⟨rfl, congrArg (fun q => some (Value.int q)) hc9.1, congrArg (fun q => some (Value.int q)) hc10.1, congrArg (fun q => some (Value.int q)) hc11.1, trivial⟩ ?_
        refine j_aload_n C dX10_power_24 rfl rfl ?_
        refine j_bipush (v := nI 40) C dX10_power_25 (by decide +kernel) ?_
        refine j_iload_n C dX10_power_27 rfl rfl ?_
        refine j_callV0 (T := TX10) (N := 23) C dX10_power_28 (k_X10_load l D kc ad 40 (by omega) a.toNatClampNeg (by omega) _ ) zy_X10_load mw_21_0 rfl rfl (Nat.zero_le _) (show 17 < 18 by decide) rfl rfl (Nat.le_of_ble_eq_true rfl) ⟨rfl, rfl, Nat.le_of_ble_eq_true rfl, Nat.le_of_ble_eq_true rfl⟩ ?_
        refine j_nmS (fun t12 et12 => ?_)
        refine j_aload_n C dX10_power_31 rfl rfl ?_
        refine j_bipush (v := nI 8) C dX10_power_32 (by decide +kernel) ?_
        refine j_iload_n C dX10_power_34 rfl rfl ?_
        refine j_callV0 (T := TX10) (N := 23) C dX10_power_35 (k_X10_fromSlot l D kc ad 8 (by omega) b.toNatClampNeg (by omega) _ ) zy_X10_fromSlot mw_16_9 rfl rfl (Nat.zero_le _) (show 17 < 18 by decide) rfl rfl (Nat.le_of_ble_eq_true rfl) ⟨rfl, rfl, Nat.le_of_ble_eq_true rfl, Nat.le_of_ble_eq_true rfl⟩ ?_
        refine j_nmS (fun t13 et13 => ?_)
        refine j_aload_n C dX10_power_38 rfl rfl ?_
        refine j_bipush (v := nI 36) C dX10_power_39 (by decide +kernel) ?_
        refine j_bipush (v := nI 40) C dX10_power_41 (by decide +kernel) ?_
        refine j_bipush (v := nI 8) C dX10_power_43 (by decide +kernel) ?_
        refine j_callV0 (T := TX10) (N := 23) C dX10_power_45 (k_X10_raise l D kc ad 36 (by omega) 40 (by omega) 8 (by omega) _ ) zy_X10_raise mw_10_20 rfl rfl (Nat.zero_le _) (show 17 < 18 by decide) rfl rfl (Nat.le_of_ble_eq_true rfl) ⟨rfl, rfl, Nat.le_of_ble_eq_true rfl, Nat.le_of_ble_eq_true rfl⟩ ?_
        refine j_nmS (fun t14 et14 => ?_)
        refine j_aload_n C dX10_power_48 rfl rfl ?_
        refine j_iload_n C dX10_power_49 rfl rfl ?_
        refine j_bipush (v := nI 36) C dX10_power_50 (by decide +kernel) ?_
        refine j_callV0 (T := TX10) (N := 23) C dX10_power_52 (k_X10_store l D kc ad u.toNatClampNeg (by omega) 36 (by omega) _ ) zy_X10_store mw_21_4 rfl rfl (Nat.zero_le _) (show 17 < 18 by decide) rfl rfl (Nat.le_of_ble_eq_true rfl) ⟨rfl, rfl, Nat.le_of_ble_eq_true rfl, Nat.le_of_ble_eq_true rfl⟩ ?_
        refine j_nmS (fun t15 et15 => ?_)
        refine j_iconst (v := nI 1) C dX10_power_55 (by decide +kernel) ?_
        exact j_iret (st := []) C R0 dX10_power_56 ⟨(by rw [hA3, hA6, hA8]; (try rw [et15]); (try rw [et14]); (try rw [et13]); (try rw [et12]); unfold fX10_power_a3; (try dsimp only); all_goals ((try simp only [zfst_mk, zsnd_mk]); all_goals rfl)), ((by rw [hA3, hA6, hA8]; (try rw [et15]); (try rw [et14]); (try rw [et13]); (try rw [et12]); unfold fX10_power_a3; (try dsimp only); all_goals ((try simp only [zfst_mk, zsnd_mk]); all_goals rfl)))⟩
      · have hA16 : fX10_power_a5 a b u s0 = fX10_power_a4 s0 := by have q7z := q7; (try dsimp only at q7z); unfold fX10_power_a5; (try dsimp only); rw [q7z, cond_false]; (try rfl)
        refine j_bipush (v := -101) C dX10_power_21 (by decide +kernel) ?_
        exact j_iret (st := []) C R0 dX10_power_23 ⟨(by rw [hA3, hA6, hA16]; unfold fX10_power_a4; (try dsimp only); all_goals ((try simp only [zfst_mk, zsnd_mk]); all_goals rfl)), ((by rw [hA3, hA6, hA16]; unfold fX10_power_a4; (try dsimp only); all_goals ((try simp only [zfst_mk, zsnd_mk]); all_goals rfl)))⟩
theorem k2q_fX10_power_a1 (s0 : zSt) : zk2s (fX10_power_a1 s0) = zk2 s0 := by
  unfold fX10_power_a1
  (try dsimp only)
  all_goals (simp only [zW_2, zL_2, zk2s_mk]; done)
theorem k2_fX10_power_a1 (s0 : zSt) : zk2 (zsnd (fX10_power_a1 s0)) = zk2 s0 := k2q_fX10_power_a1 s0
theorem k2q_fX10_power_a2 (s0 : zSt) : zk2s (fX10_power_a2 s0) = zk2 s0 := by
  unfold fX10_power_a2
  (try dsimp only)
  all_goals (simp only [zW_2, zL_2, zk2s_mk]; done)
theorem k2_fX10_power_a2 (s0 : zSt) : zk2 (zsnd (fX10_power_a2 s0)) = zk2 s0 := k2q_fX10_power_a2 s0
theorem k2q_fX10_power_a3 (a : Int32) (b : Int32) (u : Int32) (s0 : zSt) : zk2s (fX10_power_a3 a b u s0) = zk2 s0 := by
  unfold fX10_power_a3
  (try dsimp only)
  all_goals (simp only [zW_2, zL_2, k2_fX10_fromSlot, k2_fX10_load, k2_fX10_raise, k2_fX10_store, zk2s_mk]; done)
theorem k2_fX10_power_a3 (a : Int32) (b : Int32) (u : Int32) (s0 : zSt) : zk2 (zsnd (fX10_power_a3 a b u s0)) = zk2 s0 := k2q_fX10_power_a3 a b u s0
theorem k2q_fX10_power_a4 (s0 : zSt) : zk2s (fX10_power_a4 s0) = zk2 s0 := by
  unfold fX10_power_a4
  (try dsimp only)
  all_goals (simp only [zW_2, zL_2, zk2s_mk]; done)
theorem k2_fX10_power_a4 (s0 : zSt) : zk2 (zsnd (fX10_power_a4 s0)) = zk2 s0 := k2q_fX10_power_a4 s0
theorem k2q_fX10_power_a5 (a : Int32) (b : Int32) (u : Int32) (s0 : zSt) : zk2s (fX10_power_a5 a b u s0) = zk2 s0 := by
  unfold fX10_power_a5
  (try dsimp only)
  all_goals (refine cond_keep (fun r : Int32 × zSt => zk2s r) _ ?_ ?_ <;> (simp only [zW_2, zL_2, k2_fX10_power_a3, k2_fX10_power_a4, k2q_fX10_power_a3, k2q_fX10_power_a4, zk2s_mk]; done))
theorem k2_fX10_power_a5 (a : Int32) (b : Int32) (u : Int32) (s0 : zSt) : zk2 (zsnd (fX10_power_a5 a b u s0)) = zk2 s0 := k2q_fX10_power_a5 a b u s0
theorem k2q_fX10_power_a6 (a : Int32) (b : Int32) (u : Int32) (s0 : zSt) : zk2s (fX10_power_a6 a b u s0) = zk2 s0 := by
  unfold fX10_power_a6
  (try dsimp only)
  all_goals (refine cond_keep (fun r : Int32 × zSt => zk2s r) _ ?_ ?_ <;> (simp only [zW_2, zL_2, k2_fX10_power_a2, k2_fX10_power_a5, k2q_fX10_power_a2, k2q_fX10_power_a5, zk2s_mk]; done))
theorem k2_fX10_power_a6 (a : Int32) (b : Int32) (u : Int32) (s0 : zSt) : zk2 (zsnd (fX10_power_a6 a b u s0)) = zk2 s0 := k2q_fX10_power_a6 a b u s0
theorem k2q_fX10_power (a : Int32) (b : Int32) (u : Int32) (s0 : zSt) : zk2s (fX10_power a b u s0) = zk2 s0 := by
  unfold fX10_power
  (try dsimp only)
  all_goals (refine cond_keep (fun r : Int32 × zSt => zk2s r) _ ?_ ?_ <;> (simp only [zW_2, zL_2, k2_fX10_power_a1, k2_fX10_power_a6, k2q_fX10_power_a1, k2q_fX10_power_a6, zk2s_mk]; done))
theorem k2_fX10_power (a : Int32) (b : Int32) (u : Int32) (s0 : zSt) : zk2 (zsnd (fX10_power a b u s0)) = zk2 s0 := k2q_fX10_power a b u s0
theorem i2_fX10_power (a : Int32) (b : Int32) (u : Int32) (s0 : zSt) (kk9 : Nat) : (zsnd (fX10_power a b u s0)).2.2 kk9 = s0.2.2 kk9 := z2_I (k2_fX10_power a b u s0) kk9
theorem i3_fX10_power (a : Int32) (b : Int32) (u : Int32) (s0 : zSt) (kk9 : Nat) : zi (zsnd (fX10_power a b u s0)) kk9 = zi s0 kk9 := zi_of (k2_fX10_power a b u s0) kk9

def fX10_root_a1 (s0 : zSt) : Int32 × zSt :=
    ((-101 : Int32), s0)
def fX10_root_a2 (u : Int32) (t12 : zSt) : Int32 × zSt :=
    let t15 := fX10_store u.toNatClampNeg 36 t12
    (nI (1), t15)
def fX10_root_a3 (u : Int32) (t12 : zSt) : Int32 × zSt :=
    let t17 := fX10_subtract 36 0 36 t12
    let t18 := fX10_store u.toNatClampNeg 36 t17
    (nI (1), t18)
def fX10_root_a4 (u : Int32) (t9 : zSt) : Int32 × zSt :=
    let t12 := zsnd (fX10_lowest 36 t9)
    if ¬ zfst (fX10_lowest 36 t9) = nI (1) then
      fX10_root_a2 u t12
    else
      fX10_root_a3 u t12
def fX10_root_a5 (t9 : zSt) : Int32 × zSt :=
    (nI (0), t9)
def fX10_root_a6 (a : Int32) (u : Int32) (s0 : zSt) : Int32 × zSt :=
    let t8 := fX10_load 40 a.toNatClampNeg s0
    let t9 := zsnd (fX10_roots 36 40 t8)
    bif (zfst (fX10_roots 36 40 t8)) then
      fX10_root_a4 u t9
    else
      fX10_root_a5 t9
def fX10_root_a7 (s0 : zSt) : Int32 × zSt :=
    ((-101 : Int32), s0)
def fX10_root_a8 (a : Int32) (u : Int32) (s0 : zSt) : Int32 × zSt :=
    bif (vX10_isSlot u s0) then
      fX10_root_a6 a u s0
    else
      fX10_root_a7 s0
def fX10_root (a : Int32) (u : Int32) (s0 : zSt) : Int32 × zSt :=
    bif (vX10_isSlot a s0) then
      fX10_root_a8 a u s0
    else
      fX10_root_a1 s0
set_option maxHeartbeats 4000000 in
set_option maxRecDepth 100000 in
theorem k_X10_root (l : Launch) (D : va_G) (kc : Nat → ClassId) (ad : Nat → Nat) (a : Int32) (u : Int32) (s0 : zSt) : zM l yX10_root cX10_root 3 (some .int) rX10_root (wM D kc ad) [.ref (zad (wM D kc ad) 17), .int a, .int u] s0 (zV1 (.int (zfst (fX10_root a u s0))) (zsnd (fX10_root a u s0))) := by
  refine z_of (own := RX10) (by decide +kernel) rfl (Nat.le_of_ble_eq_true rfl) ?_
  intro κ C R0
  refine j_at [(0, .ref (zad (wM D kc ad) 17)), (1, .int a), (2, .int u)] ⟨rfl, rfl, rfl, trivial⟩ ?_
  refine j_iload_n C dX10_root_0 rfl rfl ?_
  refine j_callS1 C dX10_root_1 (k_X10_isSlot l D kc ad (a) _ ) zy_X10_isSlot mw_15_3 rfl rfl (Nat.le_of_ble_eq_true rfl) ⟨rfl, rfl, Nat.le_of_ble_eq_true rfl, Nat.le_of_ble_eq_true rfl⟩ ?_
  refine j_if_eqB (tgt := 14) C dX10_root_4 (by decide) (fun q1 => ?_) (fun q1 => ?_)
  · have hA2 : fX10_root a u s0 = fX10_root_a1 s0 := by have q1z := q1; (try dsimp only at q1z); unfold fX10_root; (try dsimp only); rw [q1z, cond_false]; (try rfl)
    refine j_bipush (v := -101) C dX10_root_14 (by decide +kernel) ?_
    exact j_iret (st := []) C R0 dX10_root_16 ⟨(by rw [hA2]; unfold fX10_root_a1; (try dsimp only); all_goals ((try simp only [zfst_mk, zsnd_mk]); all_goals rfl)), ((by rw [hA2]; unfold fX10_root_a1; (try dsimp only); all_goals ((try simp only [zfst_mk, zsnd_mk]); all_goals rfl)))⟩
  · have hA3 : fX10_root a u s0 = fX10_root_a8 a u s0 := by have q1z := q1; (try dsimp only at q1z); unfold fX10_root; (try dsimp only); rw [q1z, cond_true]; (try rfl)
    refine j_iload_n C dX10_root_7 rfl rfl ?_
    refine j_callS1 C dX10_root_8 (k_X10_isSlot l D kc ad (u) _ ) zy_X10_isSlot mw_15_3 rfl rfl (Nat.le_of_ble_eq_true rfl) ⟨rfl, rfl, Nat.le_of_ble_eq_true rfl, Nat.le_of_ble_eq_true rfl⟩ ?_
    refine j_if_neB (tgt := 17) C dX10_root_11 (by decide) (fun q4 => ?_) (fun q4 => ?_)
    · have hA5 : fX10_root_a8 a u s0 = fX10_root_a6 a u s0 := by have q4z := q4; (try dsimp only at q4z); unfold fX10_root_a8; (try dsimp only); rw [q4z, cond_true]; (try rfl)
      have hc6 := msl_of (x := a) (by assumption)
      have hc6b := hc6.2
      have hc7 := msl_of (x := u) (by assumption)
      have hc7b := hc7.2
      refine j_at [(0, .ref (zad (wM D kc ad) 17)), (1, .int (nI (a.toNatClampNeg))), (2, .int (nI (u.toNatClampNeg)))] ⟨rfl, congrArg (fun q => some (Value.int q)) hc6.1, congrArg (fun q => some (Value.int q)) hc7.1, trivial⟩ ?_
      refine j_aload_n C dX10_root_17 rfl rfl ?_
      refine j_bipush (v := nI 40) C dX10_root_18 (by decide +kernel) ?_
      refine j_iload_n C dX10_root_20 rfl rfl ?_
      refine j_callV0 (T := TX10) (N := 23) C dX10_root_21 (k_X10_load l D kc ad 40 (by omega) a.toNatClampNeg (by omega) _ ) zy_X10_load mw_21_0 rfl rfl (Nat.zero_le _) (show 17 < 18 by decide) rfl rfl (Nat.le_of_ble_eq_true rfl) ⟨rfl, rfl, Nat.le_of_ble_eq_true rfl, Nat.le_of_ble_eq_true rfl⟩ ?_
      refine j_nmS (fun t8 et8 => ?_)
      refine j_aload_n C dX10_root_24 rfl rfl ?_
      refine j_bipush (v := nI 36) C dX10_root_25 (by decide +kernel) ?_
      refine j_bipush (v := nI 40) C dX10_root_27 (by decide +kernel) ?_
      refine j_callV1 (T := TX10) (N := 23) C dX10_root_29 (k_X10_roots l D kc ad 36 (by omega) 40 (by omega) _ ) zy_X10_roots mw_13_8 rfl rfl (Nat.zero_le _) (show 17 < 18 by decide) rfl rfl (Nat.le_of_ble_eq_true rfl) ⟨rfl, rfl, Nat.le_of_ble_eq_true rfl, Nat.le_of_ble_eq_true rfl⟩ ?_
      refine j_nmS (fun t9 et9 => ?_)
      refine j_if_neB (tgt := 37) C dX10_root_32 (by decide) (fun q10 => ?_) (fun q10 => ?_)
      · have hA11 : fX10_root_a6 a u s0 = fX10_root_a4 u t9 := by (try rw [et9]); (try rw [et8]); have q10z := q10; (try rw [et9] at q10z); (try rw [et8] at q10z); (try dsimp only at q10z); unfold fX10_root_a6; (try dsimp only); rw [q10z, cond_true]; (try rfl)
        refine j_aload_n C dX10_root_37 rfl rfl ?_
        refine j_bipush (v := nI 36) C dX10_root_38 (by decide +kernel) ?_
        refine j_callV1 (T := TX10) (N := 23) C dX10_root_40 (k_X10_lowest l D kc ad 36 (by omega) _ ) zy_X10_lowest mw_13_18 rfl rfl (Nat.zero_le _) (show 17 < 18 by decide) rfl rfl (Nat.le_of_ble_eq_true rfl) ⟨rfl, rfl, Nat.le_of_ble_eq_true rfl, Nat.le_of_ble_eq_true rfl⟩ ?_
        refine j_nmS (fun t12 et12 => ?_)
        refine j_iconst (v := nI 1) C dX10_root_43 (by decide +kernel) ?_
        refine j_icmp_ne (tgt := 56) C dX10_root_44 (by decide) (fun q13 => ?_) (fun q13 => ?_)
        · have hA14 : fX10_root_a4 u t9 = fX10_root_a2 u t12 := by (try rw [et12]); have q13z := q13; (try rw [et12] at q13z); (try dsimp only at q13z); unfold fX10_root_a4; (try dsimp only); rw [if_pos q13z]; (try rfl)
          refine j_aload_n C dX10_root_56 rfl rfl ?_
          refine j_iload_n C dX10_root_57 rfl rfl ?_
          refine j_bipush (v := nI 36) C dX10_root_58 (by decide +kernel) ?_
          refine j_callV0 (T := TX10) (N := 23) C dX10_root_60 (k_X10_store l D kc ad u.toNatClampNeg (by omega) 36 (by omega) _ ) zy_X10_store mw_21_4 rfl rfl (Nat.zero_le _) (show 17 < 18 by decide) rfl rfl (Nat.le_of_ble_eq_true rfl) ⟨rfl, rfl, Nat.le_of_ble_eq_true rfl, Nat.le_of_ble_eq_true rfl⟩ ?_
          refine j_nmS (fun t15 et15 => ?_)
          refine j_iconst (v := nI 1) C dX10_root_63 (by decide +kernel) ?_
          exact j_iret (st := []) C R0 dX10_root_64 ⟨(by rw [hA3, hA5, hA11, hA14]; (try rw [et15]); unfold fX10_root_a2; (try dsimp only); all_goals ((try simp only [zfst_mk, zsnd_mk]); all_goals rfl)), ((by rw [hA3, hA5, hA11, hA14]; (try rw [et15]); unfold fX10_root_a2; (try dsimp only); all_goals ((try simp only [zfst_mk, zsnd_mk]); all_goals rfl)))⟩
        · have hA16 : fX10_root_a4 u t9 = fX10_root_a3 u t12 := by (try rw [et12]); have q13z := q13; (try rw [et12] at q13z); (try dsimp only at q13z); unfold fX10_root_a4; (try dsimp only); rw [if_neg (fun z => z q13z)]; (try rfl)
          refine j_aload_n C dX10_root_47 rfl rfl ?_
          refine j_bipush (v := nI 36) C dX10_root_48 (by decide +kernel) ?_
          refine j_iconst (v := nI 0) C dX10_root_50 (by decide +kernel) ?_
          refine j_bipush (v := nI 36) C dX10_root_51 (by decide +kernel) ?_
          refine j_callV0 (T := TX10) (N := 23) C dX10_root_53 (k_X10_subtract l D kc ad 36 (by omega) 0 (by omega) 36 (by omega) _ ) zy_X10_subtract mw_11_17 rfl rfl (Nat.zero_le _) (show 17 < 18 by decide) rfl rfl (Nat.le_of_ble_eq_true rfl) ⟨rfl, rfl, Nat.le_of_ble_eq_true rfl, Nat.le_of_ble_eq_true rfl⟩ ?_
          refine j_nmS (fun t17 et17 => ?_)
          refine j_aload_n C dX10_root_56 rfl rfl ?_
          refine j_iload_n C dX10_root_57 rfl rfl ?_
          refine j_bipush (v := nI 36) C dX10_root_58 (by decide +kernel) ?_
          refine j_callV0 (T := TX10) (N := 23) C dX10_root_60 (k_X10_store l D kc ad u.toNatClampNeg (by omega) 36 (by omega) _ ) zy_X10_store mw_21_4 rfl rfl (Nat.zero_le _) (show 17 < 18 by decide) rfl rfl (Nat.le_of_ble_eq_true rfl) ⟨rfl, rfl, Nat.le_of_ble_eq_true rfl, Nat.le_of_ble_eq_true rfl⟩ ?_
          refine j_nmS (fun t18 et18 => ?_)
          refine j_iconst (v := nI 1) C dX10_root_63 (by decide +kernel) ?_
          exact j_iret (st := []) C R0 dX10_root_64 ⟨(by rw [hA3, hA5, hA11, hA16]; (try rw [et18]); (try rw [et17]); unfold fX10_root_a3; (try dsimp only); all_goals ((try simp only [zfst_mk, zsnd_mk]); all_goals rfl)), ((by rw [hA3, hA5, hA11, hA16]; (try rw [et18]); (try rw [et17]); unfold fX10_root_a3; (try dsimp only); all_goals ((try simp only [zfst_mk, zsnd_mk]); all_goals rfl)))⟩
      · have hA19 : fX10_root_a6 a u s0 = fX10_root_a5 t9 := by (try rw [et9]); (try rw [et8]); have q10z := q10; (try rw [et9] at q10z); (try rw [et8] at q10z); (try dsimp only at q10z); unfold fX10_root_a6; (try dsimp only); rw [q10z, cond_false]; (try rfl)
        refine j_iconst (v := nI 0) C dX10_root_35 (by decide +kernel) ?_
        exact j_iret (st := []) C R0 dX10_root_36 ⟨(by rw [hA3, hA5, hA19]; unfold fX10_root_a5; (try dsimp only); all_goals ((try simp only [zfst_mk, zsnd_mk]); all_goals rfl)), ((by rw [hA3, hA5, hA19]; unfold fX10_root_a5; (try dsimp only); all_goals ((try simp only [zfst_mk, zsnd_mk]); all_goals rfl)))⟩
    · have hA20 : fX10_root_a8 a u s0 = fX10_root_a7 s0 := by have q4z := q4; (try dsimp only at q4z); unfold fX10_root_a8; (try dsimp only); rw [q4z, cond_false]; (try rfl)
      refine j_bipush (v := -101) C dX10_root_14 (by decide +kernel) ?_
      exact j_iret (st := []) C R0 dX10_root_16 ⟨(by rw [hA3, hA20]; unfold fX10_root_a7; (try dsimp only); all_goals ((try simp only [zfst_mk, zsnd_mk]); all_goals rfl)), ((by rw [hA3, hA20]; unfold fX10_root_a7; (try dsimp only); all_goals ((try simp only [zfst_mk, zsnd_mk]); all_goals rfl)))⟩
theorem k2q_fX10_root_a1 (s0 : zSt) : zk2s (fX10_root_a1 s0) = zk2 s0 := by
  unfold fX10_root_a1
  (try dsimp only)
  all_goals (simp only [zW_2, zL_2, zk2s_mk]; done)
theorem k2_fX10_root_a1 (s0 : zSt) : zk2 (zsnd (fX10_root_a1 s0)) = zk2 s0 := k2q_fX10_root_a1 s0
theorem k2q_fX10_root_a2 (u : Int32) (t12 : zSt) : zk2s (fX10_root_a2 u t12) = zk2 t12 := by
  unfold fX10_root_a2
  (try dsimp only)
  all_goals (simp only [zW_2, zL_2, k2_fX10_store, zk2s_mk]; done)
theorem k2_fX10_root_a2 (u : Int32) (t12 : zSt) : zk2 (zsnd (fX10_root_a2 u t12)) = zk2 t12 := k2q_fX10_root_a2 u t12
theorem k2q_fX10_root_a3 (u : Int32) (t12 : zSt) : zk2s (fX10_root_a3 u t12) = zk2 t12 := by
  unfold fX10_root_a3
  (try dsimp only)
  all_goals (simp only [zW_2, zL_2, k2_fX10_store, k2_fX10_subtract, zk2s_mk]; done)
theorem k2_fX10_root_a3 (u : Int32) (t12 : zSt) : zk2 (zsnd (fX10_root_a3 u t12)) = zk2 t12 := k2q_fX10_root_a3 u t12
theorem k2q_fX10_root_a4 (u : Int32) (t9 : zSt) : zk2s (fX10_root_a4 u t9) = zk2 t9 := by
  unfold fX10_root_a4
  (try dsimp only)
  all_goals (refine ite_keep (fun r : Int32 × zSt => zk2s r) _ _ ?_ ?_ <;> (simp only [zW_2, zL_2, k2_fX10_lowest, k2_fX10_root_a2, k2_fX10_root_a3, k2q_fX10_lowest, k2q_fX10_root_a2, k2q_fX10_root_a3, zk2s_mk]; done))
theorem k2_fX10_root_a4 (u : Int32) (t9 : zSt) : zk2 (zsnd (fX10_root_a4 u t9)) = zk2 t9 := k2q_fX10_root_a4 u t9
theorem k2q_fX10_root_a5 (t9 : zSt) : zk2s (fX10_root_a5 t9) = zk2 t9 := by
  unfold fX10_root_a5
  (try dsimp only)
  all_goals (simp only [zW_2, zL_2, zk2s_mk]; done)
theorem k2_fX10_root_a5 (t9 : zSt) : zk2 (zsnd (fX10_root_a5 t9)) = zk2 t9 := k2q_fX10_root_a5 t9
theorem k2q_fX10_root_a6 (a : Int32) (u : Int32) (s0 : zSt) : zk2s (fX10_root_a6 a u s0) = zk2 s0 := by
  unfold fX10_root_a6
  (try dsimp only)
  all_goals (refine cond_keep (fun r : Int32 × zSt => zk2s r) _ ?_ ?_ <;> (simp only [zW_2, zL_2, k2_fX10_load, k2_fX10_root_a4, k2_fX10_root_a5, k2_fX10_roots, k2q_fX10_root_a4, k2q_fX10_root_a5, k2q_fX10_roots, zk2s_mk]; done))
theorem k2_fX10_root_a6 (a : Int32) (u : Int32) (s0 : zSt) : zk2 (zsnd (fX10_root_a6 a u s0)) = zk2 s0 := k2q_fX10_root_a6 a u s0
theorem k2q_fX10_root_a7 (s0 : zSt) : zk2s (fX10_root_a7 s0) = zk2 s0 := by
  unfold fX10_root_a7
  (try dsimp only)
  all_goals (simp only [zW_2, zL_2, zk2s_mk]; done)
theorem k2_fX10_root_a7 (s0 : zSt) : zk2 (zsnd (fX10_root_a7 s0)) = zk2 s0 := k2q_fX10_root_a7 s0
theorem k2q_fX10_root_a8 (a : Int32) (u : Int32) (s0 : zSt) : zk2s (fX10_root_a8 a u s0) = zk2 s0 := by
  unfold fX10_root_a8
  (try dsimp only)
  all_goals (refine cond_keep (fun r : Int32 × zSt => zk2s r) _ ?_ ?_ <;> (simp only [zW_2, zL_2, k2_fX10_root_a6, k2_fX10_root_a7, k2q_fX10_root_a6, k2q_fX10_root_a7, zk2s_mk]; done))
theorem k2_fX10_root_a8 (a : Int32) (u : Int32) (s0 : zSt) : zk2 (zsnd (fX10_root_a8 a u s0)) = zk2 s0 := k2q_fX10_root_a8 a u s0
theorem k2q_fX10_root (a : Int32) (u : Int32) (s0 : zSt) : zk2s (fX10_root a u s0) = zk2 s0 := by
  unfold fX10_root
  (try dsimp only)
  all_goals (refine cond_keep (fun r : Int32 × zSt => zk2s r) _ ?_ ?_ <;> (simp only [zW_2, zL_2, k2_fX10_root_a1, k2_fX10_root_a8, k2q_fX10_root_a1, k2q_fX10_root_a8, zk2s_mk]; done))
theorem k2_fX10_root (a : Int32) (u : Int32) (s0 : zSt) : zk2 (zsnd (fX10_root a u s0)) = zk2 s0 := k2q_fX10_root a u s0
theorem i2_fX10_root (a : Int32) (u : Int32) (s0 : zSt) (kk9 : Nat) : (zsnd (fX10_root a u s0)).2.2 kk9 = s0.2.2 kk9 := z2_I (k2_fX10_root a u s0) kk9
theorem i3_fX10_root (a : Int32) (u : Int32) (s0 : zSt) (kk9 : Nat) : zi (zsnd (fX10_root a u s0)) kk9 = zi s0 kk9 := zi_of (k2_fX10_root a u s0) kk9

def fX10_compare_a1 (s0 : zSt) : Int32 × zSt :=
    ((-101 : Int32), s0)
def fX10_compare_a2 (a : Int32) (b : Int32) (s0 : zSt) : Int32 × zSt :=
    let t8 := fX10_fromSlot 4 a.toNatClampNeg s0
    let t9 := fX10_fromSlot 8 b.toNatClampNeg t8
    (vX10_against 4 8 t9, t9)
def fX10_compare_a3 (s0 : zSt) : Int32 × zSt :=
    ((-101 : Int32), s0)
def fX10_compare_a4 (a : Int32) (b : Int32) (s0 : zSt) : Int32 × zSt :=
    bif (vX10_isSlot b s0) then
      fX10_compare_a2 a b s0
    else
      fX10_compare_a3 s0
def fX10_compare (a : Int32) (b : Int32) (s0 : zSt) : Int32 × zSt :=
    bif (vX10_isSlot a s0) then
      fX10_compare_a4 a b s0
    else
      fX10_compare_a1 s0
set_option maxHeartbeats 4000000 in
set_option maxRecDepth 100000 in
theorem k_X10_compare (l : Launch) (D : va_G) (kc : Nat → ClassId) (ad : Nat → Nat) (a : Int32) (b : Int32) (s0 : zSt) : zM l yX10_compare cX10_compare 3 (some .int) rX10_compare (wM D kc ad) [.ref (zad (wM D kc ad) 17), .int a, .int b] s0 (zV1 (.int (zfst (fX10_compare a b s0))) (zsnd (fX10_compare a b s0))) := by
  refine z_of (own := RX10) (by decide +kernel) rfl (Nat.le_of_ble_eq_true rfl) ?_
  intro κ C R0
  refine j_at [(0, .ref (zad (wM D kc ad) 17)), (1, .int a), (2, .int b)] ⟨rfl, rfl, rfl, trivial⟩ ?_
  refine j_iload_n C dX10_compare_0 rfl rfl ?_
  refine j_callS1 C dX10_compare_1 (k_X10_isSlot l D kc ad (a) _ ) zy_X10_isSlot mw_15_3 rfl rfl (Nat.le_of_ble_eq_true rfl) ⟨rfl, rfl, Nat.le_of_ble_eq_true rfl, Nat.le_of_ble_eq_true rfl⟩ ?_
  refine j_if_eqB (tgt := 14) C dX10_compare_4 (by decide) (fun q1 => ?_) (fun q1 => ?_)
  · have hA2 : fX10_compare a b s0 = fX10_compare_a1 s0 := by have q1z := q1; (try dsimp only at q1z); unfold fX10_compare; (try dsimp only); rw [q1z, cond_false]; (try rfl)
    refine j_bipush (v := -101) C dX10_compare_14 (by decide +kernel) ?_
    exact j_iret (st := []) C R0 dX10_compare_16 ⟨(by rw [hA2]; unfold fX10_compare_a1; (try dsimp only); all_goals ((try simp only [zfst_mk, zsnd_mk]); all_goals rfl)), ((by rw [hA2]; unfold fX10_compare_a1; (try dsimp only); all_goals ((try simp only [zfst_mk, zsnd_mk]); all_goals rfl)))⟩
  · have hA3 : fX10_compare a b s0 = fX10_compare_a4 a b s0 := by have q1z := q1; (try dsimp only at q1z); unfold fX10_compare; (try dsimp only); rw [q1z, cond_true]; (try rfl)
    refine j_iload_n C dX10_compare_7 rfl rfl ?_
    refine j_callS1 C dX10_compare_8 (k_X10_isSlot l D kc ad (b) _ ) zy_X10_isSlot mw_15_3 rfl rfl (Nat.le_of_ble_eq_true rfl) ⟨rfl, rfl, Nat.le_of_ble_eq_true rfl, Nat.le_of_ble_eq_true rfl⟩ ?_
    refine j_if_neB (tgt := 17) C dX10_compare_11 (by decide) (fun q4 => ?_) (fun q4 => ?_)
    · have hA5 : fX10_compare_a4 a b s0 = fX10_compare_a2 a b s0 := by have q4z := q4; (try dsimp only at q4z); unfold fX10_compare_a4; (try dsimp only); rw [q4z, cond_true]; (try rfl)
      have hc6 := msl_of (x := a) (by assumption)
      have hc6b := hc6.2
      have hc7 := msl_of (x := b) (by assumption)
      have hc7b := hc7.2
      refine j_at [(0, .ref (zad (wM D kc ad) 17)), (1, .int (nI (a.toNatClampNeg))), (2, .int (nI (b.toNatClampNeg)))] ⟨rfl, congrArg (fun q => some (Value.int q)) hc6.1, congrArg (fun q => some (Value.int q)) hc7.1, trivial⟩ ?_
      refine j_aload_n C dX10_compare_17 rfl rfl ?_
      refine j_iconst (v := nI 4) C dX10_compare_18 (by decide +kernel) ?_
      refine j_iload_n C dX10_compare_19 rfl rfl ?_
      refine j_callV0 (T := TX10) (N := 23) C dX10_compare_20 (k_X10_fromSlot l D kc ad 4 (by omega) a.toNatClampNeg (by omega) _ ) zy_X10_fromSlot mw_16_9 rfl rfl (Nat.zero_le _) (show 17 < 18 by decide) rfl rfl (Nat.le_of_ble_eq_true rfl) ⟨rfl, rfl, Nat.le_of_ble_eq_true rfl, Nat.le_of_ble_eq_true rfl⟩ ?_
      refine j_nmS (fun t8 et8 => ?_)
      refine j_aload_n C dX10_compare_23 rfl rfl ?_
      refine j_bipush (v := nI 8) C dX10_compare_24 (by decide +kernel) ?_
      refine j_iload_n C dX10_compare_26 rfl rfl ?_
      refine j_callV0 (T := TX10) (N := 23) C dX10_compare_27 (k_X10_fromSlot l D kc ad 8 (by omega) b.toNatClampNeg (by omega) _ ) zy_X10_fromSlot mw_16_9 rfl rfl (Nat.zero_le _) (show 17 < 18 by decide) rfl rfl (Nat.le_of_ble_eq_true rfl) ⟨rfl, rfl, Nat.le_of_ble_eq_true rfl, Nat.le_of_ble_eq_true rfl⟩ ?_
      refine j_nmS (fun t9 et9 => ?_)
      refine j_aload_n C dX10_compare_30 rfl rfl ?_
      refine j_iconst (v := nI 4) C dX10_compare_31 (by decide +kernel) ?_
      refine j_bipush (v := nI 8) C dX10_compare_32 (by decide +kernel) ?_
      refine j_callV1 (T := TX10) (N := 23) C dX10_compare_34 (k_X10_against l D kc ad 4 (by omega) 8 (by omega) _ ) zy_X10_against mw_12_20 rfl rfl (Nat.zero_le _) (show 17 < 18 by decide) rfl rfl (Nat.le_of_ble_eq_true rfl) ⟨rfl, rfl, Nat.le_of_ble_eq_true rfl, Nat.le_of_ble_eq_true rfl⟩ ?_
      exact j_iret (st := []) C R0 dX10_compare_37 ⟨(by rw [hA3, hA5]; (try rw [et9]); (try rw [et8]); unfold fX10_compare_a2; (try dsimp only); all_goals ((try simp only [zfst_mk, zsnd_mk]); all_goals rfl)), ((by rw [hA3, hA5]; (try rw [et9]); (try rw [et8]); unfold fX10_compare_a2; (try dsimp only); all_goals ((try simp only [zfst_mk, zsnd_mk]); all_goals rfl)))⟩
    · have hA10 : fX10_compare_a4 a b s0 = fX10_compare_a3 s0 := by have q4z := q4; (try dsimp only at q4z); unfold fX10_compare_a4; (try dsimp only); rw [q4z, cond_false]; (try rfl)
      refine j_bipush (v := -101) C dX10_compare_14 (by decide +kernel) ?_
      exact j_iret (st := []) C R0 dX10_compare_16 ⟨(by rw [hA3, hA10]; unfold fX10_compare_a3; (try dsimp only); all_goals ((try simp only [zfst_mk, zsnd_mk]); all_goals rfl)), ((by rw [hA3, hA10]; unfold fX10_compare_a3; (try dsimp only); all_goals ((try simp only [zfst_mk, zsnd_mk]); all_goals rfl)))⟩
theorem k2q_fX10_compare_a1 (s0 : zSt) : zk2s (fX10_compare_a1 s0) = zk2 s0 := by
  unfold fX10_compare_a1
  (try dsimp only)
  all_goals (simp only [zW_2, zL_2, zk2s_mk]; done)
theorem k2_fX10_compare_a1 (s0 : zSt) : zk2 (zsnd (fX10_compare_a1 s0)) = zk2 s0 := k2q_fX10_compare_a1 s0
theorem k2q_fX10_compare_a2 (a : Int32) (b : Int32) (s0 : zSt) : zk2s (fX10_compare_a2 a b s0) = zk2 s0 := by
  unfold fX10_compare_a2
  (try dsimp only)
  all_goals (simp only [zW_2, zL_2, k2_fX10_fromSlot, zk2s_mk]; done)
theorem k2_fX10_compare_a2 (a : Int32) (b : Int32) (s0 : zSt) : zk2 (zsnd (fX10_compare_a2 a b s0)) = zk2 s0 := k2q_fX10_compare_a2 a b s0
theorem k2q_fX10_compare_a3 (s0 : zSt) : zk2s (fX10_compare_a3 s0) = zk2 s0 := by
  unfold fX10_compare_a3
  (try dsimp only)
  all_goals (simp only [zW_2, zL_2, zk2s_mk]; done)
theorem k2_fX10_compare_a3 (s0 : zSt) : zk2 (zsnd (fX10_compare_a3 s0)) = zk2 s0 := k2q_fX10_compare_a3 s0
theorem k2q_fX10_compare_a4 (a : Int32) (b : Int32) (s0 : zSt) : zk2s (fX10_compare_a4 a b s0) = zk2 s0 := by
  unfold fX10_compare_a4
  (try dsimp only)
  all_goals (refine cond_keep (fun r : Int32 × zSt => zk2s r) _ ?_ ?_ <;> (simp only [zW_2, zL_2, k2_fX10_compare_a2, k2_fX10_compare_a3, k2q_fX10_compare_a2, k2q_fX10_compare_a3, zk2s_mk]; done))
theorem k2_fX10_compare_a4 (a : Int32) (b : Int32) (s0 : zSt) : zk2 (zsnd (fX10_compare_a4 a b s0)) = zk2 s0 := k2q_fX10_compare_a4 a b s0
theorem k2q_fX10_compare (a : Int32) (b : Int32) (s0 : zSt) : zk2s (fX10_compare a b s0) = zk2 s0 := by
  unfold fX10_compare
  (try dsimp only)
  all_goals (refine cond_keep (fun r : Int32 × zSt => zk2s r) _ ?_ ?_ <;> (simp only [zW_2, zL_2, k2_fX10_compare_a1, k2_fX10_compare_a4, k2q_fX10_compare_a1, k2q_fX10_compare_a4, zk2s_mk]; done))
theorem k2_fX10_compare (a : Int32) (b : Int32) (s0 : zSt) : zk2 (zsnd (fX10_compare a b s0)) = zk2 s0 := k2q_fX10_compare a b s0
theorem i2_fX10_compare (a : Int32) (b : Int32) (s0 : zSt) (kk9 : Nat) : (zsnd (fX10_compare a b s0)).2.2 kk9 = s0.2.2 kk9 := z2_I (k2_fX10_compare a b s0) kk9
theorem i3_fX10_compare (a : Int32) (b : Int32) (s0 : zSt) (kk9 : Nat) : zi (zsnd (fX10_compare a b s0)) kk9 = zi s0 kk9 := zi_of (k2_fX10_compare a b s0) kk9

def fX10_scalar_a1 (s0 : zSt) : Int32 × zSt :=
    ((-101 : Int32), s0)
def fX10_scalar_a2 (s0 : zSt) : Int32 × zSt :=
    ((-101 : Int32), s0)
def fX10_scalar_a3 (s0 : zSt) : Int32 × zSt :=
    ((-101 : Int32), s0)
def fX10_scalar_a4 (a : Int32) (b : Int32) (c0 : Int32) (u : Int32) (s0 : zSt) : Int32 × zSt :=
    let t16 := fX10_fromSlot 4 a.toNatClampNeg s0
    let t17 := fX10_fromSlot 8 b.toNatClampNeg t16
    let t18 := fX10_fromSlot 12 c0.toNatClampNeg t17
    let t19 := fX10_scalarOf 16 4 8 12 t18
    let t20 := fX10_toSlot u.toNatClampNeg 16 t19
    (nI (1), t20)
def fX10_scalar_a5 (s0 : zSt) : Int32 × zSt :=
    ((-101 : Int32), s0)
def fX10_scalar_a6 (a : Int32) (b : Int32) (c0 : Int32) (u : Int32) (s0 : zSt) : Int32 × zSt :=
    bif (vX10_isSlot u s0) then
      fX10_scalar_a4 a b c0 u s0
    else
      fX10_scalar_a5 s0
def fX10_scalar_a7 (a : Int32) (b : Int32) (c0 : Int32) (u : Int32) (s0 : zSt) : Int32 × zSt :=
    bif (vX10_isSlot c0 s0) then
      fX10_scalar_a6 a b c0 u s0
    else
      fX10_scalar_a3 s0
def fX10_scalar_a8 (a : Int32) (b : Int32) (c0 : Int32) (u : Int32) (s0 : zSt) : Int32 × zSt :=
    bif (vX10_isSlot b s0) then
      fX10_scalar_a7 a b c0 u s0
    else
      fX10_scalar_a2 s0
def fX10_scalar (a : Int32) (b : Int32) (c0 : Int32) (u : Int32) (s0 : zSt) : Int32 × zSt :=
    bif (vX10_isSlot a s0) then
      fX10_scalar_a8 a b c0 u s0
    else
      fX10_scalar_a1 s0
set_option maxHeartbeats 4000000 in
set_option maxRecDepth 100000 in
theorem k_X10_scalar (l : Launch) (D : va_G) (kc : Nat → ClassId) (ad : Nat → Nat) (a : Int32) (b : Int32) (c0 : Int32) (u : Int32) (s0 : zSt) : zM l yX10_scalar cX10_scalar 5 (some .int) rX10_scalar (wM D kc ad) [.ref (zad (wM D kc ad) 17), .int a, .int b, .int c0, .int u] s0 (zV1 (.int (zfst (fX10_scalar a b c0 u s0))) (zsnd (fX10_scalar a b c0 u s0))) := by
  refine z_of (own := RX10) (by decide +kernel) rfl (Nat.le_of_ble_eq_true rfl) ?_
  intro κ C R0
  refine j_at [(0, .ref (zad (wM D kc ad) 17)), (1, .int a), (2, .int b), (3, .int c0), (4, .int u)] ⟨rfl, rfl, rfl, rfl, rfl, trivial⟩ ?_
  refine j_iload_n C dX10_scalar_0 rfl rfl ?_
  refine j_callS1 C dX10_scalar_1 (k_X10_isSlot l D kc ad (a) _ ) zy_X10_isSlot mw_15_3 rfl rfl (Nat.le_of_ble_eq_true rfl) ⟨rfl, rfl, Nat.le_of_ble_eq_true rfl, Nat.le_of_ble_eq_true rfl⟩ ?_
  refine j_if_eqB (tgt := 29) C dX10_scalar_4 (by decide) (fun q1 => ?_) (fun q1 => ?_)
  · have hA2 : fX10_scalar a b c0 u s0 = fX10_scalar_a1 s0 := by have q1z := q1; (try dsimp only at q1z); unfold fX10_scalar; (try dsimp only); rw [q1z, cond_false]; (try rfl)
    refine j_bipush (v := -101) C dX10_scalar_29 (by decide +kernel) ?_
    exact j_iret (st := []) C R0 dX10_scalar_31 ⟨(by rw [hA2]; unfold fX10_scalar_a1; (try dsimp only); all_goals ((try simp only [zfst_mk, zsnd_mk]); all_goals rfl)), ((by rw [hA2]; unfold fX10_scalar_a1; (try dsimp only); all_goals ((try simp only [zfst_mk, zsnd_mk]); all_goals rfl)))⟩
  · have hA3 : fX10_scalar a b c0 u s0 = fX10_scalar_a8 a b c0 u s0 := by have q1z := q1; (try dsimp only at q1z); unfold fX10_scalar; (try dsimp only); rw [q1z, cond_true]; (try rfl)
    refine j_iload_n C dX10_scalar_7 rfl rfl ?_
    refine j_callS1 C dX10_scalar_8 (k_X10_isSlot l D kc ad (b) _ ) zy_X10_isSlot mw_15_3 rfl rfl (Nat.le_of_ble_eq_true rfl) ⟨rfl, rfl, Nat.le_of_ble_eq_true rfl, Nat.le_of_ble_eq_true rfl⟩ ?_
    refine j_if_eqB (tgt := 29) C dX10_scalar_11 (by decide) (fun q4 => ?_) (fun q4 => ?_)
    · have hA5 : fX10_scalar_a8 a b c0 u s0 = fX10_scalar_a2 s0 := by have q4z := q4; (try dsimp only at q4z); unfold fX10_scalar_a8; (try dsimp only); rw [q4z, cond_false]; (try rfl)
      refine j_bipush (v := -101) C dX10_scalar_29 (by decide +kernel) ?_
      exact j_iret (st := []) C R0 dX10_scalar_31 ⟨(by rw [hA3, hA5]; unfold fX10_scalar_a2; (try dsimp only); all_goals ((try simp only [zfst_mk, zsnd_mk]); all_goals rfl)), ((by rw [hA3, hA5]; unfold fX10_scalar_a2; (try dsimp only); all_goals ((try simp only [zfst_mk, zsnd_mk]); all_goals rfl)))⟩
    · have hA6 : fX10_scalar_a8 a b c0 u s0 = fX10_scalar_a7 a b c0 u s0 := by have q4z := q4; (try dsimp only at q4z); unfold fX10_scalar_a8; (try dsimp only); rw [q4z, cond_true]; (try rfl)
      refine j_iload_n C dX10_scalar_14 rfl rfl ?_
      refine j_callS1 C dX10_scalar_15 (k_X10_isSlot l D kc ad (c0) _ ) zy_X10_isSlot mw_15_3 rfl rfl (Nat.le_of_ble_eq_true rfl) ⟨rfl, rfl, Nat.le_of_ble_eq_true rfl, Nat.le_of_ble_eq_true rfl⟩ ?_
      refine j_if_eqB (tgt := 29) C dX10_scalar_18 (by decide) (fun q7 => ?_) (fun q7 => ?_)
      · have hA8 : fX10_scalar_a7 a b c0 u s0 = fX10_scalar_a3 s0 := by have q7z := q7; (try dsimp only at q7z); unfold fX10_scalar_a7; (try dsimp only); rw [q7z, cond_false]; (try rfl)
        refine j_bipush (v := -101) C dX10_scalar_29 (by decide +kernel) ?_
        exact j_iret (st := []) C R0 dX10_scalar_31 ⟨(by rw [hA3, hA6, hA8]; unfold fX10_scalar_a3; (try dsimp only); all_goals ((try simp only [zfst_mk, zsnd_mk]); all_goals rfl)), ((by rw [hA3, hA6, hA8]; unfold fX10_scalar_a3; (try dsimp only); all_goals ((try simp only [zfst_mk, zsnd_mk]); all_goals rfl)))⟩
      · have hA9 : fX10_scalar_a7 a b c0 u s0 = fX10_scalar_a6 a b c0 u s0 := by have q7z := q7; (try dsimp only at q7z); unfold fX10_scalar_a7; (try dsimp only); rw [q7z, cond_true]; (try rfl)
        refine j_iload C dX10_scalar_21 rfl ?_
        refine j_callS1 C dX10_scalar_23 (k_X10_isSlot l D kc ad (u) _ ) zy_X10_isSlot mw_15_3 rfl rfl (Nat.le_of_ble_eq_true rfl) ⟨rfl, rfl, Nat.le_of_ble_eq_true rfl, Nat.le_of_ble_eq_true rfl⟩ ?_
        refine j_if_neB (tgt := 32) C dX10_scalar_26 (by decide) (fun q10 => ?_) (fun q10 => ?_)
        · have hA11 : fX10_scalar_a6 a b c0 u s0 = fX10_scalar_a4 a b c0 u s0 := by have q10z := q10; (try dsimp only at q10z); unfold fX10_scalar_a6; (try dsimp only); rw [q10z, cond_true]; (try rfl)
          have hc12 := msl_of (x := a) (by assumption)
          have hc12b := hc12.2
          have hc13 := msl_of (x := b) (by assumption)
          have hc13b := hc13.2
          have hc14 := msl_of (x := c0) (by assumption)
          have hc14b := hc14.2
          have hc15 := msl_of (x := u) (by assumption)
          have hc15b := hc15.2
          refine j_at [(0, .ref (zad (wM D kc ad) 17)), (1, .int (nI (a.toNatClampNeg))), (2, .int (nI (b.toNatClampNeg))), (3, .int (nI (c0.toNatClampNeg))), (4, .int (nI (u.toNatClampNeg)))] ⟨rfl, congrArg (fun q => some (Value.int q)) hc12.1, congrArg (fun q => some (Value.int q)) hc13.1, congrArg (fun q => some (Value.int q)) hc14.1, congrArg (fun q => some (Value.int q)) hc15.1, trivial⟩ ?_
          refine j_aload_n C dX10_scalar_32 rfl rfl ?_
          refine j_iconst (v := nI 4) C dX10_scalar_33 (by decide +kernel) ?_
          refine j_iload_n C dX10_scalar_34 rfl rfl ?_
          refine j_callV0 (T := TX10) (N := 23) C dX10_scalar_35 (k_X10_fromSlot l D kc ad 4 (by omega) a.toNatClampNeg (by omega) _ ) zy_X10_fromSlot mw_16_9 rfl rfl (Nat.zero_le _) (show 17 < 18 by decide) rfl rfl (Nat.le_of_ble_eq_true rfl) ⟨rfl, rfl, Nat.le_of_ble_eq_true rfl, Nat.le_of_ble_eq_true rfl⟩ ?_
          refine j_nmS (fun t16 et16 => ?_)
          refine j_aload_n C dX10_scalar_38 rfl rfl ?_
          refine j_bipush (v := nI 8) C dX10_scalar_39 (by decide +kernel) ?_
          refine j_iload_n C dX10_scalar_41 rfl rfl ?_
          refine j_callV0 (T := TX10) (N := 23) C dX10_scalar_42 (k_X10_fromSlot l D kc ad 8 (by omega) b.toNatClampNeg (by omega) _ ) zy_X10_fromSlot mw_16_9 rfl rfl (Nat.zero_le _) (show 17 < 18 by decide) rfl rfl (Nat.le_of_ble_eq_true rfl) ⟨rfl, rfl, Nat.le_of_ble_eq_true rfl, Nat.le_of_ble_eq_true rfl⟩ ?_
          refine j_nmS (fun t17 et17 => ?_)
          refine j_aload_n C dX10_scalar_45 rfl rfl ?_
          refine j_bipush (v := nI 12) C dX10_scalar_46 (by decide +kernel) ?_
          refine j_iload_n C dX10_scalar_48 rfl rfl ?_
          refine j_callV0 (T := TX10) (N := 23) C dX10_scalar_49 (k_X10_fromSlot l D kc ad 12 (by omega) c0.toNatClampNeg (by omega) _ ) zy_X10_fromSlot mw_16_9 rfl rfl (Nat.zero_le _) (show 17 < 18 by decide) rfl rfl (Nat.le_of_ble_eq_true rfl) ⟨rfl, rfl, Nat.le_of_ble_eq_true rfl, Nat.le_of_ble_eq_true rfl⟩ ?_
          refine j_nmS (fun t18 et18 => ?_)
          refine j_aload_n C dX10_scalar_52 rfl rfl ?_
          refine j_bipush (v := nI 16) C dX10_scalar_53 (by decide +kernel) ?_
          refine j_iconst (v := nI 4) C dX10_scalar_55 (by decide +kernel) ?_
          refine j_bipush (v := nI 8) C dX10_scalar_56 (by decide +kernel) ?_
          refine j_bipush (v := nI 12) C dX10_scalar_58 (by decide +kernel) ?_
          refine j_callV0 (T := TX10) (N := 23) C dX10_scalar_60 (k_X10_scalarOf l D kc ad 16 (by omega) 4 (by omega) 8 (by omega) 12 (by omega) _ ) zy_X10_scalarOf mw_25_10 rfl rfl (Nat.zero_le _) (show 17 < 18 by decide) rfl rfl (Nat.le_of_ble_eq_true rfl) ⟨rfl, rfl, Nat.le_of_ble_eq_true rfl, Nat.le_of_ble_eq_true rfl⟩ ?_
          refine j_nmS (fun t19 et19 => ?_)
          refine j_aload_n C dX10_scalar_63 rfl rfl ?_
          refine j_iload C dX10_scalar_64 rfl ?_
          refine j_bipush (v := nI 16) C dX10_scalar_66 (by decide +kernel) ?_
          refine j_callV0 (T := TX10) (N := 23) C dX10_scalar_68 (k_X10_toSlot l D kc ad u.toNatClampNeg (by omega) 16 (by omega) _ ) zy_X10_toSlot mw_16_13 rfl rfl (Nat.zero_le _) (show 17 < 18 by decide) rfl rfl (Nat.le_of_ble_eq_true rfl) ⟨rfl, rfl, Nat.le_of_ble_eq_true rfl, Nat.le_of_ble_eq_true rfl⟩ ?_
          refine j_nmS (fun t20 et20 => ?_)
          refine j_iconst (v := nI 1) C dX10_scalar_71 (by decide +kernel) ?_
          exact j_iret (st := []) C R0 dX10_scalar_72 ⟨(by rw [hA3, hA6, hA9, hA11]; (try rw [et20]); (try rw [et19]); (try rw [et18]); (try rw [et17]); (try rw [et16]); unfold fX10_scalar_a4; (try dsimp only); all_goals ((try simp only [zfst_mk, zsnd_mk]); all_goals rfl)), ((by rw [hA3, hA6, hA9, hA11]; (try rw [et20]); (try rw [et19]); (try rw [et18]); (try rw [et17]); (try rw [et16]); unfold fX10_scalar_a4; (try dsimp only); all_goals ((try simp only [zfst_mk, zsnd_mk]); all_goals rfl)))⟩
        · have hA21 : fX10_scalar_a6 a b c0 u s0 = fX10_scalar_a5 s0 := by have q10z := q10; (try dsimp only at q10z); unfold fX10_scalar_a6; (try dsimp only); rw [q10z, cond_false]; (try rfl)
          refine j_bipush (v := -101) C dX10_scalar_29 (by decide +kernel) ?_
          exact j_iret (st := []) C R0 dX10_scalar_31 ⟨(by rw [hA3, hA6, hA9, hA21]; unfold fX10_scalar_a5; (try dsimp only); all_goals ((try simp only [zfst_mk, zsnd_mk]); all_goals rfl)), ((by rw [hA3, hA6, hA9, hA21]; unfold fX10_scalar_a5; (try dsimp only); all_goals ((try simp only [zfst_mk, zsnd_mk]); all_goals rfl)))⟩
theorem k2q_fX10_scalar_a1 (s0 : zSt) : zk2s (fX10_scalar_a1 s0) = zk2 s0 := by
  unfold fX10_scalar_a1
  (try dsimp only)
  all_goals (simp only [zW_2, zL_2, zk2s_mk]; done)
theorem k2_fX10_scalar_a1 (s0 : zSt) : zk2 (zsnd (fX10_scalar_a1 s0)) = zk2 s0 := k2q_fX10_scalar_a1 s0
theorem k2q_fX10_scalar_a2 (s0 : zSt) : zk2s (fX10_scalar_a2 s0) = zk2 s0 := by
  unfold fX10_scalar_a2
  (try dsimp only)
  all_goals (simp only [zW_2, zL_2, zk2s_mk]; done)
theorem k2_fX10_scalar_a2 (s0 : zSt) : zk2 (zsnd (fX10_scalar_a2 s0)) = zk2 s0 := k2q_fX10_scalar_a2 s0
theorem k2q_fX10_scalar_a3 (s0 : zSt) : zk2s (fX10_scalar_a3 s0) = zk2 s0 := by
  unfold fX10_scalar_a3
  (try dsimp only)
  all_goals (simp only [zW_2, zL_2, zk2s_mk]; done)
theorem k2_fX10_scalar_a3 (s0 : zSt) : zk2 (zsnd (fX10_scalar_a3 s0)) = zk2 s0 := k2q_fX10_scalar_a3 s0
theorem k2q_fX10_scalar_a4 (a : Int32) (b : Int32) (c0 : Int32) (u : Int32) (s0 : zSt) : zk2s (fX10_scalar_a4 a b c0 u s0) = zk2 s0 := by
  unfold fX10_scalar_a4
  (try dsimp only)
  all_goals (simp only [zW_2, zL_2, k2_fX10_fromSlot, k2_fX10_scalarOf, k2_fX10_toSlot, zk2s_mk]; done)
theorem k2_fX10_scalar_a4 (a : Int32) (b : Int32) (c0 : Int32) (u : Int32) (s0 : zSt) : zk2 (zsnd (fX10_scalar_a4 a b c0 u s0)) = zk2 s0 := k2q_fX10_scalar_a4 a b c0 u s0
theorem k2q_fX10_scalar_a5 (s0 : zSt) : zk2s (fX10_scalar_a5 s0) = zk2 s0 := by
  unfold fX10_scalar_a5
  (try dsimp only)
  all_goals (simp only [zW_2, zL_2, zk2s_mk]; done)
theorem k2_fX10_scalar_a5 (s0 : zSt) : zk2 (zsnd (fX10_scalar_a5 s0)) = zk2 s0 := k2q_fX10_scalar_a5 s0
theorem k2q_fX10_scalar_a6 (a : Int32) (b : Int32) (c0 : Int32) (u : Int32) (s0 : zSt) : zk2s (fX10_scalar_a6 a b c0 u s0) = zk2 s0 := by
  unfold fX10_scalar_a6
  (try dsimp only)
  all_goals (refine cond_keep (fun r : Int32 × zSt => zk2s r) _ ?_ ?_ <;> (simp only [zW_2, zL_2, k2_fX10_scalar_a4, k2_fX10_scalar_a5, k2q_fX10_scalar_a4, k2q_fX10_scalar_a5, zk2s_mk]; done))
theorem k2_fX10_scalar_a6 (a : Int32) (b : Int32) (c0 : Int32) (u : Int32) (s0 : zSt) : zk2 (zsnd (fX10_scalar_a6 a b c0 u s0)) = zk2 s0 := k2q_fX10_scalar_a6 a b c0 u s0
theorem k2q_fX10_scalar_a7 (a : Int32) (b : Int32) (c0 : Int32) (u : Int32) (s0 : zSt) : zk2s (fX10_scalar_a7 a b c0 u s0) = zk2 s0 := by
  unfold fX10_scalar_a7
  (try dsimp only)
  all_goals (refine cond_keep (fun r : Int32 × zSt => zk2s r) _ ?_ ?_ <;> (simp only [zW_2, zL_2, k2_fX10_scalar_a3, k2_fX10_scalar_a6, k2q_fX10_scalar_a3, k2q_fX10_scalar_a6, zk2s_mk]; done))
theorem k2_fX10_scalar_a7 (a : Int32) (b : Int32) (c0 : Int32) (u : Int32) (s0 : zSt) : zk2 (zsnd (fX10_scalar_a7 a b c0 u s0)) = zk2 s0 := k2q_fX10_scalar_a7 a b c0 u s0
theorem k2q_fX10_scalar_a8 (a : Int32) (b : Int32) (c0 : Int32) (u : Int32) (s0 : zSt) : zk2s (fX10_scalar_a8 a b c0 u s0) = zk2 s0 := by
  unfold fX10_scalar_a8
  (try dsimp only)
  all_goals (refine cond_keep (fun r : Int32 × zSt => zk2s r) _ ?_ ?_ <;> (simp only [zW_2, zL_2, k2_fX10_scalar_a2, k2_fX10_scalar_a7, k2q_fX10_scalar_a2, k2q_fX10_scalar_a7, zk2s_mk]; done))
theorem k2_fX10_scalar_a8 (a : Int32) (b : Int32) (c0 : Int32) (u : Int32) (s0 : zSt) : zk2 (zsnd (fX10_scalar_a8 a b c0 u s0)) = zk2 s0 := k2q_fX10_scalar_a8 a b c0 u s0
theorem k2q_fX10_scalar (a : Int32) (b : Int32) (c0 : Int32) (u : Int32) (s0 : zSt) : zk2s (fX10_scalar a b c0 u s0) = zk2 s0 := by
  unfold fX10_scalar
  (try dsimp only)
  all_goals (refine cond_keep (fun r : Int32 × zSt => zk2s r) _ ?_ ?_ <;> (simp only [zW_2, zL_2, k2_fX10_scalar_a1, k2_fX10_scalar_a8, k2q_fX10_scalar_a1, k2q_fX10_scalar_a8, zk2s_mk]; done))
theorem k2_fX10_scalar (a : Int32) (b : Int32) (c0 : Int32) (u : Int32) (s0 : zSt) : zk2 (zsnd (fX10_scalar a b c0 u s0)) = zk2 s0 := k2q_fX10_scalar a b c0 u s0
theorem i2_fX10_scalar (a : Int32) (b : Int32) (c0 : Int32) (u : Int32) (s0 : zSt) (kk9 : Nat) : (zsnd (fX10_scalar a b c0 u s0)).2.2 kk9 = s0.2.2 kk9 := z2_I (k2_fX10_scalar a b c0 u s0) kk9
theorem i3_fX10_scalar (a : Int32) (b : Int32) (c0 : Int32) (u : Int32) (s0 : zSt) (kk9 : Nat) : zi (zsnd (fX10_scalar a b c0 u s0)) kk9 = zi s0 kk9 := zi_of (k2_fX10_scalar a b c0 u s0) kk9

def fX10_isPoint_a1 (t4 : zSt) : Int32 × zSt :=
    (nI (0), t4)
def fX10_isPoint_a2 (t4 : zSt) : Int32 × zSt :=
    (nI (1), t4)
def fX10_isPoint_a3 (v : Int32) (s0 : zSt) : Int32 × zSt :=
    let t4 := zsnd (fX10_opens 10 v.toNatClampNeg s0)
    bif (zfst (fX10_opens 10 v.toNatClampNeg s0)) then
      fX10_isPoint_a2 t4
    else
      fX10_isPoint_a1 t4
def fX10_isPoint_a4 (s0 : zSt) : Int32 × zSt :=
    ((-101 : Int32), s0)
def fX10_isPoint (v : Int32) (s0 : zSt) : Int32 × zSt :=
    bif (vX10_isSlot v s0) then
      fX10_isPoint_a3 v s0
    else
      fX10_isPoint_a4 s0
set_option maxHeartbeats 4000000 in
set_option maxRecDepth 100000 in
theorem k_X10_isPoint (l : Launch) (D : va_G) (kc : Nat → ClassId) (ad : Nat → Nat) (v : Int32) (s0 : zSt) : zM l yX10_isPoint cX10_isPoint 2 (some .int) rX10_isPoint (wM D kc ad) [.ref (zad (wM D kc ad) 17), .int v] s0 (zV1 (.int (zfst (fX10_isPoint v s0))) (zsnd (fX10_isPoint v s0))) := by
  refine z_of (own := RX10) (by decide +kernel) rfl (Nat.le_of_ble_eq_true rfl) ?_
  intro κ C R0
  refine j_at [(0, .ref (zad (wM D kc ad) 17)), (1, .int v)] ⟨rfl, rfl, trivial⟩ ?_
  refine j_iload_n C dX10_isPoint_0 rfl rfl ?_
  refine j_callS1 C dX10_isPoint_1 (k_X10_isSlot l D kc ad (v) _ ) zy_X10_isSlot mw_15_3 rfl rfl (Nat.le_of_ble_eq_true rfl) ⟨rfl, rfl, Nat.le_of_ble_eq_true rfl, Nat.le_of_ble_eq_true rfl⟩ ?_
  refine j_if_neB (tgt := 10) C dX10_isPoint_4 (by decide) (fun q1 => ?_) (fun q1 => ?_)
  · have hA2 : fX10_isPoint v s0 = fX10_isPoint_a3 v s0 := by have q1z := q1; (try dsimp only at q1z); unfold fX10_isPoint; (try dsimp only); rw [q1z, cond_true]; (try rfl)
    have hc3 := msl_of (x := v) (by assumption)
    have hc3b := hc3.2
    refine j_at [(0, .ref (zad (wM D kc ad) 17)), (1, .int (nI (v.toNatClampNeg)))] ⟨rfl, congrArg (fun q => some (Value.int q)) hc3.1, trivial⟩ ?_
    refine j_aload_n C dX10_isPoint_10 rfl rfl ?_
    refine j_bipush (v := nI 10) C dX10_isPoint_11 (by decide +kernel) ?_
    refine j_iload_n C dX10_isPoint_13 rfl rfl ?_
    refine j_callV1 (T := TX10) (N := 23) C dX10_isPoint_14 (k_X10_opens l D kc ad 10 (by omega) v.toNatClampNeg (by omega) _ ) zy_X10_opens mw_27_0 rfl rfl (Nat.zero_le _) (show 17 < 18 by decide) rfl rfl (Nat.le_of_ble_eq_true rfl) ⟨rfl, rfl, Nat.le_of_ble_eq_true rfl, Nat.le_of_ble_eq_true rfl⟩ ?_
    refine j_nmS (fun t4 et4 => ?_)
    refine j_if_eqB (tgt := 24) C dX10_isPoint_17 (by decide) (fun q5 => ?_) (fun q5 => ?_)
    · have hA6 : fX10_isPoint_a3 v s0 = fX10_isPoint_a1 t4 := by (try rw [et4]); have q5z := q5; (try rw [et4] at q5z); (try dsimp only at q5z); unfold fX10_isPoint_a3; (try dsimp only); rw [q5z, cond_false]; (try rfl)
      refine j_iconst (v := nI 0) C dX10_isPoint_24 (by decide +kernel) ?_
      exact j_iret (st := []) C R0 dX10_isPoint_25 ⟨(by rw [hA2, hA6]; unfold fX10_isPoint_a1; (try dsimp only); all_goals ((try simp only [zfst_mk, zsnd_mk]); all_goals rfl)), ((by rw [hA2, hA6]; unfold fX10_isPoint_a1; (try dsimp only); all_goals ((try simp only [zfst_mk, zsnd_mk]); all_goals rfl)))⟩
    · have hA7 : fX10_isPoint_a3 v s0 = fX10_isPoint_a2 t4 := by (try rw [et4]); have q5z := q5; (try rw [et4] at q5z); (try dsimp only at q5z); unfold fX10_isPoint_a3; (try dsimp only); rw [q5z, cond_true]; (try rfl)
      refine j_iconst (v := nI 1) C dX10_isPoint_20 (by decide +kernel) ?_
      refine j_goto (tgt := 25) C dX10_isPoint_21 (by decide) ?_
      exact j_iret (st := []) C R0 dX10_isPoint_25 ⟨(by rw [hA2, hA7]; unfold fX10_isPoint_a2; (try dsimp only); all_goals ((try simp only [zfst_mk, zsnd_mk]); all_goals rfl)), ((by rw [hA2, hA7]; unfold fX10_isPoint_a2; (try dsimp only); all_goals ((try simp only [zfst_mk, zsnd_mk]); all_goals rfl)))⟩
  · have hA8 : fX10_isPoint v s0 = fX10_isPoint_a4 s0 := by have q1z := q1; (try dsimp only at q1z); unfold fX10_isPoint; (try dsimp only); rw [q1z, cond_false]; (try rfl)
    refine j_bipush (v := -101) C dX10_isPoint_7 (by decide +kernel) ?_
    exact j_iret (st := []) C R0 dX10_isPoint_9 ⟨(by rw [hA8]; unfold fX10_isPoint_a4; (try dsimp only); all_goals ((try simp only [zfst_mk, zsnd_mk]); all_goals rfl)), ((by rw [hA8]; unfold fX10_isPoint_a4; (try dsimp only); all_goals ((try simp only [zfst_mk, zsnd_mk]); all_goals rfl)))⟩
theorem k2q_fX10_isPoint_a1 (t4 : zSt) : zk2s (fX10_isPoint_a1 t4) = zk2 t4 := by
  unfold fX10_isPoint_a1
  (try dsimp only)
  all_goals (simp only [zW_2, zL_2, zk2s_mk]; done)
theorem k2_fX10_isPoint_a1 (t4 : zSt) : zk2 (zsnd (fX10_isPoint_a1 t4)) = zk2 t4 := k2q_fX10_isPoint_a1 t4
theorem k2q_fX10_isPoint_a2 (t4 : zSt) : zk2s (fX10_isPoint_a2 t4) = zk2 t4 := by
  unfold fX10_isPoint_a2
  (try dsimp only)
  all_goals (simp only [zW_2, zL_2, zk2s_mk]; done)
theorem k2_fX10_isPoint_a2 (t4 : zSt) : zk2 (zsnd (fX10_isPoint_a2 t4)) = zk2 t4 := k2q_fX10_isPoint_a2 t4
theorem k2q_fX10_isPoint_a3 (v : Int32) (s0 : zSt) : zk2s (fX10_isPoint_a3 v s0) = zk2 s0 := by
  unfold fX10_isPoint_a3
  (try dsimp only)
  all_goals (refine cond_keep (fun r : Int32 × zSt => zk2s r) _ ?_ ?_ <;> (simp only [zW_2, zL_2, k2_fX10_isPoint_a1, k2_fX10_isPoint_a2, k2_fX10_opens, k2q_fX10_isPoint_a1, k2q_fX10_isPoint_a2, k2q_fX10_opens, zk2s_mk]; done))
theorem k2_fX10_isPoint_a3 (v : Int32) (s0 : zSt) : zk2 (zsnd (fX10_isPoint_a3 v s0)) = zk2 s0 := k2q_fX10_isPoint_a3 v s0
theorem k2q_fX10_isPoint_a4 (s0 : zSt) : zk2s (fX10_isPoint_a4 s0) = zk2 s0 := by
  unfold fX10_isPoint_a4
  (try dsimp only)
  all_goals (simp only [zW_2, zL_2, zk2s_mk]; done)
theorem k2_fX10_isPoint_a4 (s0 : zSt) : zk2 (zsnd (fX10_isPoint_a4 s0)) = zk2 s0 := k2q_fX10_isPoint_a4 s0
theorem k2q_fX10_isPoint (v : Int32) (s0 : zSt) : zk2s (fX10_isPoint v s0) = zk2 s0 := by
  unfold fX10_isPoint
  (try dsimp only)
  all_goals (refine cond_keep (fun r : Int32 × zSt => zk2s r) _ ?_ ?_ <;> (simp only [zW_2, zL_2, k2_fX10_isPoint_a3, k2_fX10_isPoint_a4, k2q_fX10_isPoint_a3, k2q_fX10_isPoint_a4, zk2s_mk]; done))
theorem k2_fX10_isPoint (v : Int32) (s0 : zSt) : zk2 (zsnd (fX10_isPoint v s0)) = zk2 s0 := k2q_fX10_isPoint v s0
theorem i2_fX10_isPoint (v : Int32) (s0 : zSt) (kk9 : Nat) : (zsnd (fX10_isPoint v s0)).2.2 kk9 = s0.2.2 kk9 := z2_I (k2_fX10_isPoint v s0) kk9
theorem i3_fX10_isPoint (v : Int32) (s0 : zSt) (kk9 : Nat) : zi (zsnd (fX10_isPoint v s0)) kk9 = zi s0 kk9 := zi_of (k2_fX10_isPoint v s0) kk9

def fX10_across_a1 (s0 : zSt) : Int32 × zSt :=
    ((-101 : Int32), s0)
def fX10_across_a2 (u : Int32) (t8 : zSt) : Int32 × zSt :=
    let t11 := fX10_store u.toNatClampNeg 10 t8
    (nI (1), t11)
def fX10_across_a3 (t8 : zSt) : Int32 × zSt :=
    ((-1 : Int32), t8)
def fX10_across_a4 (v : Int32) (u : Int32) (s0 : zSt) : Int32 × zSt :=
    let t8 := zsnd (fX10_opens 10 v.toNatClampNeg s0)
    bif (zfst (fX10_opens 10 v.toNatClampNeg s0)) then
      fX10_across_a2 u t8
    else
      fX10_across_a3 t8
def fX10_across_a5 (s0 : zSt) : Int32 × zSt :=
    ((-101 : Int32), s0)
def fX10_across_a6 (v : Int32) (u : Int32) (s0 : zSt) : Int32 × zSt :=
    bif (vX10_isSlot u s0) then
      fX10_across_a4 v u s0
    else
      fX10_across_a5 s0
def fX10_across (v : Int32) (u : Int32) (s0 : zSt) : Int32 × zSt :=
    bif (vX10_isSlot v s0) then
      fX10_across_a6 v u s0
    else
      fX10_across_a1 s0
set_option maxHeartbeats 4000000 in
set_option maxRecDepth 100000 in
theorem k_X10_across (l : Launch) (D : va_G) (kc : Nat → ClassId) (ad : Nat → Nat) (v : Int32) (u : Int32) (s0 : zSt) : zM l yX10_across cX10_across 3 (some .int) rX10_across (wM D kc ad) [.ref (zad (wM D kc ad) 17), .int v, .int u] s0 (zV1 (.int (zfst (fX10_across v u s0))) (zsnd (fX10_across v u s0))) := by
  refine z_of (own := RX10) (by decide +kernel) rfl (Nat.le_of_ble_eq_true rfl) ?_
  intro κ C R0
  refine j_at [(0, .ref (zad (wM D kc ad) 17)), (1, .int v), (2, .int u)] ⟨rfl, rfl, rfl, trivial⟩ ?_
  refine j_iload_n C dX10_across_0 rfl rfl ?_
  refine j_callS1 C dX10_across_1 (k_X10_isSlot l D kc ad (v) _ ) zy_X10_isSlot mw_15_3 rfl rfl (Nat.le_of_ble_eq_true rfl) ⟨rfl, rfl, Nat.le_of_ble_eq_true rfl, Nat.le_of_ble_eq_true rfl⟩ ?_
  refine j_if_eqB (tgt := 14) C dX10_across_4 (by decide) (fun q1 => ?_) (fun q1 => ?_)
  · have hA2 : fX10_across v u s0 = fX10_across_a1 s0 := by have q1z := q1; (try dsimp only at q1z); unfold fX10_across; (try dsimp only); rw [q1z, cond_false]; (try rfl)
    refine j_bipush (v := -101) C dX10_across_14 (by decide +kernel) ?_
    exact j_iret (st := []) C R0 dX10_across_16 ⟨(by rw [hA2]; unfold fX10_across_a1; (try dsimp only); all_goals ((try simp only [zfst_mk, zsnd_mk]); all_goals rfl)), ((by rw [hA2]; unfold fX10_across_a1; (try dsimp only); all_goals ((try simp only [zfst_mk, zsnd_mk]); all_goals rfl)))⟩
  · have hA3 : fX10_across v u s0 = fX10_across_a6 v u s0 := by have q1z := q1; (try dsimp only at q1z); unfold fX10_across; (try dsimp only); rw [q1z, cond_true]; (try rfl)
    refine j_iload_n C dX10_across_7 rfl rfl ?_
    refine j_callS1 C dX10_across_8 (k_X10_isSlot l D kc ad (u) _ ) zy_X10_isSlot mw_15_3 rfl rfl (Nat.le_of_ble_eq_true rfl) ⟨rfl, rfl, Nat.le_of_ble_eq_true rfl, Nat.le_of_ble_eq_true rfl⟩ ?_
    refine j_if_neB (tgt := 17) C dX10_across_11 (by decide) (fun q4 => ?_) (fun q4 => ?_)
    · have hA5 : fX10_across_a6 v u s0 = fX10_across_a4 v u s0 := by have q4z := q4; (try dsimp only at q4z); unfold fX10_across_a6; (try dsimp only); rw [q4z, cond_true]; (try rfl)
      have hc6 := msl_of (x := v) (by assumption)
      have hc6b := hc6.2
      have hc7 := msl_of (x := u) (by assumption)
      have hc7b := hc7.2
      refine j_at [(0, .ref (zad (wM D kc ad) 17)), (1, .int (nI (v.toNatClampNeg))), (2, .int (nI (u.toNatClampNeg)))] ⟨rfl, congrArg (fun q => some (Value.int q)) hc6.1, congrArg (fun q => some (Value.int q)) hc7.1, trivial⟩ ?_
      refine j_aload_n C dX10_across_17 rfl rfl ?_
      refine j_bipush (v := nI 10) C dX10_across_18 (by decide +kernel) ?_
      refine j_iload_n C dX10_across_20 rfl rfl ?_
      refine j_callV1 (T := TX10) (N := 23) C dX10_across_21 (k_X10_opens l D kc ad 10 (by omega) v.toNatClampNeg (by omega) _ ) zy_X10_opens mw_27_0 rfl rfl (Nat.zero_le _) (show 17 < 18 by decide) rfl rfl (Nat.le_of_ble_eq_true rfl) ⟨rfl, rfl, Nat.le_of_ble_eq_true rfl, Nat.le_of_ble_eq_true rfl⟩ ?_
      refine j_nmS (fun t8 et8 => ?_)
      refine j_if_neB (tgt := 29) C dX10_across_24 (by decide) (fun q9 => ?_) (fun q9 => ?_)
      · have hA10 : fX10_across_a4 v u s0 = fX10_across_a2 u t8 := by (try rw [et8]); have q9z := q9; (try rw [et8] at q9z); (try dsimp only at q9z); unfold fX10_across_a4; (try dsimp only); rw [q9z, cond_true]; (try rfl)
        refine j_aload_n C dX10_across_29 rfl rfl ?_
        refine j_iload_n C dX10_across_30 rfl rfl ?_
        refine j_bipush (v := nI 10) C dX10_across_31 (by decide +kernel) ?_
        refine j_callV0 (T := TX10) (N := 23) C dX10_across_33 (k_X10_store l D kc ad u.toNatClampNeg (by omega) 10 (by omega) _ ) zy_X10_store mw_21_4 rfl rfl (Nat.zero_le _) (show 17 < 18 by decide) rfl rfl (Nat.le_of_ble_eq_true rfl) ⟨rfl, rfl, Nat.le_of_ble_eq_true rfl, Nat.le_of_ble_eq_true rfl⟩ ?_
        refine j_nmS (fun t11 et11 => ?_)
        refine j_iconst (v := nI 1) C dX10_across_36 (by decide +kernel) ?_
        exact j_iret (st := []) C R0 dX10_across_37 ⟨(by rw [hA3, hA5, hA10]; (try rw [et11]); unfold fX10_across_a2; (try dsimp only); all_goals ((try simp only [zfst_mk, zsnd_mk]); all_goals rfl)), ((by rw [hA3, hA5, hA10]; (try rw [et11]); unfold fX10_across_a2; (try dsimp only); all_goals ((try simp only [zfst_mk, zsnd_mk]); all_goals rfl)))⟩
      · have hA12 : fX10_across_a4 v u s0 = fX10_across_a3 t8 := by (try rw [et8]); have q9z := q9; (try rw [et8] at q9z); (try dsimp only at q9z); unfold fX10_across_a4; (try dsimp only); rw [q9z, cond_false]; (try rfl)
        refine j_iconst (v := -1) C dX10_across_27 (by decide +kernel) ?_
        exact j_iret (st := []) C R0 dX10_across_28 ⟨(by rw [hA3, hA5, hA12]; unfold fX10_across_a3; (try dsimp only); all_goals ((try simp only [zfst_mk, zsnd_mk]); all_goals rfl)), ((by rw [hA3, hA5, hA12]; unfold fX10_across_a3; (try dsimp only); all_goals ((try simp only [zfst_mk, zsnd_mk]); all_goals rfl)))⟩
    · have hA13 : fX10_across_a6 v u s0 = fX10_across_a5 s0 := by have q4z := q4; (try dsimp only at q4z); unfold fX10_across_a6; (try dsimp only); rw [q4z, cond_false]; (try rfl)
      refine j_bipush (v := -101) C dX10_across_14 (by decide +kernel) ?_
      exact j_iret (st := []) C R0 dX10_across_16 ⟨(by rw [hA3, hA13]; unfold fX10_across_a5; (try dsimp only); all_goals ((try simp only [zfst_mk, zsnd_mk]); all_goals rfl)), ((by rw [hA3, hA13]; unfold fX10_across_a5; (try dsimp only); all_goals ((try simp only [zfst_mk, zsnd_mk]); all_goals rfl)))⟩
theorem k2q_fX10_across_a1 (s0 : zSt) : zk2s (fX10_across_a1 s0) = zk2 s0 := by
  unfold fX10_across_a1
  (try dsimp only)
  all_goals (simp only [zW_2, zL_2, zk2s_mk]; done)
theorem k2_fX10_across_a1 (s0 : zSt) : zk2 (zsnd (fX10_across_a1 s0)) = zk2 s0 := k2q_fX10_across_a1 s0
theorem k2q_fX10_across_a2 (u : Int32) (t8 : zSt) : zk2s (fX10_across_a2 u t8) = zk2 t8 := by
  unfold fX10_across_a2
  (try dsimp only)
  all_goals (simp only [zW_2, zL_2, k2_fX10_store, zk2s_mk]; done)
theorem k2_fX10_across_a2 (u : Int32) (t8 : zSt) : zk2 (zsnd (fX10_across_a2 u t8)) = zk2 t8 := k2q_fX10_across_a2 u t8
theorem k2q_fX10_across_a3 (t8 : zSt) : zk2s (fX10_across_a3 t8) = zk2 t8 := by
  unfold fX10_across_a3
  (try dsimp only)
  all_goals (simp only [zW_2, zL_2, zk2s_mk]; done)
theorem k2_fX10_across_a3 (t8 : zSt) : zk2 (zsnd (fX10_across_a3 t8)) = zk2 t8 := k2q_fX10_across_a3 t8
theorem k2q_fX10_across_a4 (v : Int32) (u : Int32) (s0 : zSt) : zk2s (fX10_across_a4 v u s0) = zk2 s0 := by
  unfold fX10_across_a4
  (try dsimp only)
  all_goals (refine cond_keep (fun r : Int32 × zSt => zk2s r) _ ?_ ?_ <;> (simp only [zW_2, zL_2, k2_fX10_across_a2, k2_fX10_across_a3, k2_fX10_opens, k2q_fX10_across_a2, k2q_fX10_across_a3, k2q_fX10_opens, zk2s_mk]; done))
theorem k2_fX10_across_a4 (v : Int32) (u : Int32) (s0 : zSt) : zk2 (zsnd (fX10_across_a4 v u s0)) = zk2 s0 := k2q_fX10_across_a4 v u s0
theorem k2q_fX10_across_a5 (s0 : zSt) : zk2s (fX10_across_a5 s0) = zk2 s0 := by
  unfold fX10_across_a5
  (try dsimp only)
  all_goals (simp only [zW_2, zL_2, zk2s_mk]; done)
theorem k2_fX10_across_a5 (s0 : zSt) : zk2 (zsnd (fX10_across_a5 s0)) = zk2 s0 := k2q_fX10_across_a5 s0
theorem k2q_fX10_across_a6 (v : Int32) (u : Int32) (s0 : zSt) : zk2s (fX10_across_a6 v u s0) = zk2 s0 := by
  unfold fX10_across_a6
  (try dsimp only)
  all_goals (refine cond_keep (fun r : Int32 × zSt => zk2s r) _ ?_ ?_ <;> (simp only [zW_2, zL_2, k2_fX10_across_a4, k2_fX10_across_a5, k2q_fX10_across_a4, k2q_fX10_across_a5, zk2s_mk]; done))
theorem k2_fX10_across_a6 (v : Int32) (u : Int32) (s0 : zSt) : zk2 (zsnd (fX10_across_a6 v u s0)) = zk2 s0 := k2q_fX10_across_a6 v u s0
theorem k2q_fX10_across (v : Int32) (u : Int32) (s0 : zSt) : zk2s (fX10_across v u s0) = zk2 s0 := by
  unfold fX10_across
  (try dsimp only)
  all_goals (refine cond_keep (fun r : Int32 × zSt => zk2s r) _ ?_ ?_ <;> (simp only [zW_2, zL_2, k2_fX10_across_a1, k2_fX10_across_a6, k2q_fX10_across_a1, k2q_fX10_across_a6, zk2s_mk]; done))
theorem k2_fX10_across (v : Int32) (u : Int32) (s0 : zSt) : zk2 (zsnd (fX10_across v u s0)) = zk2 s0 := k2q_fX10_across v u s0
theorem i2_fX10_across (v : Int32) (u : Int32) (s0 : zSt) (kk9 : Nat) : (zsnd (fX10_across v u s0)).2.2 kk9 = s0.2.2 kk9 := z2_I (k2_fX10_across v u s0) kk9
theorem i3_fX10_across (v : Int32) (u : Int32) (s0 : zSt) (kk9 : Nat) : zi (zsnd (fX10_across v u s0)) kk9 = zi s0 kk9 := zi_of (k2_fX10_across v u s0) kk9

def fX10_sum_a1 (s0 : zSt) : Int32 × zSt :=
    ((-101 : Int32), s0)
def fX10_sum_a2 (s0 : zSt) : Int32 × zSt :=
    ((-101 : Int32), s0)
def fX10_sum_a3 (t15 : zSt) : Int32 × zSt :=
    ((-1 : Int32), t15)
def fX10_sum_a4 (u : Int32) (t19 : zSt) : Int32 × zSt :=
    let t24 := fX10_addPoint 10 14 t19
    let t25 := fX10_storePoint u.toNatClampNeg 10 t24
    (nI (1), t25)
def fX10_sum_a5 (u : Int32) (t19 : zSt) : Int32 × zSt :=
    let t27 := fX10_negate 14 t19
    let t28 := fX10_addPoint 10 14 t27
    let t29 := fX10_storePoint u.toNatClampNeg 10 t28
    (nI (1), t29)
def fX10_sum_a6 (way : Int32) (u : Int32) (t19 : zSt) : Int32 × zSt :=
    if way.toNatClampNeg ≠ 1 then
      fX10_sum_a4 u t19
    else
      fX10_sum_a5 u t19
def fX10_sum_a7 (t19 : zSt) : Int32 × zSt :=
    ((-1 : Int32), t19)
def fX10_sum_a8 (way : Int32) (b : Int32) (u : Int32) (t15 : zSt) : Int32 × zSt :=
    let t19 := zsnd (fX10_opens 14 b.toNatClampNeg t15)
    bif (zfst (fX10_opens 14 b.toNatClampNeg t15)) then
      fX10_sum_a6 way u t19
    else
      fX10_sum_a7 t19
def fX10_sum_a9 (way : Int32) (a : Int32) (b : Int32) (u : Int32) (s0 : zSt) : Int32 × zSt :=
    let t15 := zsnd (fX10_opens 10 a.toNatClampNeg s0)
    bif (zfst (fX10_opens 10 a.toNatClampNeg s0)) then
      fX10_sum_a8 way b u t15
    else
      fX10_sum_a3 t15
def fX10_sum_a10 (s0 : zSt) : Int32 × zSt :=
    ((-102 : Int32), s0)
def fX10_sum_a11 (way : Int32) (a : Int32) (b : Int32) (u : Int32) (s0 : zSt) : Int32 × zSt :=
    bif (vX10_in way (nI (0)) (nI (1)) s0) then
      fX10_sum_a9 way a b u s0
    else
      fX10_sum_a10 s0
def fX10_sum_a12 (s0 : zSt) : Int32 × zSt :=
    ((-101 : Int32), s0)
def fX10_sum_a13 (way : Int32) (a : Int32) (b : Int32) (u : Int32) (s0 : zSt) : Int32 × zSt :=
    bif (vX10_isSlot u s0) then
      fX10_sum_a11 way a b u s0
    else
      fX10_sum_a12 s0
def fX10_sum_a14 (way : Int32) (a : Int32) (b : Int32) (u : Int32) (s0 : zSt) : Int32 × zSt :=
    bif (vX10_isSlot b s0) then
      fX10_sum_a13 way a b u s0
    else
      fX10_sum_a2 s0
def fX10_sum (way : Int32) (a : Int32) (b : Int32) (u : Int32) (s0 : zSt) : Int32 × zSt :=
    bif (vX10_isSlot a s0) then
      fX10_sum_a14 way a b u s0
    else
      fX10_sum_a1 s0
set_option maxHeartbeats 4000000 in
set_option maxRecDepth 100000 in
theorem k_X10_sum (l : Launch) (D : va_G) (kc : Nat → ClassId) (ad : Nat → Nat) (way : Int32) (a : Int32) (b : Int32) (u : Int32) (s0 : zSt) : zM l yX10_sum cX10_sum 5 (some .int) rX10_sum (wM D kc ad) [.ref (zad (wM D kc ad) 17), .int way, .int a, .int b, .int u] s0 (zV1 (.int (zfst (fX10_sum way a b u s0))) (zsnd (fX10_sum way a b u s0))) := by
  refine z_of (own := RX10) (by decide +kernel) rfl (Nat.le_of_ble_eq_true rfl) ?_
  intro κ C R0
  refine j_at [(0, .ref (zad (wM D kc ad) 17)), (1, .int way), (2, .int a), (3, .int b), (4, .int u)] ⟨rfl, rfl, rfl, rfl, rfl, trivial⟩ ?_
  refine j_iload_n C dX10_sum_0 rfl rfl ?_
  refine j_callS1 C dX10_sum_1 (k_X10_isSlot l D kc ad (a) _ ) zy_X10_isSlot mw_15_3 rfl rfl (Nat.le_of_ble_eq_true rfl) ⟨rfl, rfl, Nat.le_of_ble_eq_true rfl, Nat.le_of_ble_eq_true rfl⟩ ?_
  refine j_if_eqB (tgt := 22) C dX10_sum_4 (by decide) (fun q1 => ?_) (fun q1 => ?_)
  · have hA2 : fX10_sum way a b u s0 = fX10_sum_a1 s0 := by have q1z := q1; (try dsimp only at q1z); unfold fX10_sum; (try dsimp only); rw [q1z, cond_false]; (try rfl)
    refine j_bipush (v := -101) C dX10_sum_22 (by decide +kernel) ?_
    exact j_iret (st := []) C R0 dX10_sum_24 ⟨(by rw [hA2]; unfold fX10_sum_a1; (try dsimp only); all_goals ((try simp only [zfst_mk, zsnd_mk]); all_goals rfl)), ((by rw [hA2]; unfold fX10_sum_a1; (try dsimp only); all_goals ((try simp only [zfst_mk, zsnd_mk]); all_goals rfl)))⟩
  · have hA3 : fX10_sum way a b u s0 = fX10_sum_a14 way a b u s0 := by have q1z := q1; (try dsimp only at q1z); unfold fX10_sum; (try dsimp only); rw [q1z, cond_true]; (try rfl)
    refine j_iload_n C dX10_sum_7 rfl rfl ?_
    refine j_callS1 C dX10_sum_8 (k_X10_isSlot l D kc ad (b) _ ) zy_X10_isSlot mw_15_3 rfl rfl (Nat.le_of_ble_eq_true rfl) ⟨rfl, rfl, Nat.le_of_ble_eq_true rfl, Nat.le_of_ble_eq_true rfl⟩ ?_
    refine j_if_eqB (tgt := 22) C dX10_sum_11 (by decide) (fun q4 => ?_) (fun q4 => ?_)
    · have hA5 : fX10_sum_a14 way a b u s0 = fX10_sum_a2 s0 := by have q4z := q4; (try dsimp only at q4z); unfold fX10_sum_a14; (try dsimp only); rw [q4z, cond_false]; (try rfl)
      refine j_bipush (v := -101) C dX10_sum_22 (by decide +kernel) ?_
      exact j_iret (st := []) C R0 dX10_sum_24 ⟨(by rw [hA3, hA5]; unfold fX10_sum_a2; (try dsimp only); all_goals ((try simp only [zfst_mk, zsnd_mk]); all_goals rfl)), ((by rw [hA3, hA5]; unfold fX10_sum_a2; (try dsimp only); all_goals ((try simp only [zfst_mk, zsnd_mk]); all_goals rfl)))⟩
    · have hA6 : fX10_sum_a14 way a b u s0 = fX10_sum_a13 way a b u s0 := by have q4z := q4; (try dsimp only at q4z); unfold fX10_sum_a14; (try dsimp only); rw [q4z, cond_true]; (try rfl)
      refine j_iload C dX10_sum_14 rfl ?_
      refine j_callS1 C dX10_sum_16 (k_X10_isSlot l D kc ad (u) _ ) zy_X10_isSlot mw_15_3 rfl rfl (Nat.le_of_ble_eq_true rfl) ⟨rfl, rfl, Nat.le_of_ble_eq_true rfl, Nat.le_of_ble_eq_true rfl⟩ ?_
      refine j_if_neB (tgt := 25) C dX10_sum_19 (by decide) (fun q7 => ?_) (fun q7 => ?_)
      · have hA8 : fX10_sum_a13 way a b u s0 = fX10_sum_a11 way a b u s0 := by have q7z := q7; (try dsimp only at q7z); unfold fX10_sum_a13; (try dsimp only); rw [q7z, cond_true]; (try rfl)
        refine j_iload_n C dX10_sum_25 rfl rfl ?_
        refine j_iconst (v := nI 0) C dX10_sum_26 (by decide +kernel) ?_
        refine j_iconst (v := nI 1) C dX10_sum_27 (by decide +kernel) ?_
        refine j_callS1 C dX10_sum_28 (k_X10_in l D kc ad (way) (nI (0)) (nI (1)) _ ) zy_X10_in mw_15_6 rfl rfl (Nat.le_of_ble_eq_true rfl) ⟨rfl, rfl, Nat.le_of_ble_eq_true rfl, Nat.le_of_ble_eq_true rfl⟩ ?_
        refine j_if_neB (tgt := 37) C dX10_sum_31 (by decide) (fun q9 => ?_) (fun q9 => ?_)
        · have hA10 : fX10_sum_a11 way a b u s0 = fX10_sum_a9 way a b u s0 := by have q9z := q9; (try dsimp only at q9z); unfold fX10_sum_a11; (try dsimp only); rw [q9z, cond_true]; (try rfl)
          have hc11 := min_of (x := way) (b := 1) (by decide) (by assumption)
          have hc11b := hc11.2
          have hc12 := msl_of (x := a) (by assumption)
          have hc12b := hc12.2
          have hc13 := msl_of (x := b) (by assumption)
          have hc13b := hc13.2
          have hc14 := msl_of (x := u) (by assumption)
          have hc14b := hc14.2
          refine j_at [(0, .ref (zad (wM D kc ad) 17)), (1, .int (nI (way.toNatClampNeg))), (2, .int (nI (a.toNatClampNeg))), (3, .int (nI (b.toNatClampNeg))), (4, .int (nI (u.toNatClampNeg)))] ⟨rfl, congrArg (fun q => some (Value.int q)) hc11.1, congrArg (fun q => some (Value.int q)) hc12.1, congrArg (fun q => some (Value.int q)) hc13.1, congrArg (fun q => some (Value.int q)) hc14.1, trivial⟩ ?_
          refine j_aload_n C dX10_sum_37 rfl rfl ?_
          refine j_bipush (v := nI 10) C dX10_sum_38 (by decide +kernel) ?_
          refine j_iload_n C dX10_sum_40 rfl rfl ?_
          refine j_callV1 (T := TX10) (N := 23) C dX10_sum_41 (k_X10_opens l D kc ad 10 (by omega) a.toNatClampNeg (by omega) _ ) zy_X10_opens mw_27_0 rfl rfl (Nat.zero_le _) (show 17 < 18 by decide) rfl rfl (Nat.le_of_ble_eq_true rfl) ⟨rfl, rfl, Nat.le_of_ble_eq_true rfl, Nat.le_of_ble_eq_true rfl⟩ ?_
          refine j_nmS (fun t15 et15 => ?_)
          refine j_if_eqB (tgt := 57) C dX10_sum_44 (by decide) (fun q16 => ?_) (fun q16 => ?_)
          · have hA17 : fX10_sum_a9 way a b u s0 = fX10_sum_a3 t15 := by (try rw [et15]); have q16z := q16; (try rw [et15] at q16z); (try dsimp only at q16z); unfold fX10_sum_a9; (try dsimp only); rw [q16z, cond_false]; (try rfl)
            refine j_iconst (v := -1) C dX10_sum_57 (by decide +kernel) ?_
            exact j_iret (st := []) C R0 dX10_sum_58 ⟨(by rw [hA3, hA6, hA8, hA10, hA17]; unfold fX10_sum_a3; (try dsimp only); all_goals ((try simp only [zfst_mk, zsnd_mk]); all_goals rfl)), ((by rw [hA3, hA6, hA8, hA10, hA17]; unfold fX10_sum_a3; (try dsimp only); all_goals ((try simp only [zfst_mk, zsnd_mk]); all_goals rfl)))⟩
          · have hA18 : fX10_sum_a9 way a b u s0 = fX10_sum_a8 way b u t15 := by (try rw [et15]); have q16z := q16; (try rw [et15] at q16z); (try dsimp only at q16z); unfold fX10_sum_a9; (try dsimp only); rw [q16z, cond_true]; (try rfl)
            refine j_aload_n C dX10_sum_47 rfl rfl ?_
            refine j_bipush (v := nI 14) C dX10_sum_48 (by decide +kernel) ?_
            refine j_iload_n C dX10_sum_50 rfl rfl ?_
            refine j_callV1 (T := TX10) (N := 23) C dX10_sum_51 (k_X10_opens l D kc ad 14 (by omega) b.toNatClampNeg (by omega) _ ) zy_X10_opens mw_27_0 rfl rfl (Nat.zero_le _) (show 17 < 18 by decide) rfl rfl (Nat.le_of_ble_eq_true rfl) ⟨rfl, rfl, Nat.le_of_ble_eq_true rfl, Nat.le_of_ble_eq_true rfl⟩ ?_
            refine j_nmS (fun t19 et19 => ?_)
            refine j_if_neB (tgt := 59) C dX10_sum_54 (by decide) (fun q20 => ?_) (fun q20 => ?_)
            · have hA21 : fX10_sum_a8 way b u t15 = fX10_sum_a6 way u t19 := by (try rw [et19]); have q20z := q20; (try rw [et19] at q20z); (try dsimp only at q20z); unfold fX10_sum_a8; (try dsimp only); rw [q20z, cond_true]; (try rfl)
              refine j_iload_n C dX10_sum_59 rfl rfl ?_
              refine j_iconst (v := nI 1) C dX10_sum_60 (by decide +kernel) ?_
              refine j_icmp_neN (tgt := 70) C dX10_sum_61 (by decide) (by omega) (by omega) (fun q22 => ?_) (fun q22 => ?_)
              · have hA23 : fX10_sum_a6 way u t19 = fX10_sum_a4 u t19 := by have q22z := q22; (try dsimp only at q22z); unfold fX10_sum_a6; (try dsimp only); rw [if_pos q22z]; (try rfl)
                refine j_aload_n C dX10_sum_70 rfl rfl ?_
                refine j_bipush (v := nI 10) C dX10_sum_71 (by decide +kernel) ?_
                refine j_bipush (v := nI 14) C dX10_sum_73 (by decide +kernel) ?_
                refine j_callV0 (T := TX10) (N := 23) C dX10_sum_75 (k_X10_addPoint l D kc ad 10 (by omega) 14 (by omega) _ ) zy_X10_addPoint mw_28_16 rfl rfl (Nat.zero_le _) (show 17 < 18 by decide) rfl rfl (Nat.le_of_ble_eq_true rfl) ⟨rfl, rfl, Nat.le_of_ble_eq_true rfl, Nat.le_of_ble_eq_true rfl⟩ ?_
                refine j_nmS (fun t24 et24 => ?_)
                refine j_aload_n C dX10_sum_78 rfl rfl ?_
                refine j_iload C dX10_sum_79 rfl ?_
                refine j_bipush (v := nI 10) C dX10_sum_81 (by decide +kernel) ?_
                refine j_callV0 (T := TX10) (N := 23) C dX10_sum_83 (k_X10_storePoint l D kc ad u.toNatClampNeg (by omega) 10 (by omega) _ ) zy_X10_storePoint mw_28_20 rfl rfl (Nat.zero_le _) (show 17 < 18 by decide) rfl rfl (Nat.le_of_ble_eq_true rfl) ⟨rfl, rfl, Nat.le_of_ble_eq_true rfl, Nat.le_of_ble_eq_true rfl⟩ ?_
                refine j_nmS (fun t25 et25 => ?_)
                refine j_iconst (v := nI 1) C dX10_sum_86 (by decide +kernel) ?_
                exact j_iret (st := []) C R0 dX10_sum_87 ⟨(by rw [hA3, hA6, hA8, hA10, hA18, hA21, hA23]; (try rw [et25]); (try rw [et24]); unfold fX10_sum_a4; (try dsimp only); all_goals ((try simp only [zfst_mk, zsnd_mk]); all_goals rfl)), ((by rw [hA3, hA6, hA8, hA10, hA18, hA21, hA23]; (try rw [et25]); (try rw [et24]); unfold fX10_sum_a4; (try dsimp only); all_goals ((try simp only [zfst_mk, zsnd_mk]); all_goals rfl)))⟩
              · have hA26 : fX10_sum_a6 way u t19 = fX10_sum_a5 u t19 := by have q22z : ¬ (way.toNatClampNeg ≠ 1) := (by omega); (try dsimp only at q22z); unfold fX10_sum_a6; (try dsimp only); rw [if_neg q22z]; (try rfl)
                refine j_aload_n C dX10_sum_64 rfl rfl ?_
                refine j_bipush (v := nI 14) C dX10_sum_65 (by decide +kernel) ?_
                refine j_callV0 (T := TX10) (N := 23) C dX10_sum_67 (k_X10_negate l D kc ad 14 (by omega) _ ) zy_X10_negate mw_28_12 rfl rfl (Nat.zero_le _) (show 17 < 18 by decide) rfl rfl (Nat.le_of_ble_eq_true rfl) ⟨rfl, rfl, Nat.le_of_ble_eq_true rfl, Nat.le_of_ble_eq_true rfl⟩ ?_
                refine j_nmS (fun t27 et27 => ?_)
                refine j_aload_n C dX10_sum_70 rfl rfl ?_
                refine j_bipush (v := nI 10) C dX10_sum_71 (by decide +kernel) ?_
                refine j_bipush (v := nI 14) C dX10_sum_73 (by decide +kernel) ?_
                refine j_callV0 (T := TX10) (N := 23) C dX10_sum_75 (k_X10_addPoint l D kc ad 10 (by omega) 14 (by omega) _ ) zy_X10_addPoint mw_28_16 rfl rfl (Nat.zero_le _) (show 17 < 18 by decide) rfl rfl (Nat.le_of_ble_eq_true rfl) ⟨rfl, rfl, Nat.le_of_ble_eq_true rfl, Nat.le_of_ble_eq_true rfl⟩ ?_
                refine j_nmS (fun t28 et28 => ?_)
                refine j_aload_n C dX10_sum_78 rfl rfl ?_
                refine j_iload C dX10_sum_79 rfl ?_
                refine j_bipush (v := nI 10) C dX10_sum_81 (by decide +kernel) ?_
                refine j_callV0 (T := TX10) (N := 23) C dX10_sum_83 (k_X10_storePoint l D kc ad u.toNatClampNeg (by omega) 10 (by omega) _ ) zy_X10_storePoint mw_28_20 rfl rfl (Nat.zero_le _) (show 17 < 18 by decide) rfl rfl (Nat.le_of_ble_eq_true rfl) ⟨rfl, rfl, Nat.le_of_ble_eq_true rfl, Nat.le_of_ble_eq_true rfl⟩ ?_
                refine j_nmS (fun t29 et29 => ?_)
                refine j_iconst (v := nI 1) C dX10_sum_86 (by decide +kernel) ?_
                exact j_iret (st := []) C R0 dX10_sum_87 ⟨(by rw [hA3, hA6, hA8, hA10, hA18, hA21, hA26]; (try rw [et29]); (try rw [et28]); (try rw [et27]); unfold fX10_sum_a5; (try dsimp only); all_goals ((try simp only [zfst_mk, zsnd_mk]); all_goals rfl)), ((by rw [hA3, hA6, hA8, hA10, hA18, hA21, hA26]; (try rw [et29]); (try rw [et28]); (try rw [et27]); unfold fX10_sum_a5; (try dsimp only); all_goals ((try simp only [zfst_mk, zsnd_mk]); all_goals rfl)))⟩
            · have hA30 : fX10_sum_a8 way b u t15 = fX10_sum_a7 t19 := by (try rw [et19]); have q20z := q20; (try rw [et19] at q20z); (try dsimp only at q20z); unfold fX10_sum_a8; (try dsimp only); rw [q20z, cond_false]; (try rfl)
              refine j_iconst (v := -1) C dX10_sum_57 (by decide +kernel) ?_
              exact j_iret (st := []) C R0 dX10_sum_58 ⟨(by rw [hA3, hA6, hA8, hA10, hA18, hA30]; unfold fX10_sum_a7; (try dsimp only); all_goals ((try simp only [zfst_mk, zsnd_mk]); all_goals rfl)), ((by rw [hA3, hA6, hA8, hA10, hA18, hA30]; unfold fX10_sum_a7; (try dsimp only); all_goals ((try simp only [zfst_mk, zsnd_mk]); all_goals rfl)))⟩
        · have hA31 : fX10_sum_a11 way a b u s0 = fX10_sum_a10 s0 := by have q9z := q9; (try dsimp only at q9z); unfold fX10_sum_a11; (try dsimp only); rw [q9z, cond_false]; (try rfl)
          refine j_bipush (v := -102) C dX10_sum_34 (by decide +kernel) ?_
          exact j_iret (st := []) C R0 dX10_sum_36 ⟨(by rw [hA3, hA6, hA8, hA31]; unfold fX10_sum_a10; (try dsimp only); all_goals ((try simp only [zfst_mk, zsnd_mk]); all_goals rfl)), ((by rw [hA3, hA6, hA8, hA31]; unfold fX10_sum_a10; (try dsimp only); all_goals ((try simp only [zfst_mk, zsnd_mk]); all_goals rfl)))⟩
      · have hA32 : fX10_sum_a13 way a b u s0 = fX10_sum_a12 s0 := by have q7z := q7; (try dsimp only at q7z); unfold fX10_sum_a13; (try dsimp only); rw [q7z, cond_false]; (try rfl)
        refine j_bipush (v := -101) C dX10_sum_22 (by decide +kernel) ?_
        exact j_iret (st := []) C R0 dX10_sum_24 ⟨(by rw [hA3, hA6, hA32]; unfold fX10_sum_a12; (try dsimp only); all_goals ((try simp only [zfst_mk, zsnd_mk]); all_goals rfl)), ((by rw [hA3, hA6, hA32]; unfold fX10_sum_a12; (try dsimp only); all_goals ((try simp only [zfst_mk, zsnd_mk]); all_goals rfl)))⟩
theorem k2q_fX10_sum_a1 (s0 : zSt) : zk2s (fX10_sum_a1 s0) = zk2 s0 := by
  unfold fX10_sum_a1
  (try dsimp only)
  all_goals (simp only [zW_2, zL_2, zk2s_mk]; done)
theorem k2_fX10_sum_a1 (s0 : zSt) : zk2 (zsnd (fX10_sum_a1 s0)) = zk2 s0 := k2q_fX10_sum_a1 s0
theorem k2q_fX10_sum_a2 (s0 : zSt) : zk2s (fX10_sum_a2 s0) = zk2 s0 := by
  unfold fX10_sum_a2
  (try dsimp only)
  all_goals (simp only [zW_2, zL_2, zk2s_mk]; done)
theorem k2_fX10_sum_a2 (s0 : zSt) : zk2 (zsnd (fX10_sum_a2 s0)) = zk2 s0 := k2q_fX10_sum_a2 s0
theorem k2q_fX10_sum_a3 (t15 : zSt) : zk2s (fX10_sum_a3 t15) = zk2 t15 := by
  unfold fX10_sum_a3
  (try dsimp only)
  all_goals (simp only [zW_2, zL_2, zk2s_mk]; done)
theorem k2_fX10_sum_a3 (t15 : zSt) : zk2 (zsnd (fX10_sum_a3 t15)) = zk2 t15 := k2q_fX10_sum_a3 t15
theorem k2q_fX10_sum_a4 (u : Int32) (t19 : zSt) : zk2s (fX10_sum_a4 u t19) = zk2 t19 := by
  unfold fX10_sum_a4
  (try dsimp only)
  all_goals (simp only [zW_2, zL_2, k2_fX10_addPoint, k2_fX10_storePoint, zk2s_mk]; done)
theorem k2_fX10_sum_a4 (u : Int32) (t19 : zSt) : zk2 (zsnd (fX10_sum_a4 u t19)) = zk2 t19 := k2q_fX10_sum_a4 u t19
theorem k2q_fX10_sum_a5 (u : Int32) (t19 : zSt) : zk2s (fX10_sum_a5 u t19) = zk2 t19 := by
  unfold fX10_sum_a5
  (try dsimp only)
  all_goals (simp only [zW_2, zL_2, k2_fX10_addPoint, k2_fX10_negate, k2_fX10_storePoint, zk2s_mk]; done)
theorem k2_fX10_sum_a5 (u : Int32) (t19 : zSt) : zk2 (zsnd (fX10_sum_a5 u t19)) = zk2 t19 := k2q_fX10_sum_a5 u t19
theorem k2q_fX10_sum_a6 (way : Int32) (u : Int32) (t19 : zSt) : zk2s (fX10_sum_a6 way u t19) = zk2 t19 := by
  unfold fX10_sum_a6
  (try dsimp only)
  all_goals (refine ite_keep (fun r : Int32 × zSt => zk2s r) _ _ ?_ ?_ <;> (simp only [zW_2, zL_2, k2_fX10_sum_a4, k2_fX10_sum_a5, k2q_fX10_sum_a4, k2q_fX10_sum_a5, zk2s_mk]; done))
theorem k2_fX10_sum_a6 (way : Int32) (u : Int32) (t19 : zSt) : zk2 (zsnd (fX10_sum_a6 way u t19)) = zk2 t19 := k2q_fX10_sum_a6 way u t19
theorem k2q_fX10_sum_a7 (t19 : zSt) : zk2s (fX10_sum_a7 t19) = zk2 t19 := by
  unfold fX10_sum_a7
  (try dsimp only)
  all_goals (simp only [zW_2, zL_2, zk2s_mk]; done)
theorem k2_fX10_sum_a7 (t19 : zSt) : zk2 (zsnd (fX10_sum_a7 t19)) = zk2 t19 := k2q_fX10_sum_a7 t19
theorem k2q_fX10_sum_a8 (way : Int32) (b : Int32) (u : Int32) (t15 : zSt) : zk2s (fX10_sum_a8 way b u t15) = zk2 t15 := by
  unfold fX10_sum_a8
  (try dsimp only)
  all_goals (refine cond_keep (fun r : Int32 × zSt => zk2s r) _ ?_ ?_ <;> (simp only [zW_2, zL_2, k2_fX10_opens, k2_fX10_sum_a6, k2_fX10_sum_a7, k2q_fX10_opens, k2q_fX10_sum_a6, k2q_fX10_sum_a7, zk2s_mk]; done))
theorem k2_fX10_sum_a8 (way : Int32) (b : Int32) (u : Int32) (t15 : zSt) : zk2 (zsnd (fX10_sum_a8 way b u t15)) = zk2 t15 := k2q_fX10_sum_a8 way b u t15
theorem k2q_fX10_sum_a9 (way : Int32) (a : Int32) (b : Int32) (u : Int32) (s0 : zSt) : zk2s (fX10_sum_a9 way a b u s0) = zk2 s0 := by
  unfold fX10_sum_a9
  (try dsimp only)
  all_goals (refine cond_keep (fun r : Int32 × zSt => zk2s r) _ ?_ ?_ <;> (simp only [zW_2, zL_2, k2_fX10_opens, k2_fX10_sum_a3, k2_fX10_sum_a8, k2q_fX10_opens, k2q_fX10_sum_a3, k2q_fX10_sum_a8, zk2s_mk]; done))
theorem k2_fX10_sum_a9 (way : Int32) (a : Int32) (b : Int32) (u : Int32) (s0 : zSt) : zk2 (zsnd (fX10_sum_a9 way a b u s0)) = zk2 s0 := k2q_fX10_sum_a9 way a b u s0
theorem k2q_fX10_sum_a10 (s0 : zSt) : zk2s (fX10_sum_a10 s0) = zk2 s0 := by
  unfold fX10_sum_a10
  (try dsimp only)
  all_goals (simp only [zW_2, zL_2, zk2s_mk]; done)
theorem k2_fX10_sum_a10 (s0 : zSt) : zk2 (zsnd (fX10_sum_a10 s0)) = zk2 s0 := k2q_fX10_sum_a10 s0
theorem k2q_fX10_sum_a11 (way : Int32) (a : Int32) (b : Int32) (u : Int32) (s0 : zSt) : zk2s (fX10_sum_a11 way a b u s0) = zk2 s0 := by
  unfold fX10_sum_a11
  (try dsimp only)
  all_goals (refine cond_keep (fun r : Int32 × zSt => zk2s r) _ ?_ ?_ <;> (simp only [zW_2, zL_2, k2_fX10_sum_a10, k2_fX10_sum_a9, k2q_fX10_sum_a10, k2q_fX10_sum_a9, zk2s_mk]; done))
theorem k2_fX10_sum_a11 (way : Int32) (a : Int32) (b : Int32) (u : Int32) (s0 : zSt) : zk2 (zsnd (fX10_sum_a11 way a b u s0)) = zk2 s0 := k2q_fX10_sum_a11 way a b u s0
theorem k2q_fX10_sum_a12 (s0 : zSt) : zk2s (fX10_sum_a12 s0) = zk2 s0 := by
  unfold fX10_sum_a12
  (try dsimp only)
  all_goals (simp only [zW_2, zL_2, zk2s_mk]; done)
theorem k2_fX10_sum_a12 (s0 : zSt) : zk2 (zsnd (fX10_sum_a12 s0)) = zk2 s0 := k2q_fX10_sum_a12 s0
theorem k2q_fX10_sum_a13 (way : Int32) (a : Int32) (b : Int32) (u : Int32) (s0 : zSt) : zk2s (fX10_sum_a13 way a b u s0) = zk2 s0 := by
  unfold fX10_sum_a13
  (try dsimp only)
  all_goals (refine cond_keep (fun r : Int32 × zSt => zk2s r) _ ?_ ?_ <;> (simp only [zW_2, zL_2, k2_fX10_sum_a11, k2_fX10_sum_a12, k2q_fX10_sum_a11, k2q_fX10_sum_a12, zk2s_mk]; done))
theorem k2_fX10_sum_a13 (way : Int32) (a : Int32) (b : Int32) (u : Int32) (s0 : zSt) : zk2 (zsnd (fX10_sum_a13 way a b u s0)) = zk2 s0 := k2q_fX10_sum_a13 way a b u s0
theorem k2q_fX10_sum_a14 (way : Int32) (a : Int32) (b : Int32) (u : Int32) (s0 : zSt) : zk2s (fX10_sum_a14 way a b u s0) = zk2 s0 := by
  unfold fX10_sum_a14
  (try dsimp only)
  all_goals (refine cond_keep (fun r : Int32 × zSt => zk2s r) _ ?_ ?_ <;> (simp only [zW_2, zL_2, k2_fX10_sum_a13, k2_fX10_sum_a2, k2q_fX10_sum_a13, k2q_fX10_sum_a2, zk2s_mk]; done))
theorem k2_fX10_sum_a14 (way : Int32) (a : Int32) (b : Int32) (u : Int32) (s0 : zSt) : zk2 (zsnd (fX10_sum_a14 way a b u s0)) = zk2 s0 := k2q_fX10_sum_a14 way a b u s0
theorem k2q_fX10_sum (way : Int32) (a : Int32) (b : Int32) (u : Int32) (s0 : zSt) : zk2s (fX10_sum way a b u s0) = zk2 s0 := by
  unfold fX10_sum
  (try dsimp only)
  all_goals (refine cond_keep (fun r : Int32 × zSt => zk2s r) _ ?_ ?_ <;> (simp only [zW_2, zL_2, k2_fX10_sum_a1, k2_fX10_sum_a14, k2q_fX10_sum_a1, k2q_fX10_sum_a14, zk2s_mk]; done))
theorem k2_fX10_sum (way : Int32) (a : Int32) (b : Int32) (u : Int32) (s0 : zSt) : zk2 (zsnd (fX10_sum way a b u s0)) = zk2 s0 := k2q_fX10_sum way a b u s0
theorem i2_fX10_sum (way : Int32) (a : Int32) (b : Int32) (u : Int32) (s0 : zSt) (kk9 : Nat) : (zsnd (fX10_sum way a b u s0)).2.2 kk9 = s0.2.2 kk9 := z2_I (k2_fX10_sum way a b u s0) kk9
theorem i3_fX10_sum (way : Int32) (a : Int32) (b : Int32) (u : Int32) (s0 : zSt) (kk9 : Nat) : zi (zsnd (fX10_sum way a b u s0)) kk9 = zi s0 kk9 := zi_of (k2_fX10_sum way a b u s0) kk9

def fX10_times_a1 (s0 : zSt) : Int32 × zSt :=
    ((-101 : Int32), s0)
def fX10_times_a2 (s0 : zSt) : Int32 × zSt :=
    ((-101 : Int32), s0)
def fX10_times_a3 (k : Int32) (u : Int32) (t14 : zSt) : Int32 × zSt :=
    let t17 := zI t14 1 ((t14.2.2 1) - (nI (1)))
    let t18 := fX10_fromSlot 20 k.toNatClampNeg t17
    let t19 := fX10_many 18 10 20 t18
    let t20 := fX10_storePoint u.toNatClampNeg 18 t19
    (nI (1), t20)
def fX10_times_a4 (t14 : zSt) : Int32 × zSt :=
    ((-1 : Int32), t14)
def fX10_times_a5 (k : Int32) (a : Int32) (u : Int32) (s0 : zSt) : Int32 × zSt :=
    let t14 := zsnd (fX10_opens 10 a.toNatClampNeg s0)
    bif (zfst (fX10_opens 10 a.toNatClampNeg s0)) then
      fX10_times_a3 k u t14
    else
      fX10_times_a4 t14
def fX10_times_a6 (s0 : zSt) : Int32 × zSt :=
    ((-103 : Int32), s0)
def fX10_times_a7 (k : Int32) (a : Int32) (u : Int32) (s0 : zSt) : Int32 × zSt :=
    if nI (1) ≤ s0.2.2 1 then
      fX10_times_a5 k a u s0
    else
      fX10_times_a6 s0
def fX10_times_a8 (s0 : zSt) : Int32 × zSt :=
    ((-101 : Int32), s0)
def fX10_times_a9 (k : Int32) (a : Int32) (u : Int32) (s0 : zSt) : Int32 × zSt :=
    bif (vX10_isSlot u s0) then
      fX10_times_a7 k a u s0
    else
      fX10_times_a8 s0
def fX10_times_a10 (k : Int32) (a : Int32) (u : Int32) (s0 : zSt) : Int32 × zSt :=
    bif (vX10_isSlot a s0) then
      fX10_times_a9 k a u s0
    else
      fX10_times_a2 s0
def fX10_times (k : Int32) (a : Int32) (u : Int32) (s0 : zSt) : Int32 × zSt :=
    bif (vX10_isSlot k s0) then
      fX10_times_a10 k a u s0
    else
      fX10_times_a1 s0
set_option maxHeartbeats 4000000 in
set_option maxRecDepth 100000 in
theorem k_X10_times (l : Launch) (D : va_G) (kc : Nat → ClassId) (ad : Nat → Nat) (k : Int32) (a : Int32) (u : Int32) (s0 : zSt) : zM l yX10_times cX10_times 4 (some .int) rX10_times (wM D kc ad) [.ref (zad (wM D kc ad) 17), .int k, .int a, .int u] s0 (zV1 (.int (zfst (fX10_times k a u s0))) (zsnd (fX10_times k a u s0))) := by
  refine z_of (own := RX10) (by decide +kernel) rfl (Nat.le_of_ble_eq_true rfl) ?_
  intro κ C R0
  refine j_at [(0, .ref (zad (wM D kc ad) 17)), (1, .int k), (2, .int a), (3, .int u)] ⟨rfl, rfl, rfl, rfl, trivial⟩ ?_
  refine j_iload_n C dX10_times_0 rfl rfl ?_
  refine j_callS1 C dX10_times_1 (k_X10_isSlot l D kc ad (k) _ ) zy_X10_isSlot mw_15_3 rfl rfl (Nat.le_of_ble_eq_true rfl) ⟨rfl, rfl, Nat.le_of_ble_eq_true rfl, Nat.le_of_ble_eq_true rfl⟩ ?_
  refine j_if_eqB (tgt := 21) C dX10_times_4 (by decide) (fun q1 => ?_) (fun q1 => ?_)
  · have hA2 : fX10_times k a u s0 = fX10_times_a1 s0 := by have q1z := q1; (try dsimp only at q1z); unfold fX10_times; (try dsimp only); rw [q1z, cond_false]; (try rfl)
    refine j_bipush (v := -101) C dX10_times_21 (by decide +kernel) ?_
    exact j_iret (st := []) C R0 dX10_times_23 ⟨(by rw [hA2]; unfold fX10_times_a1; (try dsimp only); all_goals ((try simp only [zfst_mk, zsnd_mk]); all_goals rfl)), ((by rw [hA2]; unfold fX10_times_a1; (try dsimp only); all_goals ((try simp only [zfst_mk, zsnd_mk]); all_goals rfl)))⟩
  · have hA3 : fX10_times k a u s0 = fX10_times_a10 k a u s0 := by have q1z := q1; (try dsimp only at q1z); unfold fX10_times; (try dsimp only); rw [q1z, cond_true]; (try rfl)
    refine j_iload_n C dX10_times_7 rfl rfl ?_
    refine j_callS1 C dX10_times_8 (k_X10_isSlot l D kc ad (a) _ ) zy_X10_isSlot mw_15_3 rfl rfl (Nat.le_of_ble_eq_true rfl) ⟨rfl, rfl, Nat.le_of_ble_eq_true rfl, Nat.le_of_ble_eq_true rfl⟩ ?_
    refine j_if_eqB (tgt := 21) C dX10_times_11 (by decide) (fun q4 => ?_) (fun q4 => ?_)
    · have hA5 : fX10_times_a10 k a u s0 = fX10_times_a2 s0 := by have q4z := q4; (try dsimp only at q4z); unfold fX10_times_a10; (try dsimp only); rw [q4z, cond_false]; (try rfl)
      refine j_bipush (v := -101) C dX10_times_21 (by decide +kernel) ?_
      exact j_iret (st := []) C R0 dX10_times_23 ⟨(by rw [hA3, hA5]; unfold fX10_times_a2; (try dsimp only); all_goals ((try simp only [zfst_mk, zsnd_mk]); all_goals rfl)), ((by rw [hA3, hA5]; unfold fX10_times_a2; (try dsimp only); all_goals ((try simp only [zfst_mk, zsnd_mk]); all_goals rfl)))⟩
    · have hA6 : fX10_times_a10 k a u s0 = fX10_times_a9 k a u s0 := by have q4z := q4; (try dsimp only at q4z); unfold fX10_times_a10; (try dsimp only); rw [q4z, cond_true]; (try rfl)
      refine j_iload_n C dX10_times_14 rfl rfl ?_
      refine j_callS1 C dX10_times_15 (k_X10_isSlot l D kc ad (u) _ ) zy_X10_isSlot mw_15_3 rfl rfl (Nat.le_of_ble_eq_true rfl) ⟨rfl, rfl, Nat.le_of_ble_eq_true rfl, Nat.le_of_ble_eq_true rfl⟩ ?_
      refine j_if_neB (tgt := 24) C dX10_times_18 (by decide) (fun q7 => ?_) (fun q7 => ?_)
      · have hA8 : fX10_times_a9 k a u s0 = fX10_times_a7 k a u s0 := by have q7z := q7; (try dsimp only at q7z); unfold fX10_times_a9; (try dsimp only); rw [q7z, cond_true]; (try rfl)
        have hc9 := msl_of (x := k) (by assumption)
        have hc9b := hc9.2
        have hc10 := msl_of (x := a) (by assumption)
        have hc10b := hc10.2
        have hc11 := msl_of (x := u) (by assumption)
        have hc11b := hc11.2
        refine j_at [(0, .ref (zad (wM D kc ad) 17)), (1, .int (nI (k.toNatClampNeg))), (2, .int (nI (a.toNatClampNeg))), (3, .int (nI (u.toNatClampNeg)))] ⟨rfl, congrArg (fun q => some (Value.int q)) hc9.1, congrArg (fun q => some (Value.int q)) hc10.1, congrArg (fun q => some (Value.int q)) hc11.1, trivial⟩ ?_
        refine j_aload_n C dX10_times_24 rfl rfl ?_
        refine j_getI C dX10_times_25 (fx_RX10_17 D kc ad) (Nat.zero_le _) (show 17 < 18 by decide) ?_
        refine j_iconst (v := nI 1) C dX10_times_28 (by decide +kernel) ?_
        refine j_icmp_ge (tgt := 35) C dX10_times_29 (by decide) (fun q12 => ?_) (fun q12 => ?_)
        · have hA13 : fX10_times_a7 k a u s0 = fX10_times_a5 k a u s0 := by have q12z := q12; (try dsimp only at q12z); unfold fX10_times_a7; (try dsimp only); rw [if_pos q12z]; (try rfl)
          refine j_aload_n C dX10_times_35 rfl rfl ?_
          refine j_bipush (v := nI 10) C dX10_times_36 (by decide +kernel) ?_
          refine j_iload_n C dX10_times_38 rfl rfl ?_
          refine j_callV1 (T := TX10) (N := 23) C dX10_times_39 (k_X10_opens l D kc ad 10 (by omega) a.toNatClampNeg (by omega) _ ) zy_X10_opens mw_27_0 rfl rfl (Nat.zero_le _) (show 17 < 18 by decide) rfl rfl (Nat.le_of_ble_eq_true rfl) ⟨rfl, rfl, Nat.le_of_ble_eq_true rfl, Nat.le_of_ble_eq_true rfl⟩ ?_
          refine j_nmS (fun t14 et14 => ?_)
          refine j_if_neB (tgt := 47) C dX10_times_42 (by decide) (fun q15 => ?_) (fun q15 => ?_)
          · have hA16 : fX10_times_a5 k a u s0 = fX10_times_a3 k u t14 := by (try rw [et14]); have q15z := q15; (try rw [et14] at q15z); (try dsimp only at q15z); unfold fX10_times_a5; (try dsimp only); rw [q15z, cond_true]; (try rfl)
            refine j_aload_n C dX10_times_47 rfl rfl ?_
            refine j_dup C dX10_times_48 rfl ?_
            refine j_getI C dX10_times_49 (fx_RX10_17 D kc ad) (Nat.zero_le _) (show 17 < 18 by decide) ?_
            refine j_iconst (v := nI 1) C dX10_times_52 (by decide +kernel) ?_
            refine j_isub C dX10_times_53 ?_
            refine j_putI C dX10_times_54 (pfx_RX10_17 D kc ad) (om_1 D kc ad) (Nat.zero_le _) (show 17 < 18 by decide) ?_
            refine j_nmS (fun t17 et17 => ?_)
            refine j_aload_n C dX10_times_57 rfl rfl ?_
            refine j_bipush (v := nI 20) C dX10_times_58 (by decide +kernel) ?_
            refine j_iload_n C dX10_times_60 rfl rfl ?_
            refine j_callV0 (T := TX10) (N := 23) C dX10_times_61 (k_X10_fromSlot l D kc ad 20 (by omega) k.toNatClampNeg (by omega) _ ) zy_X10_fromSlot mw_16_9 rfl rfl (Nat.zero_le _) (show 17 < 18 by decide) rfl rfl (Nat.le_of_ble_eq_true rfl) ⟨rfl, rfl, Nat.le_of_ble_eq_true rfl, Nat.le_of_ble_eq_true rfl⟩ ?_
            refine j_nmS (fun t18 et18 => ?_)
            refine j_aload_n C dX10_times_64 rfl rfl ?_
            refine j_bipush (v := nI 18) C dX10_times_65 (by decide +kernel) ?_
            refine j_bipush (v := nI 10) C dX10_times_67 (by decide +kernel) ?_
            refine j_bipush (v := nI 20) C dX10_times_69 (by decide +kernel) ?_
            refine j_callV0 (T := TX10) (N := 23) C dX10_times_71 (k_X10_many l D kc ad 18 (by omega) 10 (by omega) 20 (by omega) _ ) zy_X10_many mw_30_2 rfl rfl (Nat.zero_le _) (show 17 < 18 by decide) rfl rfl (Nat.le_of_ble_eq_true rfl) ⟨rfl, rfl, Nat.le_of_ble_eq_true rfl, Nat.le_of_ble_eq_true rfl⟩ ?_
            refine j_nmS (fun t19 et19 => ?_)
            refine j_aload_n C dX10_times_74 rfl rfl ?_
            refine j_iload_n C dX10_times_75 rfl rfl ?_
            refine j_bipush (v := nI 18) C dX10_times_76 (by decide +kernel) ?_
            refine j_callV0 (T := TX10) (N := 23) C dX10_times_78 (k_X10_storePoint l D kc ad u.toNatClampNeg (by omega) 18 (by omega) _ ) zy_X10_storePoint mw_28_20 rfl rfl (Nat.zero_le _) (show 17 < 18 by decide) rfl rfl (Nat.le_of_ble_eq_true rfl) ⟨rfl, rfl, Nat.le_of_ble_eq_true rfl, Nat.le_of_ble_eq_true rfl⟩ ?_
            refine j_nmS (fun t20 et20 => ?_)
            refine j_iconst (v := nI 1) C dX10_times_81 (by decide +kernel) ?_
            exact j_iret (st := []) C R0 dX10_times_82 ⟨(by rw [hA3, hA6, hA8, hA13, hA16]; (try rw [et20]); (try rw [et19]); (try rw [et18]); (try rw [et17]); unfold fX10_times_a3; (try dsimp only); all_goals ((try simp only [zfst_mk, zsnd_mk]); all_goals rfl)), ((by rw [hA3, hA6, hA8, hA13, hA16]; (try rw [et20]); (try rw [et19]); (try rw [et18]); (try rw [et17]); unfold fX10_times_a3; (try dsimp only); all_goals ((try simp only [zfst_mk, zsnd_mk]); all_goals rfl)))⟩
          · have hA21 : fX10_times_a5 k a u s0 = fX10_times_a4 t14 := by (try rw [et14]); have q15z := q15; (try rw [et14] at q15z); (try dsimp only at q15z); unfold fX10_times_a5; (try dsimp only); rw [q15z, cond_false]; (try rfl)
            refine j_iconst (v := -1) C dX10_times_45 (by decide +kernel) ?_
            exact j_iret (st := []) C R0 dX10_times_46 ⟨(by rw [hA3, hA6, hA8, hA13, hA21]; unfold fX10_times_a4; (try dsimp only); all_goals ((try simp only [zfst_mk, zsnd_mk]); all_goals rfl)), ((by rw [hA3, hA6, hA8, hA13, hA21]; unfold fX10_times_a4; (try dsimp only); all_goals ((try simp only [zfst_mk, zsnd_mk]); all_goals rfl)))⟩
        · have hA22 : fX10_times_a7 k a u s0 = fX10_times_a6 s0 := by have q12z := q12; (try dsimp only at q12z); unfold fX10_times_a7; (try dsimp only); rw [if_neg q12z]; (try rfl)
          refine j_bipush (v := -103) C dX10_times_32 (by decide +kernel) ?_
          exact j_iret (st := []) C R0 dX10_times_34 ⟨(by rw [hA3, hA6, hA8, hA22]; unfold fX10_times_a6; (try dsimp only); all_goals ((try simp only [zfst_mk, zsnd_mk]); all_goals rfl)), ((by rw [hA3, hA6, hA8, hA22]; unfold fX10_times_a6; (try dsimp only); all_goals ((try simp only [zfst_mk, zsnd_mk]); all_goals rfl)))⟩
      · have hA23 : fX10_times_a9 k a u s0 = fX10_times_a8 s0 := by have q7z := q7; (try dsimp only at q7z); unfold fX10_times_a9; (try dsimp only); rw [q7z, cond_false]; (try rfl)
        refine j_bipush (v := -101) C dX10_times_21 (by decide +kernel) ?_
        exact j_iret (st := []) C R0 dX10_times_23 ⟨(by rw [hA3, hA6, hA23]; unfold fX10_times_a8; (try dsimp only); all_goals ((try simp only [zfst_mk, zsnd_mk]); all_goals rfl)), ((by rw [hA3, hA6, hA23]; unfold fX10_times_a8; (try dsimp only); all_goals ((try simp only [zfst_mk, zsnd_mk]); all_goals rfl)))⟩

def fX10_base_a1 (s0 : zSt) : Int32 × zSt :=
    ((-101 : Int32), s0)
def fX10_base_a2 (k : Int32) (u : Int32) (s0 : zSt) : Int32 × zSt :=
    let t10 := zI s0 1 ((s0.2.2 1) - (nI (1)))
    let t11 := fX10_fromSlot 20 k.toNatClampNeg t10
    let t12 := fX10_many 18 5 20 t11
    let t13 := fX10_storePoint u.toNatClampNeg 18 t12
    (nI (1), t13)
def fX10_base_a3 (s0 : zSt) : Int32 × zSt :=
    ((-103 : Int32), s0)
def fX10_base_a4 (k : Int32) (u : Int32) (s0 : zSt) : Int32 × zSt :=
    if nI (1) ≤ s0.2.2 1 then
      fX10_base_a2 k u s0
    else
      fX10_base_a3 s0
def fX10_base_a5 (s0 : zSt) : Int32 × zSt :=
    ((-101 : Int32), s0)
def fX10_base_a6 (k : Int32) (u : Int32) (s0 : zSt) : Int32 × zSt :=
    bif (vX10_isSlot u s0) then
      fX10_base_a4 k u s0
    else
      fX10_base_a5 s0
def fX10_base (k : Int32) (u : Int32) (s0 : zSt) : Int32 × zSt :=
    bif (vX10_isSlot k s0) then
      fX10_base_a6 k u s0
    else
      fX10_base_a1 s0
set_option maxHeartbeats 4000000 in
set_option maxRecDepth 100000 in
theorem k_X10_base (l : Launch) (D : va_G) (kc : Nat → ClassId) (ad : Nat → Nat) (k : Int32) (u : Int32) (s0 : zSt) : zM l yX10_base cX10_base 3 (some .int) rX10_base (wM D kc ad) [.ref (zad (wM D kc ad) 17), .int k, .int u] s0 (zV1 (.int (zfst (fX10_base k u s0))) (zsnd (fX10_base k u s0))) := by
  refine z_of (own := RX10) (by decide +kernel) rfl (Nat.le_of_ble_eq_true rfl) ?_
  intro κ C R0
  refine j_at [(0, .ref (zad (wM D kc ad) 17)), (1, .int k), (2, .int u)] ⟨rfl, rfl, rfl, trivial⟩ ?_
  refine j_iload_n C dX10_base_0 rfl rfl ?_
  refine j_callS1 C dX10_base_1 (k_X10_isSlot l D kc ad (k) _ ) zy_X10_isSlot mw_15_3 rfl rfl (Nat.le_of_ble_eq_true rfl) ⟨rfl, rfl, Nat.le_of_ble_eq_true rfl, Nat.le_of_ble_eq_true rfl⟩ ?_
  refine j_if_eqB (tgt := 14) C dX10_base_4 (by decide) (fun q1 => ?_) (fun q1 => ?_)
  · have hA2 : fX10_base k u s0 = fX10_base_a1 s0 := by have q1z := q1; (try dsimp only at q1z); unfold fX10_base; (try dsimp only); rw [q1z, cond_false]; (try rfl)
    refine j_bipush (v := -101) C dX10_base_14 (by decide +kernel) ?_
    exact j_iret (st := []) C R0 dX10_base_16 ⟨(by rw [hA2]; unfold fX10_base_a1; (try dsimp only); all_goals ((try simp only [zfst_mk, zsnd_mk]); all_goals rfl)), ((by rw [hA2]; unfold fX10_base_a1; (try dsimp only); all_goals ((try simp only [zfst_mk, zsnd_mk]); all_goals rfl)))⟩
  · have hA3 : fX10_base k u s0 = fX10_base_a6 k u s0 := by have q1z := q1; (try dsimp only at q1z); unfold fX10_base; (try dsimp only); rw [q1z, cond_true]; (try rfl)
    refine j_iload_n C dX10_base_7 rfl rfl ?_
    refine j_callS1 C dX10_base_8 (k_X10_isSlot l D kc ad (u) _ ) zy_X10_isSlot mw_15_3 rfl rfl (Nat.le_of_ble_eq_true rfl) ⟨rfl, rfl, Nat.le_of_ble_eq_true rfl, Nat.le_of_ble_eq_true rfl⟩ ?_
    refine j_if_neB (tgt := 17) C dX10_base_11 (by decide) (fun q4 => ?_) (fun q4 => ?_)
    · have hA5 : fX10_base_a6 k u s0 = fX10_base_a4 k u s0 := by have q4z := q4; (try dsimp only at q4z); unfold fX10_base_a6; (try dsimp only); rw [q4z, cond_true]; (try rfl)
      have hc6 := msl_of (x := k) (by assumption)
      have hc6b := hc6.2
      have hc7 := msl_of (x := u) (by assumption)
      have hc7b := hc7.2
      refine j_at [(0, .ref (zad (wM D kc ad) 17)), (1, .int (nI (k.toNatClampNeg))), (2, .int (nI (u.toNatClampNeg)))] ⟨rfl, congrArg (fun q => some (Value.int q)) hc6.1, congrArg (fun q => some (Value.int q)) hc7.1, trivial⟩ ?_
      refine j_aload_n C dX10_base_17 rfl rfl ?_
      refine j_getI C dX10_base_18 (fx_RX10_17 D kc ad) (Nat.zero_le _) (show 17 < 18 by decide) ?_
      refine j_iconst (v := nI 1) C dX10_base_21 (by decide +kernel) ?_
      refine j_icmp_ge (tgt := 28) C dX10_base_22 (by decide) (fun q8 => ?_) (fun q8 => ?_)
      · have hA9 : fX10_base_a4 k u s0 = fX10_base_a2 k u s0 := by have q8z := q8; (try dsimp only at q8z); unfold fX10_base_a4; (try dsimp only); rw [if_pos q8z]; (try rfl)
        refine j_aload_n C dX10_base_28 rfl rfl ?_
        refine j_dup C dX10_base_29 rfl ?_
        refine j_getI C dX10_base_30 (fx_RX10_17 D kc ad) (Nat.zero_le _) (show 17 < 18 by decide) ?_
        refine j_iconst (v := nI 1) C dX10_base_33 (by decide +kernel) ?_
        refine j_isub C dX10_base_34 ?_
        refine j_putI C dX10_base_35 (pfx_RX10_17 D kc ad) (om_1 D kc ad) (Nat.zero_le _) (show 17 < 18 by decide) ?_
        refine j_nmS (fun t10 et10 => ?_)
        refine j_aload_n C dX10_base_38 rfl rfl ?_
        refine j_bipush (v := nI 20) C dX10_base_39 (by decide +kernel) ?_
        refine j_iload_n C dX10_base_41 rfl rfl ?_
        refine j_callV0 (T := TX10) (N := 23) C dX10_base_42 (k_X10_fromSlot l D kc ad 20 (by omega) k.toNatClampNeg (by omega) _ ) zy_X10_fromSlot mw_16_9 rfl rfl (Nat.zero_le _) (show 17 < 18 by decide) rfl rfl (Nat.le_of_ble_eq_true rfl) ⟨rfl, rfl, Nat.le_of_ble_eq_true rfl, Nat.le_of_ble_eq_true rfl⟩ ?_
        refine j_nmS (fun t11 et11 => ?_)
        refine j_aload_n C dX10_base_45 rfl rfl ?_
        refine j_bipush (v := nI 18) C dX10_base_46 (by decide +kernel) ?_
        refine j_iconst (v := nI 5) C dX10_base_48 (by decide +kernel) ?_
        refine j_bipush (v := nI 20) C dX10_base_49 (by decide +kernel) ?_
        refine j_callV0 (T := TX10) (N := 23) C dX10_base_51 (k_X10_many l D kc ad 18 (by omega) 5 (by omega) 20 (by omega) _ ) zy_X10_many mw_30_2 rfl rfl (Nat.zero_le _) (show 17 < 18 by decide) rfl rfl (Nat.le_of_ble_eq_true rfl) ⟨rfl, rfl, Nat.le_of_ble_eq_true rfl, Nat.le_of_ble_eq_true rfl⟩ ?_
        refine j_nmS (fun t12 et12 => ?_)
        refine j_aload_n C dX10_base_54 rfl rfl ?_
        refine j_iload_n C dX10_base_55 rfl rfl ?_
        refine j_bipush (v := nI 18) C dX10_base_56 (by decide +kernel) ?_
        refine j_callV0 (T := TX10) (N := 23) C dX10_base_58 (k_X10_storePoint l D kc ad u.toNatClampNeg (by omega) 18 (by omega) _ ) zy_X10_storePoint mw_28_20 rfl rfl (Nat.zero_le _) (show 17 < 18 by decide) rfl rfl (Nat.le_of_ble_eq_true rfl) ⟨rfl, rfl, Nat.le_of_ble_eq_true rfl, Nat.le_of_ble_eq_true rfl⟩ ?_
        refine j_nmS (fun t13 et13 => ?_)
        refine j_iconst (v := nI 1) C dX10_base_61 (by decide +kernel) ?_
        exact j_iret (st := []) C R0 dX10_base_62 ⟨(by rw [hA3, hA5, hA9]; (try rw [et13]); (try rw [et12]); (try rw [et11]); (try rw [et10]); unfold fX10_base_a2; (try dsimp only); all_goals ((try simp only [zfst_mk, zsnd_mk]); all_goals rfl)), ((by rw [hA3, hA5, hA9]; (try rw [et13]); (try rw [et12]); (try rw [et11]); (try rw [et10]); unfold fX10_base_a2; (try dsimp only); all_goals ((try simp only [zfst_mk, zsnd_mk]); all_goals rfl)))⟩
      · have hA14 : fX10_base_a4 k u s0 = fX10_base_a3 s0 := by have q8z := q8; (try dsimp only at q8z); unfold fX10_base_a4; (try dsimp only); rw [if_neg q8z]; (try rfl)
        refine j_bipush (v := -103) C dX10_base_25 (by decide +kernel) ?_
        exact j_iret (st := []) C R0 dX10_base_27 ⟨(by rw [hA3, hA5, hA14]; unfold fX10_base_a3; (try dsimp only); all_goals ((try simp only [zfst_mk, zsnd_mk]); all_goals rfl)), ((by rw [hA3, hA5, hA14]; unfold fX10_base_a3; (try dsimp only); all_goals ((try simp only [zfst_mk, zsnd_mk]); all_goals rfl)))⟩
    · have hA15 : fX10_base_a6 k u s0 = fX10_base_a5 s0 := by have q4z := q4; (try dsimp only at q4z); unfold fX10_base_a6; (try dsimp only); rw [q4z, cond_false]; (try rfl)
      refine j_bipush (v := -101) C dX10_base_14 (by decide +kernel) ?_
      exact j_iret (st := []) C R0 dX10_base_16 ⟨(by rw [hA3, hA15]; unfold fX10_base_a5; (try dsimp only); all_goals ((try simp only [zfst_mk, zsnd_mk]); all_goals rfl)), ((by rw [hA3, hA15]; unfold fX10_base_a5; (try dsimp only); all_goals ((try simp only [zfst_mk, zsnd_mk]); all_goals rfl)))⟩

def fX10_small_a1 (t8 : zSt) : Int32 × zSt :=
    (nI (0), t8)
def fX10_small_a2 (t14 : zSt) : Int32 × zSt :=
    (nI (1), t14)
def fX10_small_a3 (t20 : zSt) : Int32 × zSt :=
    (nI (2), t20)
def fX10_small_a4 (t26 : zSt) : Int32 × zSt :=
    (nI (3), t26)
def fX10_small_a5 (t26 : zSt) : Int32 × zSt :=
    let t30 := fX10_addPoint 10 10 t26
    (nI (4), t30)
def fX10_small_a6 (t20 : zSt) : Int32 × zSt :=
    let t24 := fX10_addPoint 10 10 t20
    let t26 := zsnd (fX10_isNeutral 10 t24)
    bif (zfst (fX10_isNeutral 10 t24)) then
      fX10_small_a4 t26
    else
      fX10_small_a5 t26
def fX10_small_a7 (t14 : zSt) : Int32 × zSt :=
    let t18 := fX10_addPoint 10 10 t14
    let t20 := zsnd (fX10_isNeutral 10 t18)
    bif (zfst (fX10_isNeutral 10 t18)) then
      fX10_small_a3 t20
    else
      fX10_small_a6 t20
def fX10_small_a8 (t8 : zSt) : Int32 × zSt :=
    let t12 := fX10_addPoint 10 10 t8
    let t14 := zsnd (fX10_isNeutral 10 t12)
    bif (zfst (fX10_isNeutral 10 t12)) then
      fX10_small_a2 t14
    else
      fX10_small_a7 t14
def fX10_small_a9 (t4 : zSt) : Int32 × zSt :=
    let t8 := zsnd (fX10_isNeutral 10 t4)
    bif (zfst (fX10_isNeutral 10 t4)) then
      fX10_small_a1 t8
    else
      fX10_small_a8 t8
def fX10_small_a10 (t4 : zSt) : Int32 × zSt :=
    ((-1 : Int32), t4)
def fX10_small_a11 (a : Int32) (s0 : zSt) : Int32 × zSt :=
    let t4 := zsnd (fX10_opens 10 a.toNatClampNeg s0)
    bif (zfst (fX10_opens 10 a.toNatClampNeg s0)) then
      fX10_small_a9 t4
    else
      fX10_small_a10 t4
def fX10_small_a12 (s0 : zSt) : Int32 × zSt :=
    ((-101 : Int32), s0)
def fX10_small (a : Int32) (s0 : zSt) : Int32 × zSt :=
    bif (vX10_isSlot a s0) then
      fX10_small_a11 a s0
    else
      fX10_small_a12 s0
set_option maxHeartbeats 4000000 in
set_option maxRecDepth 100000 in
theorem k_X10_small (l : Launch) (D : va_G) (kc : Nat → ClassId) (ad : Nat → Nat) (a : Int32) (s0 : zSt) : zM l yX10_small cX10_small 3 (some .int) rX10_small (wM D kc ad) [.ref (zad (wM D kc ad) 17), .int a] s0 (zV1 (.int (zfst (fX10_small a s0))) (zsnd (fX10_small a s0))) := by
  refine z_of (own := RX10) (by decide +kernel) rfl (Nat.le_of_ble_eq_true rfl) ?_
  intro κ C R0
  refine j_at [(0, .ref (zad (wM D kc ad) 17)), (1, .int a)] ⟨rfl, rfl, trivial⟩ ?_
  refine j_iload_n C dX10_small_0 rfl rfl ?_
  refine j_callS1 C dX10_small_1 (k_X10_isSlot l D kc ad (a) _ ) zy_X10_isSlot mw_15_3 rfl rfl (Nat.le_of_ble_eq_true rfl) ⟨rfl, rfl, Nat.le_of_ble_eq_true rfl, Nat.le_of_ble_eq_true rfl⟩ ?_
  refine j_if_neB (tgt := 10) C dX10_small_4 (by decide) (fun q1 => ?_) (fun q1 => ?_)
  · have hA2 : fX10_small a s0 = fX10_small_a11 a s0 := by have q1z := q1; (try dsimp only at q1z); unfold fX10_small; (try dsimp only); rw [q1z, cond_true]; (try rfl)
    have hc3 := msl_of (x := a) (by assumption)
    have hc3b := hc3.2
    refine j_at [(0, .ref (zad (wM D kc ad) 17)), (1, .int (nI (a.toNatClampNeg)))] ⟨rfl, congrArg (fun q => some (Value.int q)) hc3.1, trivial⟩ ?_
    refine j_aload_n C dX10_small_10 rfl rfl ?_
    refine j_bipush (v := nI 10) C dX10_small_11 (by decide +kernel) ?_
    refine j_iload_n C dX10_small_13 rfl rfl ?_
    refine j_callV1 (T := TX10) (N := 23) C dX10_small_14 (k_X10_opens l D kc ad 10 (by omega) a.toNatClampNeg (by omega) _ ) zy_X10_opens mw_27_0 rfl rfl (Nat.zero_le _) (show 17 < 18 by decide) rfl rfl (Nat.le_of_ble_eq_true rfl) ⟨rfl, rfl, Nat.le_of_ble_eq_true rfl, Nat.le_of_ble_eq_true rfl⟩ ?_
    refine j_nmS (fun t4 et4 => ?_)
    refine j_if_neB (tgt := 22) C dX10_small_17 (by decide) (fun q5 => ?_) (fun q5 => ?_)
    · have hA6 : fX10_small_a11 a s0 = fX10_small_a9 t4 := by (try rw [et4]); have q5z := q5; (try rw [et4] at q5z); (try dsimp only at q5z); unfold fX10_small_a11; (try dsimp only); rw [q5z, cond_true]; (try rfl)
      refine j_iconst (v := nI 0) C dX10_small_22 (by decide +kernel) ?_
      refine j_istore_n C dX10_small_23 rfl (by decide) ?_
      refine j_iload_n C dX10_small_24 rfl rfl ?_
      refine j_iconst (v := nI 4) C dX10_small_25 (by decide +kernel) ?_
      refine j_icmp_geN (tgt := 52) C dX10_small_26 (by decide) (by omega) (by omega) (fun q7 => False.elim (by omega)) (fun q7 => ?_)
      refine j_aload_n C dX10_small_29 rfl rfl ?_
      refine j_bipush (v := nI 10) C dX10_small_30 (by decide +kernel) ?_
      refine j_callV1 (T := TX10) (N := 23) C dX10_small_32 (k_X10_isNeutral l D kc ad 10 (by omega) _ ) zy_X10_isNeutral mw_31_9 rfl rfl (Nat.zero_le _) (show 17 < 18 by decide) rfl rfl (Nat.le_of_ble_eq_true rfl) ⟨rfl, rfl, Nat.le_of_ble_eq_true rfl, Nat.le_of_ble_eq_true rfl⟩ ?_
      refine j_nmS (fun t8 et8 => ?_)
      refine j_if_neB (tgt := 52) C dX10_small_35 (by decide) (fun q9 => ?_) (fun q9 => ?_)
      · have hA10 : fX10_small_a9 t4 = fX10_small_a1 t8 := by (try rw [et8]); have q9z := q9; (try rw [et8] at q9z); (try dsimp only at q9z); unfold fX10_small_a9; (try dsimp only); rw [q9z, cond_true]; (try rfl)
        refine j_iload_n C dX10_small_52 rfl rfl ?_
        exact j_iret (st := []) C R0 dX10_small_53 ⟨(by rw [hA2, hA6, hA10]; unfold fX10_small_a1; (try dsimp only); all_goals ((try simp only [zfst_mk, zsnd_mk]); all_goals rfl)), ((by rw [hA2, hA6, hA10]; unfold fX10_small_a1; (try dsimp only); all_goals ((try simp only [zfst_mk, zsnd_mk]); all_goals rfl)))⟩
      · have hA11 : fX10_small_a9 t4 = fX10_small_a8 t8 := by (try rw [et8]); have q9z := q9; (try rw [et8] at q9z); (try dsimp only at q9z); unfold fX10_small_a9; (try dsimp only); rw [q9z, cond_false]; (try rfl)
        refine j_aload_n C dX10_small_38 rfl rfl ?_
        refine j_bipush (v := nI 10) C dX10_small_39 (by decide +kernel) ?_
        refine j_bipush (v := nI 10) C dX10_small_41 (by decide +kernel) ?_
        refine j_callV0 (T := TX10) (N := 23) C dX10_small_43 (k_X10_addPoint l D kc ad 10 (by omega) 10 (by omega) _ ) zy_X10_addPoint mw_28_16 rfl rfl (Nat.zero_le _) (show 17 < 18 by decide) rfl rfl (Nat.le_of_ble_eq_true rfl) ⟨rfl, rfl, Nat.le_of_ble_eq_true rfl, Nat.le_of_ble_eq_true rfl⟩ ?_
        refine j_nmS (fun t12 et12 => ?_)
        refine j_iincN (b := 1) C dX10_small_46 rfl (by decide +kernel) (by decide) ?_
        refine j_goto (tgt := 24) C dX10_small_49 (by decide) ?_
        refine j_iload_n C dX10_small_24 rfl rfl ?_
        refine j_iconst (v := nI 4) C dX10_small_25 (by decide +kernel) ?_
        refine j_icmp_geN (tgt := 52) C dX10_small_26 (by decide) (by omega) (by omega) (fun q13 => False.elim (by omega)) (fun q13 => ?_)
        refine j_aload_n C dX10_small_29 rfl rfl ?_
        refine j_bipush (v := nI 10) C dX10_small_30 (by decide +kernel) ?_
        refine j_callV1 (T := TX10) (N := 23) C dX10_small_32 (k_X10_isNeutral l D kc ad 10 (by omega) _ ) zy_X10_isNeutral mw_31_9 rfl rfl (Nat.zero_le _) (show 17 < 18 by decide) rfl rfl (Nat.le_of_ble_eq_true rfl) ⟨rfl, rfl, Nat.le_of_ble_eq_true rfl, Nat.le_of_ble_eq_true rfl⟩ ?_
        refine j_nmS (fun t14 et14 => ?_)
        refine j_if_neB (tgt := 52) C dX10_small_35 (by decide) (fun q15 => ?_) (fun q15 => ?_)
        · have hA16 : fX10_small_a8 t8 = fX10_small_a2 t14 := by (try rw [et14]); (try rw [et12]); have q15z := q15; (try rw [et14] at q15z); (try rw [et12] at q15z); (try dsimp only at q15z); unfold fX10_small_a8; (try dsimp only); rw [q15z, cond_true]; (try rfl)
          refine j_iload_n C dX10_small_52 rfl rfl ?_
          exact j_iret (st := []) C R0 dX10_small_53 ⟨(by rw [hA2, hA6, hA11, hA16]; unfold fX10_small_a2; (try dsimp only); all_goals ((try simp only [zfst_mk, zsnd_mk]); all_goals rfl)), ((by rw [hA2, hA6, hA11, hA16]; unfold fX10_small_a2; (try dsimp only); all_goals ((try simp only [zfst_mk, zsnd_mk]); all_goals rfl)))⟩
        · have hA17 : fX10_small_a8 t8 = fX10_small_a7 t14 := by (try rw [et14]); (try rw [et12]); have q15z := q15; (try rw [et14] at q15z); (try rw [et12] at q15z); (try dsimp only at q15z); unfold fX10_small_a8; (try dsimp only); rw [q15z, cond_false]; (try rfl)
          refine j_aload_n C dX10_small_38 rfl rfl ?_
          refine j_bipush (v := nI 10) C dX10_small_39 (by decide +kernel) ?_
          refine j_bipush (v := nI 10) C dX10_small_41 (by decide +kernel) ?_
          refine j_callV0 (T := TX10) (N := 23) C dX10_small_43 (k_X10_addPoint l D kc ad 10 (by omega) 10 (by omega) _ ) zy_X10_addPoint mw_28_16 rfl rfl (Nat.zero_le _) (show 17 < 18 by decide) rfl rfl (Nat.le_of_ble_eq_true rfl) ⟨rfl, rfl, Nat.le_of_ble_eq_true rfl, Nat.le_of_ble_eq_true rfl⟩ ?_
          refine j_nmS (fun t18 et18 => ?_)
          refine j_iincN (b := 1) C dX10_small_46 rfl (by decide +kernel) (by decide) ?_
          refine j_goto (tgt := 24) C dX10_small_49 (by decide) ?_
          refine j_iload_n C dX10_small_24 rfl rfl ?_
          refine j_iconst (v := nI 4) C dX10_small_25 (by decide +kernel) ?_
          refine j_icmp_geN (tgt := 52) C dX10_small_26 (by decide) (by omega) (by omega) (fun q19 => False.elim (by omega)) (fun q19 => ?_)
          refine j_aload_n C dX10_small_29 rfl rfl ?_
          refine j_bipush (v := nI 10) C dX10_small_30 (by decide +kernel) ?_
          refine j_callV1 (T := TX10) (N := 23) C dX10_small_32 (k_X10_isNeutral l D kc ad 10 (by omega) _ ) zy_X10_isNeutral mw_31_9 rfl rfl (Nat.zero_le _) (show 17 < 18 by decide) rfl rfl (Nat.le_of_ble_eq_true rfl) ⟨rfl, rfl, Nat.le_of_ble_eq_true rfl, Nat.le_of_ble_eq_true rfl⟩ ?_
          refine j_nmS (fun t20 et20 => ?_)
          refine j_if_neB (tgt := 52) C dX10_small_35 (by decide) (fun q21 => ?_) (fun q21 => ?_)
          · have hA22 : fX10_small_a7 t14 = fX10_small_a3 t20 := by (try rw [et20]); (try rw [et18]); have q21z := q21; (try rw [et20] at q21z); (try rw [et18] at q21z); (try dsimp only at q21z); unfold fX10_small_a7; (try dsimp only); rw [q21z, cond_true]; (try rfl)
            refine j_iload_n C dX10_small_52 rfl rfl ?_
            exact j_iret (st := []) C R0 dX10_small_53 ⟨(by rw [hA2, hA6, hA11, hA17, hA22]; unfold fX10_small_a3; (try dsimp only); all_goals ((try simp only [zfst_mk, zsnd_mk]); all_goals rfl)), ((by rw [hA2, hA6, hA11, hA17, hA22]; unfold fX10_small_a3; (try dsimp only); all_goals ((try simp only [zfst_mk, zsnd_mk]); all_goals rfl)))⟩
          · have hA23 : fX10_small_a7 t14 = fX10_small_a6 t20 := by (try rw [et20]); (try rw [et18]); have q21z := q21; (try rw [et20] at q21z); (try rw [et18] at q21z); (try dsimp only at q21z); unfold fX10_small_a7; (try dsimp only); rw [q21z, cond_false]; (try rfl)
            refine j_aload_n C dX10_small_38 rfl rfl ?_
            refine j_bipush (v := nI 10) C dX10_small_39 (by decide +kernel) ?_
            refine j_bipush (v := nI 10) C dX10_small_41 (by decide +kernel) ?_
            refine j_callV0 (T := TX10) (N := 23) C dX10_small_43 (k_X10_addPoint l D kc ad 10 (by omega) 10 (by omega) _ ) zy_X10_addPoint mw_28_16 rfl rfl (Nat.zero_le _) (show 17 < 18 by decide) rfl rfl (Nat.le_of_ble_eq_true rfl) ⟨rfl, rfl, Nat.le_of_ble_eq_true rfl, Nat.le_of_ble_eq_true rfl⟩ ?_
            refine j_nmS (fun t24 et24 => ?_)
            refine j_iincN (b := 1) C dX10_small_46 rfl (by decide +kernel) (by decide) ?_
            refine j_goto (tgt := 24) C dX10_small_49 (by decide) ?_
            refine j_iload_n C dX10_small_24 rfl rfl ?_
            refine j_iconst (v := nI 4) C dX10_small_25 (by decide +kernel) ?_
            refine j_icmp_geN (tgt := 52) C dX10_small_26 (by decide) (by omega) (by omega) (fun q25 => False.elim (by omega)) (fun q25 => ?_)
            refine j_aload_n C dX10_small_29 rfl rfl ?_
            refine j_bipush (v := nI 10) C dX10_small_30 (by decide +kernel) ?_
            refine j_callV1 (T := TX10) (N := 23) C dX10_small_32 (k_X10_isNeutral l D kc ad 10 (by omega) _ ) zy_X10_isNeutral mw_31_9 rfl rfl (Nat.zero_le _) (show 17 < 18 by decide) rfl rfl (Nat.le_of_ble_eq_true rfl) ⟨rfl, rfl, Nat.le_of_ble_eq_true rfl, Nat.le_of_ble_eq_true rfl⟩ ?_
            refine j_nmS (fun t26 et26 => ?_)
            refine j_if_neB (tgt := 52) C dX10_small_35 (by decide) (fun q27 => ?_) (fun q27 => ?_)
            · have hA28 : fX10_small_a6 t20 = fX10_small_a4 t26 := by (try rw [et26]); (try rw [et24]); have q27z := q27; (try rw [et26] at q27z); (try rw [et24] at q27z); (try dsimp only at q27z); unfold fX10_small_a6; (try dsimp only); rw [q27z, cond_true]; (try rfl)
              refine j_iload_n C dX10_small_52 rfl rfl ?_
              exact j_iret (st := []) C R0 dX10_small_53 ⟨(by rw [hA2, hA6, hA11, hA17, hA23, hA28]; unfold fX10_small_a4; (try dsimp only); all_goals ((try simp only [zfst_mk, zsnd_mk]); all_goals rfl)), ((by rw [hA2, hA6, hA11, hA17, hA23, hA28]; unfold fX10_small_a4; (try dsimp only); all_goals ((try simp only [zfst_mk, zsnd_mk]); all_goals rfl)))⟩
            · have hA29 : fX10_small_a6 t20 = fX10_small_a5 t26 := by (try rw [et26]); (try rw [et24]); have q27z := q27; (try rw [et26] at q27z); (try rw [et24] at q27z); (try dsimp only at q27z); unfold fX10_small_a6; (try dsimp only); rw [q27z, cond_false]; (try rfl)
              refine j_aload_n C dX10_small_38 rfl rfl ?_
              refine j_bipush (v := nI 10) C dX10_small_39 (by decide +kernel) ?_
              refine j_bipush (v := nI 10) C dX10_small_41 (by decide +kernel) ?_
              refine j_callV0 (T := TX10) (N := 23) C dX10_small_43 (k_X10_addPoint l D kc ad 10 (by omega) 10 (by omega) _ ) zy_X10_addPoint mw_28_16 rfl rfl (Nat.zero_le _) (show 17 < 18 by decide) rfl rfl (Nat.le_of_ble_eq_true rfl) ⟨rfl, rfl, Nat.le_of_ble_eq_true rfl, Nat.le_of_ble_eq_true rfl⟩ ?_
              refine j_nmS (fun t30 et30 => ?_)
              refine j_iincN (b := 1) C dX10_small_46 rfl (by decide +kernel) (by decide) ?_
              refine j_goto (tgt := 24) C dX10_small_49 (by decide) ?_
              refine j_iload_n C dX10_small_24 rfl rfl ?_
              refine j_iconst (v := nI 4) C dX10_small_25 (by decide +kernel) ?_
              refine j_icmp_geN (tgt := 52) C dX10_small_26 (by decide) (by omega) (by omega) (fun q31 => ?_) (fun q31 => False.elim (by omega))
              refine j_iload_n C dX10_small_52 rfl rfl ?_
              exact j_iret (st := []) C R0 dX10_small_53 ⟨(by rw [hA2, hA6, hA11, hA17, hA23, hA29]; (try rw [et30]); unfold fX10_small_a5; (try dsimp only); all_goals ((try simp only [zfst_mk, zsnd_mk]); all_goals rfl)), ((by rw [hA2, hA6, hA11, hA17, hA23, hA29]; (try rw [et30]); unfold fX10_small_a5; (try dsimp only); all_goals ((try simp only [zfst_mk, zsnd_mk]); all_goals rfl)))⟩
    · have hA32 : fX10_small_a11 a s0 = fX10_small_a10 t4 := by (try rw [et4]); have q5z := q5; (try rw [et4] at q5z); (try dsimp only at q5z); unfold fX10_small_a11; (try dsimp only); rw [q5z, cond_false]; (try rfl)
      refine j_iconst (v := -1) C dX10_small_20 (by decide +kernel) ?_
      exact j_iret (st := []) C R0 dX10_small_21 ⟨(by rw [hA2, hA32]; unfold fX10_small_a10; (try dsimp only); all_goals ((try simp only [zfst_mk, zsnd_mk]); all_goals rfl)), ((by rw [hA2, hA32]; unfold fX10_small_a10; (try dsimp only); all_goals ((try simp only [zfst_mk, zsnd_mk]); all_goals rfl)))⟩
  · have hA33 : fX10_small a s0 = fX10_small_a12 s0 := by have q1z := q1; (try dsimp only at q1z); unfold fX10_small; (try dsimp only); rw [q1z, cond_false]; (try rfl)
    refine j_bipush (v := -101) C dX10_small_7 (by decide +kernel) ?_
    exact j_iret (st := []) C R0 dX10_small_9 ⟨(by rw [hA33]; unfold fX10_small_a12; (try dsimp only); all_goals ((try simp only [zfst_mk, zsnd_mk]); all_goals rfl)), ((by rw [hA33]; unfold fX10_small_a12; (try dsimp only); all_goals ((try simp only [zfst_mk, zsnd_mk]); all_goals rfl)))⟩
theorem k2q_fX10_small_a1 (t8 : zSt) : zk2s (fX10_small_a1 t8) = zk2 t8 := by
  unfold fX10_small_a1
  (try dsimp only)
  all_goals (simp only [zW_2, zL_2, zk2s_mk]; done)
theorem k2_fX10_small_a1 (t8 : zSt) : zk2 (zsnd (fX10_small_a1 t8)) = zk2 t8 := k2q_fX10_small_a1 t8
theorem k2q_fX10_small_a2 (t14 : zSt) : zk2s (fX10_small_a2 t14) = zk2 t14 := by
  unfold fX10_small_a2
  (try dsimp only)
  all_goals (simp only [zW_2, zL_2, zk2s_mk]; done)
theorem k2_fX10_small_a2 (t14 : zSt) : zk2 (zsnd (fX10_small_a2 t14)) = zk2 t14 := k2q_fX10_small_a2 t14
theorem k2q_fX10_small_a3 (t20 : zSt) : zk2s (fX10_small_a3 t20) = zk2 t20 := by
  unfold fX10_small_a3
  (try dsimp only)
  all_goals (simp only [zW_2, zL_2, zk2s_mk]; done)
theorem k2_fX10_small_a3 (t20 : zSt) : zk2 (zsnd (fX10_small_a3 t20)) = zk2 t20 := k2q_fX10_small_a3 t20
theorem k2q_fX10_small_a4 (t26 : zSt) : zk2s (fX10_small_a4 t26) = zk2 t26 := by
  unfold fX10_small_a4
  (try dsimp only)
  all_goals (simp only [zW_2, zL_2, zk2s_mk]; done)
theorem k2_fX10_small_a4 (t26 : zSt) : zk2 (zsnd (fX10_small_a4 t26)) = zk2 t26 := k2q_fX10_small_a4 t26
theorem k2q_fX10_small_a5 (t26 : zSt) : zk2s (fX10_small_a5 t26) = zk2 t26 := by
  unfold fX10_small_a5
  (try dsimp only)
  all_goals (simp only [zW_2, zL_2, k2_fX10_addPoint, zk2s_mk]; done)
theorem k2_fX10_small_a5 (t26 : zSt) : zk2 (zsnd (fX10_small_a5 t26)) = zk2 t26 := k2q_fX10_small_a5 t26
theorem k2q_fX10_small_a6 (t20 : zSt) : zk2s (fX10_small_a6 t20) = zk2 t20 := by
  unfold fX10_small_a6
  (try dsimp only)
  all_goals (refine cond_keep (fun r : Int32 × zSt => zk2s r) _ ?_ ?_ <;> (simp only [zW_2, zL_2, k2_fX10_addPoint, k2_fX10_isNeutral, k2_fX10_small_a4, k2_fX10_small_a5, k2q_fX10_isNeutral, k2q_fX10_small_a4, k2q_fX10_small_a5, zk2s_mk]; done))
theorem k2_fX10_small_a6 (t20 : zSt) : zk2 (zsnd (fX10_small_a6 t20)) = zk2 t20 := k2q_fX10_small_a6 t20
theorem k2q_fX10_small_a7 (t14 : zSt) : zk2s (fX10_small_a7 t14) = zk2 t14 := by
  unfold fX10_small_a7
  (try dsimp only)
  all_goals (refine cond_keep (fun r : Int32 × zSt => zk2s r) _ ?_ ?_ <;> (simp only [zW_2, zL_2, k2_fX10_addPoint, k2_fX10_isNeutral, k2_fX10_small_a3, k2_fX10_small_a6, k2q_fX10_isNeutral, k2q_fX10_small_a3, k2q_fX10_small_a6, zk2s_mk]; done))
theorem k2_fX10_small_a7 (t14 : zSt) : zk2 (zsnd (fX10_small_a7 t14)) = zk2 t14 := k2q_fX10_small_a7 t14
theorem k2q_fX10_small_a8 (t8 : zSt) : zk2s (fX10_small_a8 t8) = zk2 t8 := by
  unfold fX10_small_a8
  (try dsimp only)
  all_goals (refine cond_keep (fun r : Int32 × zSt => zk2s r) _ ?_ ?_ <;> (simp only [zW_2, zL_2, k2_fX10_addPoint, k2_fX10_isNeutral, k2_fX10_small_a2, k2_fX10_small_a7, k2q_fX10_isNeutral, k2q_fX10_small_a2, k2q_fX10_small_a7, zk2s_mk]; done))
theorem k2_fX10_small_a8 (t8 : zSt) : zk2 (zsnd (fX10_small_a8 t8)) = zk2 t8 := k2q_fX10_small_a8 t8
theorem k2q_fX10_small_a9 (t4 : zSt) : zk2s (fX10_small_a9 t4) = zk2 t4 := by
  unfold fX10_small_a9
  (try dsimp only)
  all_goals (refine cond_keep (fun r : Int32 × zSt => zk2s r) _ ?_ ?_ <;> (simp only [zW_2, zL_2, k2_fX10_isNeutral, k2_fX10_small_a1, k2_fX10_small_a8, k2q_fX10_isNeutral, k2q_fX10_small_a1, k2q_fX10_small_a8, zk2s_mk]; done))
theorem k2_fX10_small_a9 (t4 : zSt) : zk2 (zsnd (fX10_small_a9 t4)) = zk2 t4 := k2q_fX10_small_a9 t4
theorem k2q_fX10_small_a10 (t4 : zSt) : zk2s (fX10_small_a10 t4) = zk2 t4 := by
  unfold fX10_small_a10
  (try dsimp only)
  all_goals (simp only [zW_2, zL_2, zk2s_mk]; done)
theorem k2_fX10_small_a10 (t4 : zSt) : zk2 (zsnd (fX10_small_a10 t4)) = zk2 t4 := k2q_fX10_small_a10 t4
theorem k2q_fX10_small_a11 (a : Int32) (s0 : zSt) : zk2s (fX10_small_a11 a s0) = zk2 s0 := by
  unfold fX10_small_a11
  (try dsimp only)
  all_goals (refine cond_keep (fun r : Int32 × zSt => zk2s r) _ ?_ ?_ <;> (simp only [zW_2, zL_2, k2_fX10_opens, k2_fX10_small_a10, k2_fX10_small_a9, k2q_fX10_opens, k2q_fX10_small_a10, k2q_fX10_small_a9, zk2s_mk]; done))
theorem k2_fX10_small_a11 (a : Int32) (s0 : zSt) : zk2 (zsnd (fX10_small_a11 a s0)) = zk2 s0 := k2q_fX10_small_a11 a s0
theorem k2q_fX10_small_a12 (s0 : zSt) : zk2s (fX10_small_a12 s0) = zk2 s0 := by
  unfold fX10_small_a12
  (try dsimp only)
  all_goals (simp only [zW_2, zL_2, zk2s_mk]; done)
theorem k2_fX10_small_a12 (s0 : zSt) : zk2 (zsnd (fX10_small_a12 s0)) = zk2 s0 := k2q_fX10_small_a12 s0
theorem k2q_fX10_small (a : Int32) (s0 : zSt) : zk2s (fX10_small a s0) = zk2 s0 := by
  unfold fX10_small
  (try dsimp only)
  all_goals (refine cond_keep (fun r : Int32 × zSt => zk2s r) _ ?_ ?_ <;> (simp only [zW_2, zL_2, k2_fX10_small_a11, k2_fX10_small_a12, k2q_fX10_small_a11, k2q_fX10_small_a12, zk2s_mk]; done))
theorem k2_fX10_small (a : Int32) (s0 : zSt) : zk2 (zsnd (fX10_small a s0)) = zk2 s0 := k2q_fX10_small a s0
theorem i2_fX10_small (a : Int32) (s0 : zSt) (kk9 : Nat) : (zsnd (fX10_small a s0)).2.2 kk9 = s0.2.2 kk9 := z2_I (k2_fX10_small a s0) kk9
theorem i3_fX10_small (a : Int32) (s0 : zSt) (kk9 : Nat) : zi (zsnd (fX10_small a s0)) kk9 = zi s0 kk9 := zi_of (k2_fX10_small a s0) kk9

def fX10_other_a1 (s0 : zSt) : Int32 × zSt :=
    ((-101 : Int32), s0)
def fX10_other_a2 (u : Int32) (t8 : zSt) : Int32 × zSt :=
    let t11 := fX10_subtract 40 1 11 t8
    let t12 := fX10_add 36 1 11 t11
    let t13 := fX10_invert 37 40 t12
    let t14 := fX10_multiply 38 36 37 t13
    let t15 := fX10_store u.toNatClampNeg 38 t14
    (nI (1), t15)
def fX10_other_a3 (t8 : zSt) : Int32 × zSt :=
    ((-1 : Int32), t8)
def fX10_other_a4 (a : Int32) (u : Int32) (s0 : zSt) : Int32 × zSt :=
    let t8 := zsnd (fX10_opens 10 a.toNatClampNeg s0)
    bif (zfst (fX10_opens 10 a.toNatClampNeg s0)) then
      fX10_other_a2 u t8
    else
      fX10_other_a3 t8
def fX10_other_a5 (s0 : zSt) : Int32 × zSt :=
    ((-101 : Int32), s0)
def fX10_other_a6 (a : Int32) (u : Int32) (s0 : zSt) : Int32 × zSt :=
    bif (vX10_isSlot u s0) then
      fX10_other_a4 a u s0
    else
      fX10_other_a5 s0
def fX10_other (a : Int32) (u : Int32) (s0 : zSt) : Int32 × zSt :=
    bif (vX10_isSlot a s0) then
      fX10_other_a6 a u s0
    else
      fX10_other_a1 s0
set_option maxHeartbeats 4000000 in
set_option maxRecDepth 100000 in
theorem k_X10_other (l : Launch) (D : va_G) (kc : Nat → ClassId) (ad : Nat → Nat) (a : Int32) (u : Int32) (s0 : zSt) : zM l yX10_other cX10_other 3 (some .int) rX10_other (wM D kc ad) [.ref (zad (wM D kc ad) 17), .int a, .int u] s0 (zV1 (.int (zfst (fX10_other a u s0))) (zsnd (fX10_other a u s0))) := by
  refine z_of (own := RX10) (by decide +kernel) rfl (Nat.le_of_ble_eq_true rfl) ?_
  intro κ C R0
  refine j_at [(0, .ref (zad (wM D kc ad) 17)), (1, .int a), (2, .int u)] ⟨rfl, rfl, rfl, trivial⟩ ?_
  refine j_iload_n C dX10_other_0 rfl rfl ?_
  refine j_callS1 C dX10_other_1 (k_X10_isSlot l D kc ad (a) _ ) zy_X10_isSlot mw_15_3 rfl rfl (Nat.le_of_ble_eq_true rfl) ⟨rfl, rfl, Nat.le_of_ble_eq_true rfl, Nat.le_of_ble_eq_true rfl⟩ ?_
  refine j_if_eqB (tgt := 14) C dX10_other_4 (by decide) (fun q1 => ?_) (fun q1 => ?_)
  · have hA2 : fX10_other a u s0 = fX10_other_a1 s0 := by have q1z := q1; (try dsimp only at q1z); unfold fX10_other; (try dsimp only); rw [q1z, cond_false]; (try rfl)
    refine j_bipush (v := -101) C dX10_other_14 (by decide +kernel) ?_
    exact j_iret (st := []) C R0 dX10_other_16 ⟨(by rw [hA2]; unfold fX10_other_a1; (try dsimp only); all_goals ((try simp only [zfst_mk, zsnd_mk]); all_goals rfl)), ((by rw [hA2]; unfold fX10_other_a1; (try dsimp only); all_goals ((try simp only [zfst_mk, zsnd_mk]); all_goals rfl)))⟩
  · have hA3 : fX10_other a u s0 = fX10_other_a6 a u s0 := by have q1z := q1; (try dsimp only at q1z); unfold fX10_other; (try dsimp only); rw [q1z, cond_true]; (try rfl)
    refine j_iload_n C dX10_other_7 rfl rfl ?_
    refine j_callS1 C dX10_other_8 (k_X10_isSlot l D kc ad (u) _ ) zy_X10_isSlot mw_15_3 rfl rfl (Nat.le_of_ble_eq_true rfl) ⟨rfl, rfl, Nat.le_of_ble_eq_true rfl, Nat.le_of_ble_eq_true rfl⟩ ?_
    refine j_if_neB (tgt := 17) C dX10_other_11 (by decide) (fun q4 => ?_) (fun q4 => ?_)
    · have hA5 : fX10_other_a6 a u s0 = fX10_other_a4 a u s0 := by have q4z := q4; (try dsimp only at q4z); unfold fX10_other_a6; (try dsimp only); rw [q4z, cond_true]; (try rfl)
      have hc6 := msl_of (x := a) (by assumption)
      have hc6b := hc6.2
      have hc7 := msl_of (x := u) (by assumption)
      have hc7b := hc7.2
      refine j_at [(0, .ref (zad (wM D kc ad) 17)), (1, .int (nI (a.toNatClampNeg))), (2, .int (nI (u.toNatClampNeg)))] ⟨rfl, congrArg (fun q => some (Value.int q)) hc6.1, congrArg (fun q => some (Value.int q)) hc7.1, trivial⟩ ?_
      refine j_aload_n C dX10_other_17 rfl rfl ?_
      refine j_bipush (v := nI 10) C dX10_other_18 (by decide +kernel) ?_
      refine j_iload_n C dX10_other_20 rfl rfl ?_
      refine j_callV1 (T := TX10) (N := 23) C dX10_other_21 (k_X10_opens l D kc ad 10 (by omega) a.toNatClampNeg (by omega) _ ) zy_X10_opens mw_27_0 rfl rfl (Nat.zero_le _) (show 17 < 18 by decide) rfl rfl (Nat.le_of_ble_eq_true rfl) ⟨rfl, rfl, Nat.le_of_ble_eq_true rfl, Nat.le_of_ble_eq_true rfl⟩ ?_
      refine j_nmS (fun t8 et8 => ?_)
      refine j_if_neB (tgt := 29) C dX10_other_24 (by decide) (fun q9 => ?_) (fun q9 => ?_)
      · have hA10 : fX10_other_a4 a u s0 = fX10_other_a2 u t8 := by (try rw [et8]); have q9z := q9; (try rw [et8] at q9z); (try dsimp only at q9z); unfold fX10_other_a4; (try dsimp only); rw [q9z, cond_true]; (try rfl)
        refine j_aload_n C dX10_other_29 rfl rfl ?_
        refine j_bipush (v := nI 40) C dX10_other_30 (by decide +kernel) ?_
        refine j_iconst (v := nI 1) C dX10_other_32 (by decide +kernel) ?_
        refine j_bipush (v := nI 11) C dX10_other_33 (by decide +kernel) ?_
        refine j_callV0 (T := TX10) (N := 23) C dX10_other_35 (k_X10_subtract l D kc ad 40 (by omega) 1 (by omega) 11 (by omega) _ ) zy_X10_subtract mw_11_17 rfl rfl (Nat.zero_le _) (show 17 < 18 by decide) rfl rfl (Nat.le_of_ble_eq_true rfl) ⟨rfl, rfl, Nat.le_of_ble_eq_true rfl, Nat.le_of_ble_eq_true rfl⟩ ?_
        refine j_nmS (fun t11 et11 => ?_)
        refine j_aload_n C dX10_other_38 rfl rfl ?_
        refine j_bipush (v := nI 36) C dX10_other_39 (by decide +kernel) ?_
        refine j_iconst (v := nI 1) C dX10_other_41 (by decide +kernel) ?_
        refine j_bipush (v := nI 11) C dX10_other_42 (by decide +kernel) ?_
        refine j_callV0 (T := TX10) (N := 23) C dX10_other_44 (k_X10_add l D kc ad 36 (by omega) 1 (by omega) 11 (by omega) _ ) zy_X10_add mw_12_2 rfl rfl (Nat.zero_le _) (show 17 < 18 by decide) rfl rfl (Nat.le_of_ble_eq_true rfl) ⟨rfl, rfl, Nat.le_of_ble_eq_true rfl, Nat.le_of_ble_eq_true rfl⟩ ?_
        refine j_nmS (fun t12 et12 => ?_)
        refine j_aload_n C dX10_other_47 rfl rfl ?_
        refine j_bipush (v := nI 37) C dX10_other_48 (by decide +kernel) ?_
        refine j_bipush (v := nI 40) C dX10_other_50 (by decide +kernel) ?_
        refine j_callV0 (T := TX10) (N := 23) C dX10_other_52 (k_X10_invert l D kc ad 37 (by omega) 40 (by omega) _ ) zy_X10_invert mw_11_21 rfl rfl (Nat.zero_le _) (show 17 < 18 by decide) rfl rfl (Nat.le_of_ble_eq_true rfl) ⟨rfl, rfl, Nat.le_of_ble_eq_true rfl, Nat.le_of_ble_eq_true rfl⟩ ?_
        refine j_nmS (fun t13 et13 => ?_)
        refine j_aload_n C dX10_other_55 rfl rfl ?_
        refine j_bipush (v := nI 38) C dX10_other_56 (by decide +kernel) ?_
        refine j_bipush (v := nI 36) C dX10_other_58 (by decide +kernel) ?_
        refine j_bipush (v := nI 37) C dX10_other_60 (by decide +kernel) ?_
        refine j_callV0 (T := TX10) (N := 23) C dX10_other_62 (k_X10_multiply l D kc ad 38 (by omega) 36 (by omega) 37 (by omega) _ ) zy_X10_multiply mw_11_4 rfl rfl (Nat.zero_le _) (show 17 < 18 by decide) rfl rfl (Nat.le_of_ble_eq_true rfl) ⟨rfl, rfl, Nat.le_of_ble_eq_true rfl, Nat.le_of_ble_eq_true rfl⟩ ?_
        refine j_nmS (fun t14 et14 => ?_)
        refine j_aload_n C dX10_other_65 rfl rfl ?_
        refine j_iload_n C dX10_other_66 rfl rfl ?_
        refine j_bipush (v := nI 38) C dX10_other_67 (by decide +kernel) ?_
        refine j_callV0 (T := TX10) (N := 23) C dX10_other_69 (k_X10_store l D kc ad u.toNatClampNeg (by omega) 38 (by omega) _ ) zy_X10_store mw_21_4 rfl rfl (Nat.zero_le _) (show 17 < 18 by decide) rfl rfl (Nat.le_of_ble_eq_true rfl) ⟨rfl, rfl, Nat.le_of_ble_eq_true rfl, Nat.le_of_ble_eq_true rfl⟩ ?_
        refine j_nmS (fun t15 et15 => ?_)
        refine j_iconst (v := nI 1) C dX10_other_72 (by decide +kernel) ?_
        exact j_iret (st := []) C R0 dX10_other_73 ⟨(by rw [hA3, hA5, hA10]; (try rw [et15]); (try rw [et14]); (try rw [et13]); (try rw [et12]); (try rw [et11]); unfold fX10_other_a2; (try dsimp only); all_goals ((try simp only [zfst_mk, zsnd_mk]); all_goals rfl)), ((by rw [hA3, hA5, hA10]; (try rw [et15]); (try rw [et14]); (try rw [et13]); (try rw [et12]); (try rw [et11]); unfold fX10_other_a2; (try dsimp only); all_goals ((try simp only [zfst_mk, zsnd_mk]); all_goals rfl)))⟩
      · have hA16 : fX10_other_a4 a u s0 = fX10_other_a3 t8 := by (try rw [et8]); have q9z := q9; (try rw [et8] at q9z); (try dsimp only at q9z); unfold fX10_other_a4; (try dsimp only); rw [q9z, cond_false]; (try rfl)
        refine j_iconst (v := -1) C dX10_other_27 (by decide +kernel) ?_
        exact j_iret (st := []) C R0 dX10_other_28 ⟨(by rw [hA3, hA5, hA16]; unfold fX10_other_a3; (try dsimp only); all_goals ((try simp only [zfst_mk, zsnd_mk]); all_goals rfl)), ((by rw [hA3, hA5, hA16]; unfold fX10_other_a3; (try dsimp only); all_goals ((try simp only [zfst_mk, zsnd_mk]); all_goals rfl)))⟩
    · have hA17 : fX10_other_a6 a u s0 = fX10_other_a5 s0 := by have q4z := q4; (try dsimp only at q4z); unfold fX10_other_a6; (try dsimp only); rw [q4z, cond_false]; (try rfl)
      refine j_bipush (v := -101) C dX10_other_14 (by decide +kernel) ?_
      exact j_iret (st := []) C R0 dX10_other_16 ⟨(by rw [hA3, hA17]; unfold fX10_other_a5; (try dsimp only); all_goals ((try simp only [zfst_mk, zsnd_mk]); all_goals rfl)), ((by rw [hA3, hA17]; unfold fX10_other_a5; (try dsimp only); all_goals ((try simp only [zfst_mk, zsnd_mk]); all_goals rfl)))⟩
theorem k2q_fX10_other_a1 (s0 : zSt) : zk2s (fX10_other_a1 s0) = zk2 s0 := by
  unfold fX10_other_a1
  (try dsimp only)
  all_goals (simp only [zW_2, zL_2, zk2s_mk]; done)
theorem k2_fX10_other_a1 (s0 : zSt) : zk2 (zsnd (fX10_other_a1 s0)) = zk2 s0 := k2q_fX10_other_a1 s0
theorem k2q_fX10_other_a2 (u : Int32) (t8 : zSt) : zk2s (fX10_other_a2 u t8) = zk2 t8 := by
  unfold fX10_other_a2
  (try dsimp only)
  all_goals (simp only [zW_2, zL_2, k2_fX10_add, k2_fX10_invert, k2_fX10_multiply, k2_fX10_store, k2_fX10_subtract, zk2s_mk]; done)
theorem k2_fX10_other_a2 (u : Int32) (t8 : zSt) : zk2 (zsnd (fX10_other_a2 u t8)) = zk2 t8 := k2q_fX10_other_a2 u t8
theorem k2q_fX10_other_a3 (t8 : zSt) : zk2s (fX10_other_a3 t8) = zk2 t8 := by
  unfold fX10_other_a3
  (try dsimp only)
  all_goals (simp only [zW_2, zL_2, zk2s_mk]; done)
theorem k2_fX10_other_a3 (t8 : zSt) : zk2 (zsnd (fX10_other_a3 t8)) = zk2 t8 := k2q_fX10_other_a3 t8
theorem k2q_fX10_other_a4 (a : Int32) (u : Int32) (s0 : zSt) : zk2s (fX10_other_a4 a u s0) = zk2 s0 := by
  unfold fX10_other_a4
  (try dsimp only)
  all_goals (refine cond_keep (fun r : Int32 × zSt => zk2s r) _ ?_ ?_ <;> (simp only [zW_2, zL_2, k2_fX10_opens, k2_fX10_other_a2, k2_fX10_other_a3, k2q_fX10_opens, k2q_fX10_other_a2, k2q_fX10_other_a3, zk2s_mk]; done))
theorem k2_fX10_other_a4 (a : Int32) (u : Int32) (s0 : zSt) : zk2 (zsnd (fX10_other_a4 a u s0)) = zk2 s0 := k2q_fX10_other_a4 a u s0
theorem k2q_fX10_other_a5 (s0 : zSt) : zk2s (fX10_other_a5 s0) = zk2 s0 := by
  unfold fX10_other_a5
  (try dsimp only)
  all_goals (simp only [zW_2, zL_2, zk2s_mk]; done)
theorem k2_fX10_other_a5 (s0 : zSt) : zk2 (zsnd (fX10_other_a5 s0)) = zk2 s0 := k2q_fX10_other_a5 s0
theorem k2q_fX10_other_a6 (a : Int32) (u : Int32) (s0 : zSt) : zk2s (fX10_other_a6 a u s0) = zk2 s0 := by
  unfold fX10_other_a6
  (try dsimp only)
  all_goals (refine cond_keep (fun r : Int32 × zSt => zk2s r) _ ?_ ?_ <;> (simp only [zW_2, zL_2, k2_fX10_other_a4, k2_fX10_other_a5, k2q_fX10_other_a4, k2q_fX10_other_a5, zk2s_mk]; done))
theorem k2_fX10_other_a6 (a : Int32) (u : Int32) (s0 : zSt) : zk2 (zsnd (fX10_other_a6 a u s0)) = zk2 s0 := k2q_fX10_other_a6 a u s0
theorem k2q_fX10_other (a : Int32) (u : Int32) (s0 : zSt) : zk2s (fX10_other a u s0) = zk2 s0 := by
  unfold fX10_other
  (try dsimp only)
  all_goals (refine cond_keep (fun r : Int32 × zSt => zk2s r) _ ?_ ?_ <;> (simp only [zW_2, zL_2, k2_fX10_other_a1, k2_fX10_other_a6, k2q_fX10_other_a1, k2q_fX10_other_a6, zk2s_mk]; done))
theorem k2_fX10_other (a : Int32) (u : Int32) (s0 : zSt) : zk2 (zsnd (fX10_other a u s0)) = zk2 s0 := k2q_fX10_other a u s0
theorem i2_fX10_other (a : Int32) (u : Int32) (s0 : zSt) (kk9 : Nat) : (zsnd (fX10_other a u s0)).2.2 kk9 = s0.2.2 kk9 := z2_I (k2_fX10_other a u s0) kk9
theorem i3_fX10_other (a : Int32) (u : Int32) (s0 : zSt) (kk9 : Nat) : zi (zsnd (fX10_other a u s0)) kk9 = zi s0 kk9 := zi_of (k2_fX10_other a u s0) kk9

def fX10_key_a1 (s0 : zSt) : Int32 × zSt :=
    ((-101 : Int32), s0)
def fX10_key_a2 (a : Int32) (u : Int32) (s0 : zSt) : Int32 × zSt :=
    let t10 := zI s0 1 ((s0.2.2 1) - (nI (1)))
    let t11 := fX10_open_ a.toNatClampNeg t10
    let t12 := fX10_toSlot u.toNatClampNeg 28 t11
    (nI (1), t12)
def fX10_key_a3 (s0 : zSt) : Int32 × zSt :=
    ((-103 : Int32), s0)
def fX10_key_a4 (a : Int32) (u : Int32) (s0 : zSt) : Int32 × zSt :=
    if nI (1) ≤ s0.2.2 1 then
      fX10_key_a2 a u s0
    else
      fX10_key_a3 s0
def fX10_key_a5 (s0 : zSt) : Int32 × zSt :=
    ((-101 : Int32), s0)
def fX10_key_a6 (a : Int32) (u : Int32) (s0 : zSt) : Int32 × zSt :=
    bif (vX10_isSlot u s0) then
      fX10_key_a4 a u s0
    else
      fX10_key_a5 s0
def fX10_key (a : Int32) (u : Int32) (s0 : zSt) : Int32 × zSt :=
    bif (vX10_isSlot a s0) then
      fX10_key_a6 a u s0
    else
      fX10_key_a1 s0
set_option maxHeartbeats 4000000 in
set_option maxRecDepth 100000 in
theorem k_X10_key (l : Launch) (D : va_G) (kc : Nat → ClassId) (ad : Nat → Nat) (a : Int32) (u : Int32) (s0 : zSt) (hms : s0.2.2 5 = nI 0) : zM l yX10_key cX10_key 3 (some .int) rX10_key (wM D kc ad) [.ref (zad (wM D kc ad) 17), .int a, .int u] s0 (zV1 (.int (zfst (fX10_key a u s0))) (zsnd (fX10_key a u s0))) := by
  refine z_of (own := RX10) (by decide +kernel) rfl (Nat.le_of_ble_eq_true rfl) ?_
  intro κ C R0
  refine j_at [(0, .ref (zad (wM D kc ad) 17)), (1, .int a), (2, .int u)] ⟨rfl, rfl, rfl, trivial⟩ ?_
  refine j_iload_n C dX10_key_0 rfl rfl ?_
  refine j_callS1 C dX10_key_1 (k_X10_isSlot l D kc ad (a) _ ) zy_X10_isSlot mw_15_3 rfl rfl (Nat.le_of_ble_eq_true rfl) ⟨rfl, rfl, Nat.le_of_ble_eq_true rfl, Nat.le_of_ble_eq_true rfl⟩ ?_
  refine j_if_eqB (tgt := 14) C dX10_key_4 (by decide) (fun q1 => ?_) (fun q1 => ?_)
  · have hA2 : fX10_key a u s0 = fX10_key_a1 s0 := by have q1z := q1; (try dsimp only at q1z); unfold fX10_key; (try dsimp only); rw [q1z, cond_false]; (try rfl)
    refine j_bipush (v := -101) C dX10_key_14 (by decide +kernel) ?_
    exact j_iret (st := []) C R0 dX10_key_16 ⟨(by rw [hA2]; unfold fX10_key_a1; (try dsimp only); all_goals ((try simp only [zfst_mk, zsnd_mk]); all_goals rfl)), ((by rw [hA2]; unfold fX10_key_a1; (try dsimp only); all_goals ((try simp only [zfst_mk, zsnd_mk]); all_goals rfl)))⟩
  · have hA3 : fX10_key a u s0 = fX10_key_a6 a u s0 := by have q1z := q1; (try dsimp only at q1z); unfold fX10_key; (try dsimp only); rw [q1z, cond_true]; (try rfl)
    refine j_iload_n C dX10_key_7 rfl rfl ?_
    refine j_callS1 C dX10_key_8 (k_X10_isSlot l D kc ad (u) _ ) zy_X10_isSlot mw_15_3 rfl rfl (Nat.le_of_ble_eq_true rfl) ⟨rfl, rfl, Nat.le_of_ble_eq_true rfl, Nat.le_of_ble_eq_true rfl⟩ ?_
    refine j_if_neB (tgt := 17) C dX10_key_11 (by decide) (fun q4 => ?_) (fun q4 => ?_)
    · have hA5 : fX10_key_a6 a u s0 = fX10_key_a4 a u s0 := by have q4z := q4; (try dsimp only at q4z); unfold fX10_key_a6; (try dsimp only); rw [q4z, cond_true]; (try rfl)
      have hc6 := msl_of (x := a) (by assumption)
      have hc6b := hc6.2
      have hc7 := msl_of (x := u) (by assumption)
      have hc7b := hc7.2
      refine j_at [(0, .ref (zad (wM D kc ad) 17)), (1, .int (nI (a.toNatClampNeg))), (2, .int (nI (u.toNatClampNeg)))] ⟨rfl, congrArg (fun q => some (Value.int q)) hc6.1, congrArg (fun q => some (Value.int q)) hc7.1, trivial⟩ ?_
      refine j_aload_n C dX10_key_17 rfl rfl ?_
      refine j_getI C dX10_key_18 (fx_RX10_17 D kc ad) (Nat.zero_le _) (show 17 < 18 by decide) ?_
      refine j_iconst (v := nI 1) C dX10_key_21 (by decide +kernel) ?_
      refine j_icmp_ge (tgt := 28) C dX10_key_22 (by decide) (fun q8 => ?_) (fun q8 => ?_)
      · have hA9 : fX10_key_a4 a u s0 = fX10_key_a2 a u s0 := by have q8z := q8; (try dsimp only at q8z); unfold fX10_key_a4; (try dsimp only); rw [if_pos q8z]; (try rfl)
        refine j_aload_n C dX10_key_28 rfl rfl ?_
        refine j_dup C dX10_key_29 rfl ?_
        refine j_getI C dX10_key_30 (fx_RX10_17 D kc ad) (Nat.zero_le _) (show 17 < 18 by decide) ?_
        refine j_iconst (v := nI 1) C dX10_key_33 (by decide +kernel) ?_
        refine j_isub C dX10_key_34 ?_
        refine j_putI C dX10_key_35 (pfx_RX10_17 D kc ad) (om_1 D kc ad) (Nat.zero_le _) (show 17 < 18 by decide) ?_
        refine j_nmS (fun t10 et10 => ?_)
        refine j_aload_n C dX10_key_38 rfl rfl ?_
        refine j_iload_n C dX10_key_39 rfl rfl ?_
        refine j_callV0 (T := TX10) (N := 23) C dX10_key_40 (k_X10_open_ l D kc ad a.toNatClampNeg (by omega) _ (by (try rw [et10]); simp (maxDischargeDepth := 12) only [i2_fX10_toSlot, hms, zI15])) zy_X10_open_ mw_38_7 rfl rfl (Nat.zero_le _) (show 17 < 18 by decide) rfl rfl (Nat.le_of_ble_eq_true rfl) ⟨rfl, rfl, Nat.le_of_ble_eq_true rfl, Nat.le_of_ble_eq_true rfl⟩ ?_
        refine j_nmS (fun t11 et11 => ?_)
        refine j_aload_n C dX10_key_43 rfl rfl ?_
        refine j_iload_n C dX10_key_44 rfl rfl ?_
        refine j_bipush (v := nI 28) C dX10_key_45 (by decide +kernel) ?_
        refine j_callV0 (T := TX10) (N := 23) C dX10_key_47 (k_X10_toSlot l D kc ad u.toNatClampNeg (by omega) 28 (by omega) _ ) zy_X10_toSlot mw_16_13 rfl rfl (Nat.zero_le _) (show 17 < 18 by decide) rfl rfl (Nat.le_of_ble_eq_true rfl) ⟨rfl, rfl, Nat.le_of_ble_eq_true rfl, Nat.le_of_ble_eq_true rfl⟩ ?_
        refine j_nmS (fun t12 et12 => ?_)
        refine j_iconst (v := nI 1) C dX10_key_50 (by decide +kernel) ?_
        exact j_iret (st := []) C R0 dX10_key_51 ⟨(by rw [hA3, hA5, hA9]; (try rw [et12]); (try rw [et11]); (try rw [et10]); unfold fX10_key_a2; (try dsimp only); all_goals ((try simp only [zfst_mk, zsnd_mk]); all_goals rfl)), ((by rw [hA3, hA5, hA9]; (try rw [et12]); (try rw [et11]); (try rw [et10]); unfold fX10_key_a2; (try dsimp only); all_goals ((try simp only [zfst_mk, zsnd_mk]); all_goals rfl)))⟩
      · have hA13 : fX10_key_a4 a u s0 = fX10_key_a3 s0 := by have q8z := q8; (try dsimp only at q8z); unfold fX10_key_a4; (try dsimp only); rw [if_neg q8z]; (try rfl)
        refine j_bipush (v := -103) C dX10_key_25 (by decide +kernel) ?_
        exact j_iret (st := []) C R0 dX10_key_27 ⟨(by rw [hA3, hA5, hA13]; unfold fX10_key_a3; (try dsimp only); all_goals ((try simp only [zfst_mk, zsnd_mk]); all_goals rfl)), ((by rw [hA3, hA5, hA13]; unfold fX10_key_a3; (try dsimp only); all_goals ((try simp only [zfst_mk, zsnd_mk]); all_goals rfl)))⟩
    · have hA14 : fX10_key_a6 a u s0 = fX10_key_a5 s0 := by have q4z := q4; (try dsimp only at q4z); unfold fX10_key_a6; (try dsimp only); rw [q4z, cond_false]; (try rfl)
      refine j_bipush (v := -101) C dX10_key_14 (by decide +kernel) ?_
      exact j_iret (st := []) C R0 dX10_key_16 ⟨(by rw [hA3, hA14]; unfold fX10_key_a5; (try dsimp only); all_goals ((try simp only [zfst_mk, zsnd_mk]); all_goals rfl)), ((by rw [hA3, hA14]; unfold fX10_key_a5; (try dsimp only); all_goals ((try simp only [zfst_mk, zsnd_mk]); all_goals rfl)))⟩

def fX10_count_a1 (s0 : zSt) : Int32 :=
    s0.2.2 0
def fX10_count_a2 (s0 : zSt) : Int32 :=
    s0.2.2 1
def fX10_count_a3 (s0 : zSt) : Int32 :=
    s0.2.2 2
def fX10_count_a4 (s0 : zSt) : Int32 :=
    s0.2.2 3
def fX10_count_a5 (s0 : zSt) : Int32 :=
    s0.2.2 4
def fX10_count_a6 (s0 : zSt) : Int32 :=
    (-102 : Int32)
def fX10_count_a7 (what : Int32) (s0 : zSt) : Int32 :=
    if what = nI 4 then
      fX10_count_a5 s0
    else
      fX10_count_a6 s0
def fX10_count_a8 (what : Int32) (s0 : zSt) : Int32 :=
    if what = nI 3 then
      fX10_count_a4 s0
    else
      fX10_count_a7 what s0
def fX10_count_a9 (what : Int32) (s0 : zSt) : Int32 :=
    if what = nI 2 then
      fX10_count_a3 s0
    else
      fX10_count_a8 what s0
def fX10_count_a10 (what : Int32) (s0 : zSt) : Int32 :=
    if what = nI 1 then
      fX10_count_a2 s0
    else
      fX10_count_a9 what s0
def vX10_count (what : Int32) (s0 : zSt) : Int32 :=
    if what = nI 0 then
      fX10_count_a1 s0
    else
      fX10_count_a10 what s0
set_option maxHeartbeats 4000000 in
set_option maxRecDepth 100000 in
theorem k_X10_count (l : Launch) (D : va_G) (kc : Nat → ClassId) (ad : Nat → Nat) (what : Int32) (s0 : zSt) : zM l yX10_count cX10_count 2 (some .int) rX10_count (wM D kc ad) [.ref (zad (wM D kc ad) 17), .int what] s0 (zV1 (.int (vX10_count what s0)) s0) := by
  refine z_of (own := RX10) (by decide +kernel) rfl (Nat.le_of_ble_eq_true rfl) ?_
  intro κ C R0
  refine j_at [(0, .ref (zad (wM D kc ad) 17)), (1, .int what)] ⟨rfl, rfl, trivial⟩ ?_
  refine j_iload_n C dX10_count_0 rfl rfl ?_
  by_cases q1 : what = nI 0
  · have hA2 : vX10_count what s0 = fX10_count_a1 s0 := by have q1z := q1; (try dsimp only at q1z); unfold vX10_count; (try dsimp only); rw [if_pos q1z]; (try rfl)
    refine j_top (v := .int (nI 0)) (congrArg Value.int q1) ?_
    refine j_tabIn (c := 0) (off := 35) (tgt := 36) C dX10_count_1 (by decide +kernel) (by decide) ?_
    refine j_aload_n C dX10_count_36 rfl rfl ?_
    refine j_getI C dX10_count_37 (fx_RX10_203 D kc ad) (Nat.zero_le _) (show 17 < 18 by decide) ?_
    exact j_iret (st := []) C R0 dX10_count_40 ⟨(by rw [hA2]; unfold fX10_count_a1; (try dsimp only); all_goals ((try simp only [zfst_mk, zsnd_mk]); all_goals rfl)), ((by rfl))⟩
  · have hA3 : vX10_count what s0 = fX10_count_a10 what s0 := by have q1z := q1; (try dsimp only at q1z); unfold vX10_count; (try dsimp only); rw [if_neg q1z]; (try rfl)
    by_cases q4 : what = nI 1
    · have hA5 : fX10_count_a10 what s0 = fX10_count_a2 s0 := by have q4z := q4; (try dsimp only at q4z); unfold fX10_count_a10; (try dsimp only); rw [if_pos q4z]; (try rfl)
      refine j_top (v := .int (nI 1)) (congrArg Value.int q4) ?_
      refine j_tabIn (c := 1) (off := 40) (tgt := 41) C dX10_count_1 (by decide +kernel) (by decide) ?_
      refine j_aload_n C dX10_count_41 rfl rfl ?_
      refine j_getI C dX10_count_42 (fx_RX10_17 D kc ad) (Nat.zero_le _) (show 17 < 18 by decide) ?_
      exact j_iret (st := []) C R0 dX10_count_45 ⟨(by rw [hA3, hA5]; unfold fX10_count_a2; (try dsimp only); all_goals ((try simp only [zfst_mk, zsnd_mk]); all_goals rfl)), ((by rfl))⟩
    · have hA6 : fX10_count_a10 what s0 = fX10_count_a9 what s0 := by have q4z := q4; (try dsimp only at q4z); unfold fX10_count_a10; (try dsimp only); rw [if_neg q4z]; (try rfl)
      by_cases q7 : what = nI 2
      · have hA8 : fX10_count_a9 what s0 = fX10_count_a3 s0 := by have q7z := q7; (try dsimp only at q7z); unfold fX10_count_a9; (try dsimp only); rw [if_pos q7z]; (try rfl)
        refine j_top (v := .int (nI 2)) (congrArg Value.int q7) ?_
        refine j_tabIn (c := 2) (off := 45) (tgt := 46) C dX10_count_1 (by decide +kernel) (by decide) ?_
        refine j_aload_n C dX10_count_46 rfl rfl ?_
        refine j_getI C dX10_count_47 (fx_RX10_286 D kc ad) (Nat.zero_le _) (show 17 < 18 by decide) ?_
        exact j_iret (st := []) C R0 dX10_count_50 ⟨(by rw [hA3, hA6, hA8]; unfold fX10_count_a3; (try dsimp only); all_goals ((try simp only [zfst_mk, zsnd_mk]); all_goals rfl)), ((by rfl))⟩
      · have hA9 : fX10_count_a9 what s0 = fX10_count_a8 what s0 := by have q7z := q7; (try dsimp only at q7z); unfold fX10_count_a9; (try dsimp only); rw [if_neg q7z]; (try rfl)
        by_cases q10 : what = nI 3
        · have hA11 : fX10_count_a8 what s0 = fX10_count_a4 s0 := by have q10z := q10; (try dsimp only at q10z); unfold fX10_count_a8; (try dsimp only); rw [if_pos q10z]; (try rfl)
          refine j_top (v := .int (nI 3)) (congrArg Value.int q10) ?_
          refine j_tabIn (c := 3) (off := 50) (tgt := 51) C dX10_count_1 (by decide +kernel) (by decide) ?_
          refine j_aload_n C dX10_count_51 rfl rfl ?_
          refine j_getI C dX10_count_52 (fx_RX10_292 D kc ad) (Nat.zero_le _) (show 17 < 18 by decide) ?_
          exact j_iret (st := []) C R0 dX10_count_55 ⟨(by rw [hA3, hA6, hA9, hA11]; unfold fX10_count_a4; (try dsimp only); all_goals ((try simp only [zfst_mk, zsnd_mk]); all_goals rfl)), ((by rfl))⟩
        · have hA12 : fX10_count_a8 what s0 = fX10_count_a7 what s0 := by have q10z := q10; (try dsimp only at q10z); unfold fX10_count_a8; (try dsimp only); rw [if_neg q10z]; (try rfl)
          by_cases q13 : what = nI 4
          · have hA14 : fX10_count_a7 what s0 = fX10_count_a5 s0 := by have q13z := q13; (try dsimp only at q13z); unfold fX10_count_a7; (try dsimp only); rw [if_pos q13z]; (try rfl)
            refine j_top (v := .int (nI 4)) (congrArg Value.int q13) ?_
            refine j_tabIn (c := 4) (off := 55) (tgt := 56) C dX10_count_1 (by decide +kernel) (by decide) ?_
            refine j_aload_n C dX10_count_56 rfl rfl ?_
            refine j_getI C dX10_count_57 (fx_RX10_298 D kc ad) (Nat.zero_le _) (show 17 < 18 by decide) ?_
            exact j_iret (st := []) C R0 dX10_count_60 ⟨(by rw [hA3, hA6, hA9, hA12, hA14]; unfold fX10_count_a5; (try dsimp only); all_goals ((try simp only [zfst_mk, zsnd_mk]); all_goals rfl)), ((by rfl))⟩
          · have hA15 : fX10_count_a7 what s0 = fX10_count_a6 s0 := by have q13z := q13; (try dsimp only at q13z); unfold fX10_count_a7; (try dsimp only); rw [if_neg q13z]; (try rfl)
            refine j_tabOut (dflt := 60) (tgt := 61) C dX10_count_1 (tab_out 5 (by decide) (fun c hc => by rcases (show c = 0 ∨ c = 1 ∨ c = 2 ∨ c = 3 ∨ c = 4 by omega) with rfl | rfl | rfl | rfl | rfl <;> assumption)) (by decide) ?_
            refine j_bipush (v := -102) C dX10_count_61 (by decide +kernel) ?_
            exact j_iret (st := []) C R0 dX10_count_63 ⟨(by rw [hA3, hA6, hA9, hA12, hA15]; unfold fX10_count_a6; (try dsimp only); all_goals ((try simp only [zfst_mk, zsnd_mk]); all_goals rfl)), ((by rfl))⟩

def fX10_share_a1 (s0 : zSt) : Int32 × zSt :=
    ((-101 : Int32), s0)
def fX10_share_a2 (s0 : zSt) : Int32 × zSt :=
    ((-101 : Int32), s0)
def fX10_share_a3 (t48 : zSt) : zSt :=
    t48
def fX10_share_a4 (t48 : zSt) : zSt :=
    let t54 := fX10_swap 36 38 t48
    let t55 := fX10_swap 37 39 t54
    t55
def fX10_share_a5 (z24 : zSt) (x28 : Nat) : zSt :=
    let t31 := fX10_add 26 36 37 z24
    let t32 := fX10_subtract 27 36 37 t31
    let t33 := fX10_multiply 28 26 26 t32
    let t34 := fX10_multiply 29 27 27 t33
    let t35 := fX10_subtract 30 28 29 t34
    let t36 := fX10_add 31 38 39 t35
    let t37 := fX10_subtract 32 38 39 t36
    let t38 := fX10_multiply 32 32 26 t37
    let t39 := fX10_multiply 31 31 27 t38
    let t40 := fX10_add 33 32 31 t39
    let t41 := fX10_multiply 38 33 33 t40
    let t42 := fX10_subtract 33 32 31 t41
    let t43 := fX10_multiply 33 33 33 t42
    let t44 := fX10_multiply 39 40 33 t43
    let t45 := fX10_multiply 36 28 29 t44
    let t46 := fX10_multiply 33 44 30 t45
    let t47 := fX10_add 33 33 28 t46
    let t48 := fX10_multiply 37 30 33 t47
    if nI (x28) = 0 then
      fX10_share_a3 t48
    else
      fX10_share_a4 t48
def fX10_share_a6 (t78 : zSt) : zSt :=
    t78
def fX10_share_a7 (t78 : zSt) : zSt :=
    let t84 := fX10_swap 36 38 t78
    let t85 := fX10_swap 37 39 t84
    t85
def fX10_share_a8 (z24 : zSt) (x28 : Nat) : zSt :=
    let t59 := fX10_swap 36 38 z24
    let t60 := fX10_swap 37 39 t59
    let t61 := fX10_add 26 36 37 t60
    let t62 := fX10_subtract 27 36 37 t61
    let t63 := fX10_multiply 28 26 26 t62
    let t64 := fX10_multiply 29 27 27 t63
    let t65 := fX10_subtract 30 28 29 t64
    let t66 := fX10_add 31 38 39 t65
    let t67 := fX10_subtract 32 38 39 t66
    let t68 := fX10_multiply 32 32 26 t67
    let t69 := fX10_multiply 31 31 27 t68
    let t70 := fX10_add 33 32 31 t69
    let t71 := fX10_multiply 38 33 33 t70
    let t72 := fX10_subtract 33 32 31 t71
    let t73 := fX10_multiply 33 33 33 t72
    let t74 := fX10_multiply 39 40 33 t73
    let t75 := fX10_multiply 36 28 29 t74
    let t76 := fX10_multiply 33 44 30 t75
    let t77 := fX10_add 33 33 28 t76
    let t78 := fX10_multiply 37 30 33 t77
    if nI (x28) = 0 then
      fX10_share_a6 t78
    else
      fX10_share_a7 t78
def fX10_share_108  (i23 : Nat) (z24 : zSt) : zSt :=
    let x26 := vX10_bit 20 i23 z24
    let x28 := if ¬ x26 = 1 then 0 else 1
    if nI (x28) = 0 then
      fX10_share_a5 z24 x28
    else
      fX10_share_a8 z24 x28
def fX10_share_a9 (t93 : zSt) : Int32 × zSt :=
    (nI (1), t93)
def fX10_share_a10 (t93 : zSt) : Int32 × zSt :=
    (nI (0), t93)
def fX10_share_a11 (k : Int32) (a : Int32) (u : Int32) (s0 : zSt) : Int32 × zSt :=
    let t14 := zI s0 1 ((s0.2.2 1) - (nI (1)))
    let t15 := fX10_fromSlot 20 k.toNatClampNeg t14
    let t16 := fX10_clamp 20 t15
    let t17 := fX10_load 40 a.toNatClampNeg t16
    let t18 := fX10_put 36 ((1 : Int64)) t17
    let t19 := fX10_put 37 ((0 : Int64)) t18
    let t20 := fX10_copyOf 38 40 t19
    let t21 := fX10_put 39 ((1 : Int64)) t20
    let t22 := fX10_put 44 ((121665 : Int64)) t21
    let u88 := zdown fX10_share_108 255 t22
    let t90 := fX10_invert 37 37 u88
    let t91 := fX10_multiply 36 36 37 t90
    let t92 := fX10_store u.toNatClampNeg 36 t91
    let t93 := zsnd (fX10_isSame 36 0 t92)
    bif (zfst (fX10_isSame 36 0 t92)) then
      fX10_share_a10 t93
    else
      fX10_share_a9 t93
def fX10_share_a12 (s0 : zSt) : Int32 × zSt :=
    ((-103 : Int32), s0)
def fX10_share_a13 (k : Int32) (a : Int32) (u : Int32) (s0 : zSt) : Int32 × zSt :=
    if nI (1) ≤ s0.2.2 1 then
      fX10_share_a11 k a u s0
    else
      fX10_share_a12 s0
def fX10_share_a14 (s0 : zSt) : Int32 × zSt :=
    ((-101 : Int32), s0)
def fX10_share_a15 (k : Int32) (a : Int32) (u : Int32) (s0 : zSt) : Int32 × zSt :=
    bif (vX10_isSlot u s0) then
      fX10_share_a13 k a u s0
    else
      fX10_share_a14 s0
def fX10_share_a16 (k : Int32) (a : Int32) (u : Int32) (s0 : zSt) : Int32 × zSt :=
    bif (vX10_isSlot a s0) then
      fX10_share_a15 k a u s0
    else
      fX10_share_a2 s0
def fX10_share (k : Int32) (a : Int32) (u : Int32) (s0 : zSt) : Int32 × zSt :=
    bif (vX10_isSlot k s0) then
      fX10_share_a16 k a u s0
    else
      fX10_share_a1 s0
set_option maxHeartbeats 4000000 in
set_option maxRecDepth 100000 in
theorem k_X10_share (l : Launch) (D : va_G) (kc : Nat → ClassId) (ad : Nat → Nat) (k : Int32) (a : Int32) (u : Int32) (s0 : zSt) : zM l yX10_share cX10_share 6 (some .int) rX10_share (wM D kc ad) [.ref (zad (wM D kc ad) 17), .int k, .int a, .int u] s0 (zV1 (.int (zfst (fX10_share k a u s0))) (zsnd (fX10_share k a u s0))) := by
  refine z_of (own := RX10) (by decide +kernel) rfl (Nat.le_of_ble_eq_true rfl) ?_
  intro κ C R0
  refine j_at [(0, .ref (zad (wM D kc ad) 17)), (1, .int k), (2, .int a), (3, .int u)] ⟨rfl, rfl, rfl, rfl, trivial⟩ ?_
  refine j_iload_n C dX10_share_0 rfl rfl ?_
  refine j_callS1 C dX10_share_1 (k_X10_isSlot l D kc ad (k) _ ) zy_X10_isSlot mw_15_3 rfl rfl (Nat.le_of_ble_eq_true rfl) ⟨rfl, rfl, Nat.le_of_ble_eq_true rfl, Nat.le_of_ble_eq_true rfl⟩ ?_
  refine j_if_eqB (tgt := 21) C dX10_share_4 (by decide) (fun q1 => ?_) (fun q1 => ?_)
  · have hA2 : fX10_share k a u s0 = fX10_share_a1 s0 := by have q1z := q1; (try dsimp only at q1z); unfold fX10_share; (try dsimp only); rw [q1z, cond_false]; (try rfl)
    refine j_bipush (v := -101) C dX10_share_21 (by decide +kernel) ?_
    exact j_iret (st := []) C R0 dX10_share_23 ⟨(by rw [hA2]; unfold fX10_share_a1; (try dsimp only); all_goals ((try simp only [zfst_mk, zsnd_mk]); all_goals rfl)), ((by rw [hA2]; unfold fX10_share_a1; (try dsimp only); all_goals ((try simp only [zfst_mk, zsnd_mk]); all_goals rfl)))⟩
  · have hA3 : fX10_share k a u s0 = fX10_share_a16 k a u s0 := by have q1z := q1; (try dsimp only at q1z); unfold fX10_share; (try dsimp only); rw [q1z, cond_true]; (try rfl)
    refine j_iload_n C dX10_share_7 rfl rfl ?_
    refine j_callS1 C dX10_share_8 (k_X10_isSlot l D kc ad (a) _ ) zy_X10_isSlot mw_15_3 rfl rfl (Nat.le_of_ble_eq_true rfl) ⟨rfl, rfl, Nat.le_of_ble_eq_true rfl, Nat.le_of_ble_eq_true rfl⟩ ?_
    refine j_if_eqB (tgt := 21) C dX10_share_11 (by decide) (fun q4 => ?_) (fun q4 => ?_)
    · have hA5 : fX10_share_a16 k a u s0 = fX10_share_a2 s0 := by have q4z := q4; (try dsimp only at q4z); unfold fX10_share_a16; (try dsimp only); rw [q4z, cond_false]; (try rfl)
      refine j_bipush (v := -101) C dX10_share_21 (by decide +kernel) ?_
      exact j_iret (st := []) C R0 dX10_share_23 ⟨(by rw [hA3, hA5]; unfold fX10_share_a2; (try dsimp only); all_goals ((try simp only [zfst_mk, zsnd_mk]); all_goals rfl)), ((by rw [hA3, hA5]; unfold fX10_share_a2; (try dsimp only); all_goals ((try simp only [zfst_mk, zsnd_mk]); all_goals rfl)))⟩
    · have hA6 : fX10_share_a16 k a u s0 = fX10_share_a15 k a u s0 := by have q4z := q4; (try dsimp only at q4z); unfold fX10_share_a16; (try dsimp only); rw [q4z, cond_true]; (try rfl)
      refine j_iload_n C dX10_share_14 rfl rfl ?_
      refine j_callS1 C dX10_share_15 (k_X10_isSlot l D kc ad (u) _ ) zy_X10_isSlot mw_15_3 rfl rfl (Nat.le_of_ble_eq_true rfl) ⟨rfl, rfl, Nat.le_of_ble_eq_true rfl, Nat.le_of_ble_eq_true rfl⟩ ?_
      refine j_if_neB (tgt := 24) C dX10_share_18 (by decide) (fun q7 => ?_) (fun q7 => ?_)
      · have hA8 : fX10_share_a15 k a u s0 = fX10_share_a13 k a u s0 := by have q7z := q7; (try dsimp only at q7z); unfold fX10_share_a15; (try dsimp only); rw [q7z, cond_true]; (try rfl)
        have hc9 := msl_of (x := k) (by assumption)
        have hc9b := hc9.2
        have hc10 := msl_of (x := a) (by assumption)
        have hc10b := hc10.2
        have hc11 := msl_of (x := u) (by assumption)
        have hc11b := hc11.2
        refine j_at [(0, .ref (zad (wM D kc ad) 17)), (1, .int (nI (k.toNatClampNeg))), (2, .int (nI (a.toNatClampNeg))), (3, .int (nI (u.toNatClampNeg)))] ⟨rfl, congrArg (fun q => some (Value.int q)) hc9.1, congrArg (fun q => some (Value.int q)) hc10.1, congrArg (fun q => some (Value.int q)) hc11.1, trivial⟩ ?_
        refine j_aload_n C dX10_share_24 rfl rfl ?_
        refine j_getI C dX10_share_25 (fx_RX10_17 D kc ad) (Nat.zero_le _) (show 17 < 18 by decide) ?_
        refine j_iconst (v := nI 1) C dX10_share_28 (by decide +kernel) ?_
        refine j_icmp_ge (tgt := 35) C dX10_share_29 (by decide) (fun q12 => ?_) (fun q12 => ?_)
        · have hA13 : fX10_share_a13 k a u s0 = fX10_share_a11 k a u s0 := by have q12z := q12; (try dsimp only at q12z); unfold fX10_share_a13; (try dsimp only); rw [if_pos q12z]; (try rfl)
          refine j_aload_n C dX10_share_35 rfl rfl ?_
          refine j_dup C dX10_share_36 rfl ?_
          refine j_getI C dX10_share_37 (fx_RX10_17 D kc ad) (Nat.zero_le _) (show 17 < 18 by decide) ?_
          refine j_iconst (v := nI 1) C dX10_share_40 (by decide +kernel) ?_
          refine j_isub C dX10_share_41 ?_
          refine j_putI C dX10_share_42 (pfx_RX10_17 D kc ad) (om_1 D kc ad) (Nat.zero_le _) (show 17 < 18 by decide) ?_
          refine j_nmS (fun t14 et14 => ?_)
          refine j_aload_n C dX10_share_45 rfl rfl ?_
          refine j_bipush (v := nI 20) C dX10_share_46 (by decide +kernel) ?_
          refine j_iload_n C dX10_share_48 rfl rfl ?_
          refine j_callV0 (T := TX10) (N := 23) C dX10_share_49 (k_X10_fromSlot l D kc ad 20 (by omega) k.toNatClampNeg (by omega) _ ) zy_X10_fromSlot mw_16_9 rfl rfl (Nat.zero_le _) (show 17 < 18 by decide) rfl rfl (Nat.le_of_ble_eq_true rfl) ⟨rfl, rfl, Nat.le_of_ble_eq_true rfl, Nat.le_of_ble_eq_true rfl⟩ ?_
          refine j_nmS (fun t15 et15 => ?_)
          refine j_aload_n C dX10_share_52 rfl rfl ?_
          refine j_bipush (v := nI 20) C dX10_share_53 (by decide +kernel) ?_
          refine j_callV0 (T := TX10) (N := 23) C dX10_share_55 (k_X10_clamp l D kc ad 20 (by omega) _ ) zy_X10_clamp mw_33_13 rfl rfl (Nat.zero_le _) (show 17 < 18 by decide) rfl rfl (Nat.le_of_ble_eq_true rfl) ⟨rfl, rfl, Nat.le_of_ble_eq_true rfl, Nat.le_of_ble_eq_true rfl⟩ ?_
          refine j_nmS (fun t16 et16 => ?_)
          refine j_aload_n C dX10_share_58 rfl rfl ?_
          refine j_bipush (v := nI 40) C dX10_share_59 (by decide +kernel) ?_
          refine j_iload_n C dX10_share_61 rfl rfl ?_
          refine j_callV0 (T := TX10) (N := 23) C dX10_share_62 (k_X10_load l D kc ad 40 (by omega) a.toNatClampNeg (by omega) _ ) zy_X10_load mw_21_0 rfl rfl (Nat.zero_le _) (show 17 < 18 by decide) rfl rfl (Nat.le_of_ble_eq_true rfl) ⟨rfl, rfl, Nat.le_of_ble_eq_true rfl, Nat.le_of_ble_eq_true rfl⟩ ?_
          refine j_nmS (fun t17 et17 => ?_)
          refine j_aload_n C dX10_share_65 rfl rfl ?_
          refine j_bipush (v := nI 36) C dX10_share_66 (by decide +kernel) ?_
          refine j_lconst (v := 1) C dX10_share_68 rfl ?_
          refine j_callV0 (T := TX10) (N := 23) C dX10_share_69 (k_X10_put l D kc ad 36 (by omega) ((1 : Int64)) _ ) zy_X10_put mw_10_15 rfl rfl (Nat.zero_le _) (show 17 < 18 by decide) rfl rfl (Nat.le_of_ble_eq_true rfl) ⟨rfl, rfl, Nat.le_of_ble_eq_true rfl, Nat.le_of_ble_eq_true rfl⟩ ?_
          refine j_nmS (fun t18 et18 => ?_)
          refine j_aload_n C dX10_share_72 rfl rfl ?_
          refine j_bipush (v := nI 37) C dX10_share_73 (by decide +kernel) ?_
          refine j_lconst (v := 0) C dX10_share_75 rfl ?_
          refine j_callV0 (T := TX10) (N := 23) C dX10_share_76 (k_X10_put l D kc ad 37 (by omega) ((0 : Int64)) _ ) zy_X10_put mw_10_15 rfl rfl (Nat.zero_le _) (show 17 < 18 by decide) rfl rfl (Nat.le_of_ble_eq_true rfl) ⟨rfl, rfl, Nat.le_of_ble_eq_true rfl, Nat.le_of_ble_eq_true rfl⟩ ?_
          refine j_nmS (fun t19 et19 => ?_)
          refine j_aload_n C dX10_share_79 rfl rfl ?_
          refine j_bipush (v := nI 38) C dX10_share_80 (by decide +kernel) ?_
          refine j_bipush (v := nI 40) C dX10_share_82 (by decide +kernel) ?_
          refine j_callV0 (T := TX10) (N := 23) C dX10_share_84 (k_X10_copyOf l D kc ad 38 (by omega) 40 (by omega) _ ) zy_X10_copyOf mw_11_0 rfl rfl (Nat.zero_le _) (show 17 < 18 by decide) rfl rfl (Nat.le_of_ble_eq_true rfl) ⟨rfl, rfl, Nat.le_of_ble_eq_true rfl, Nat.le_of_ble_eq_true rfl⟩ ?_
          refine j_nmS (fun t20 et20 => ?_)
          refine j_aload_n C dX10_share_87 rfl rfl ?_
          refine j_bipush (v := nI 39) C dX10_share_88 (by decide +kernel) ?_
          refine j_lconst (v := 1) C dX10_share_90 rfl ?_
          refine j_callV0 (T := TX10) (N := 23) C dX10_share_91 (k_X10_put l D kc ad 39 (by omega) ((1 : Int64)) _ ) zy_X10_put mw_10_15 rfl rfl (Nat.zero_le _) (show 17 < 18 by decide) rfl rfl (Nat.le_of_ble_eq_true rfl) ⟨rfl, rfl, Nat.le_of_ble_eq_true rfl, Nat.le_of_ble_eq_true rfl⟩ ?_
          refine j_nmS (fun t21 et21 => ?_)
          refine j_aload_n C dX10_share_94 rfl rfl ?_
          refine j_bipush (v := nI 44) C dX10_share_95 (by decide +kernel) ?_
          refine j_ldc2 C dX10_share_97 mw_10_7 ?_
          refine j_callV0 (T := TX10) (N := 23) C dX10_share_100 (k_X10_put l D kc ad 44 (by omega) ((121665 : Int64)) _ ) zy_X10_put mw_10_15 rfl rfl (Nat.zero_le _) (show 17 < 18 by decide) rfl rfl (Nat.le_of_ble_eq_true rfl) ⟨rfl, rfl, Nat.le_of_ble_eq_true rfl, Nat.le_of_ble_eq_true rfl⟩ ?_
          refine j_nmS (fun t22 et22 => ?_)
          refine j_sipush (v := nI 254) C dX10_share_103 (by decide +kernel) ?_
          refine j_istore C dX10_share_106 (by decide) ?_
          refine j_at [(0, .ref (zad (wM D kc ad) 17)), (3, .int (nI (u.toNatClampNeg))), (4, .int (dI 255))] ⟨rfl, rfl, congrArg (fun q => some (Value.int q)) (dI_succ _).symm, trivial⟩ ?_
          refine z_dn (α := zSt) (fun (i23 : Nat) (z24 : zSt) => zJ κ (wM D kc ad) 108 (zlof [(0, .ref (zad (wM D kc ad) 17)), (3, .int (nI (u.toNatClampNeg))), (4, .int (dI i23))]) [] z24) fX10_share_108 (fun i23 z24 => i23 ≤ 255) ?_ (fun _ _ h => by omega) 255 t22 (Nat.le_refl _) ?_
          · intro i23 z24 hIi23 k0
            refine j_at [(0, .ref (zad (wM D kc ad) 17)), (3, .int (nI (u.toNatClampNeg))), (4, .int (nI (i23)))] ⟨rfl, rfl, congrArg (fun q => some (Value.int q)) (dI_succ _), trivial⟩ ?_
            refine j_iload C dX10_share_108 rfl ?_
            refine j_if_lt (tgt := 360) C dX10_share_110 (by decide) (fun q25 => False.elim (nI_pos (by omega) q25)) (fun q25 => ?_)
            refine j_aload_n C dX10_share_113 rfl rfl ?_
            refine j_bipush (v := nI 20) C dX10_share_114 (by decide +kernel) ?_
            refine j_iload C dX10_share_116 rfl ?_
            refine j_callV1 (T := TX10) (N := 23) C dX10_share_118 (k_X10_bit l D kc ad 20 (by omega) i23 (by omega) _ ) zy_X10_bit mw_11_13 rfl rfl (Nat.zero_le _) (show 17 < 18 by decide) rfl rfl (Nat.le_of_ble_eq_true rfl) ⟨rfl, rfl, Nat.le_of_ble_eq_true rfl, Nat.le_of_ble_eq_true rfl⟩ ?_
            refine j_nmN (fun x26 ex26 => ?_)
            have hx26 : x26 < 2 := by rw [ex26]; exact lt_mbit _ _ _
            refine j_iconst (v := nI 1) C dX10_share_121 (by decide +kernel) ?_
            refine j_at [(0, .ref (zad (wM D kc ad) 17)), (3, .int (nI (u.toNatClampNeg))), (4, .int (nI (i23)))] ⟨rfl, rfl, rfl, trivial⟩ ?_
            suffices K : zJ κ (wM D kc ad) 130 (zlof [(0, .ref (zad (wM D kc ad) 17)), (3, .int (nI (u.toNatClampNeg))), (4, .int (nI (i23)))]) (.int (nI (if ¬ x26 = 1 then 0 else 1)) :: []) z24 by
              refine j_icmp_neN (tgt := 129) C dX10_share_122 (by decide) (by omega) (by omega) (fun q27 => ?_) (fun q27 => ?_)
              · rw [if_pos q27] at K
                exact j_iconst (v := nI 0) C dX10_share_129 (by decide +kernel) K
              · rw [if_neg (show ¬ (¬ x26 = 1) by omega)] at K
                exact j_iconst (v := nI 1) C dX10_share_125 (by decide +kernel) (j_goto (tgt := 130) C dX10_share_126 (by decide) K)
            refine j_nmN (fun x28 ex28 => ?_)
            refine j_istore C dX10_share_130 (by decide) ?_
            refine j_iload C dX10_share_132 rfl ?_
            refine j_if_eq (tgt := 153) C dX10_share_134 (by decide) (fun q29 => ?_) (fun q29 => ?_)
            · have hA30 : fX10_share_108 i23 z24 = fX10_share_a5 z24 x28 := by (try rw [ex28]); (try rw [ex26]); have q29z := q29; (try rw [ex28] at q29z); (try rw [ex26] at q29z); (try dsimp only at q29z); unfold fX10_share_108; (try dsimp only); rw [if_pos q29z]; (try rfl)
              refine j_aload_n C dX10_share_153 rfl rfl ?_
              refine j_bipush (v := nI 26) C dX10_share_154 (by decide +kernel) ?_
              refine j_bipush (v := nI 36) C dX10_share_156 (by decide +kernel) ?_
              refine j_bipush (v := nI 37) C dX10_share_158 (by decide +kernel) ?_
              refine j_callV0 (T := TX10) (N := 23) C dX10_share_160 (k_X10_add l D kc ad 26 (by omega) 36 (by omega) 37 (by omega) _ ) zy_X10_add mw_12_2 rfl rfl (Nat.zero_le _) (show 17 < 18 by decide) rfl rfl (Nat.le_of_ble_eq_true rfl) ⟨rfl, rfl, Nat.le_of_ble_eq_true rfl, Nat.le_of_ble_eq_true rfl⟩ ?_
              refine j_nmS (fun t31 et31 => ?_)
              refine j_aload_n C dX10_share_163 rfl rfl ?_
              refine j_bipush (v := nI 27) C dX10_share_164 (by decide +kernel) ?_
              refine j_bipush (v := nI 36) C dX10_share_166 (by decide +kernel) ?_
              refine j_bipush (v := nI 37) C dX10_share_168 (by decide +kernel) ?_
              refine j_callV0 (T := TX10) (N := 23) C dX10_share_170 (k_X10_subtract l D kc ad 27 (by omega) 36 (by omega) 37 (by omega) _ ) zy_X10_subtract mw_11_17 rfl rfl (Nat.zero_le _) (show 17 < 18 by decide) rfl rfl (Nat.le_of_ble_eq_true rfl) ⟨rfl, rfl, Nat.le_of_ble_eq_true rfl, Nat.le_of_ble_eq_true rfl⟩ ?_
              refine j_nmS (fun t32 et32 => ?_)
              refine j_aload_n C dX10_share_173 rfl rfl ?_
              refine j_bipush (v := nI 28) C dX10_share_174 (by decide +kernel) ?_
              refine j_bipush (v := nI 26) C dX10_share_176 (by decide +kernel) ?_
              refine j_bipush (v := nI 26) C dX10_share_178 (by decide +kernel) ?_
              refine j_callV0 (T := TX10) (N := 23) C dX10_share_180 (k_X10_multiply l D kc ad 28 (by omega) 26 (by omega) 26 (by omega) _ ) zy_X10_multiply mw_11_4 rfl rfl (Nat.zero_le _) (show 17 < 18 by decide) rfl rfl (Nat.le_of_ble_eq_true rfl) ⟨rfl, rfl, Nat.le_of_ble_eq_true rfl, Nat.le_of_ble_eq_true rfl⟩ ?_
              refine j_nmS (fun t33 et33 => ?_)
              refine j_aload_n C dX10_share_183 rfl rfl ?_
              refine j_bipush (v := nI 29) C dX10_share_184 (by decide +kernel) ?_
              refine j_bipush (v := nI 27) C dX10_share_186 (by decide +kernel) ?_
              refine j_bipush (v := nI 27) C dX10_share_188 (by decide +kernel) ?_
              refine j_callV0 (T := TX10) (N := 23) C dX10_share_190 (k_X10_multiply l D kc ad 29 (by omega) 27 (by omega) 27 (by omega) _ ) zy_X10_multiply mw_11_4 rfl rfl (Nat.zero_le _) (show 17 < 18 by decide) rfl rfl (Nat.le_of_ble_eq_true rfl) ⟨rfl, rfl, Nat.le_of_ble_eq_true rfl, Nat.le_of_ble_eq_true rfl⟩ ?_
              refine j_nmS (fun t34 et34 => ?_)
              refine j_aload_n C dX10_share_193 rfl rfl ?_
              refine j_bipush (v := nI 30) C dX10_share_194 (by decide +kernel) ?_
              refine j_bipush (v := nI 28) C dX10_share_196 (by decide +kernel) ?_
              refine j_bipush (v := nI 29) C dX10_share_198 (by decide +kernel) ?_
              refine j_callV0 (T := TX10) (N := 23) C dX10_share_200 (k_X10_subtract l D kc ad 30 (by omega) 28 (by omega) 29 (by omega) _ ) zy_X10_subtract mw_11_17 rfl rfl (Nat.zero_le _) (show 17 < 18 by decide) rfl rfl (Nat.le_of_ble_eq_true rfl) ⟨rfl, rfl, Nat.le_of_ble_eq_true rfl, Nat.le_of_ble_eq_true rfl⟩ ?_
              refine j_nmS (fun t35 et35 => ?_)
              refine j_aload_n C dX10_share_203 rfl rfl ?_
              refine j_bipush (v := nI 31) C dX10_share_204 (by decide +kernel) ?_
              refine j_bipush (v := nI 38) C dX10_share_206 (by decide +kernel) ?_
              refine j_bipush (v := nI 39) C dX10_share_208 (by decide +kernel) ?_
              refine j_callV0 (T := TX10) (N := 23) C dX10_share_210 (k_X10_add l D kc ad 31 (by omega) 38 (by omega) 39 (by omega) _ ) zy_X10_add mw_12_2 rfl rfl (Nat.zero_le _) (show 17 < 18 by decide) rfl rfl (Nat.le_of_ble_eq_true rfl) ⟨rfl, rfl, Nat.le_of_ble_eq_true rfl, Nat.le_of_ble_eq_true rfl⟩ ?_
              refine j_nmS (fun t36 et36 => ?_)
              refine j_aload_n C dX10_share_213 rfl rfl ?_
              refine j_bipush (v := nI 32) C dX10_share_214 (by decide +kernel) ?_
              refine j_bipush (v := nI 38) C dX10_share_216 (by decide +kernel) ?_
              refine j_bipush (v := nI 39) C dX10_share_218 (by decide +kernel) ?_
              refine j_callV0 (T := TX10) (N := 23) C dX10_share_220 (k_X10_subtract l D kc ad 32 (by omega) 38 (by omega) 39 (by omega) _ ) zy_X10_subtract mw_11_17 rfl rfl (Nat.zero_le _) (show 17 < 18 by decide) rfl rfl (Nat.le_of_ble_eq_true rfl) ⟨rfl, rfl, Nat.le_of_ble_eq_true rfl, Nat.le_of_ble_eq_true rfl⟩ ?_
              refine j_nmS (fun t37 et37 => ?_)
              refine j_aload_n C dX10_share_223 rfl rfl ?_
              refine j_bipush (v := nI 32) C dX10_share_224 (by decide +kernel) ?_
              refine j_bipush (v := nI 32) C dX10_share_226 (by decide +kernel) ?_
              refine j_bipush (v := nI 26) C dX10_share_228 (by decide +kernel) ?_
              refine j_callV0 (T := TX10) (N := 23) C dX10_share_230 (k_X10_multiply l D kc ad 32 (by omega) 32 (by omega) 26 (by omega) _ ) zy_X10_multiply mw_11_4 rfl rfl (Nat.zero_le _) (show 17 < 18 by decide) rfl rfl (Nat.le_of_ble_eq_true rfl) ⟨rfl, rfl, Nat.le_of_ble_eq_true rfl, Nat.le_of_ble_eq_true rfl⟩ ?_
              refine j_nmS (fun t38 et38 => ?_)
              refine j_aload_n C dX10_share_233 rfl rfl ?_
              refine j_bipush (v := nI 31) C dX10_share_234 (by decide +kernel) ?_
              refine j_bipush (v := nI 31) C dX10_share_236 (by decide +kernel) ?_
              refine j_bipush (v := nI 27) C dX10_share_238 (by decide +kernel) ?_
              refine j_callV0 (T := TX10) (N := 23) C dX10_share_240 (k_X10_multiply l D kc ad 31 (by omega) 31 (by omega) 27 (by omega) _ ) zy_X10_multiply mw_11_4 rfl rfl (Nat.zero_le _) (show 17 < 18 by decide) rfl rfl (Nat.le_of_ble_eq_true rfl) ⟨rfl, rfl, Nat.le_of_ble_eq_true rfl, Nat.le_of_ble_eq_true rfl⟩ ?_
              refine j_nmS (fun t39 et39 => ?_)
              refine j_aload_n C dX10_share_243 rfl rfl ?_
              refine j_bipush (v := nI 33) C dX10_share_244 (by decide +kernel) ?_
              refine j_bipush (v := nI 32) C dX10_share_246 (by decide +kernel) ?_
              refine j_bipush (v := nI 31) C dX10_share_248 (by decide +kernel) ?_
              refine j_callV0 (T := TX10) (N := 23) C dX10_share_250 (k_X10_add l D kc ad 33 (by omega) 32 (by omega) 31 (by omega) _ ) zy_X10_add mw_12_2 rfl rfl (Nat.zero_le _) (show 17 < 18 by decide) rfl rfl (Nat.le_of_ble_eq_true rfl) ⟨rfl, rfl, Nat.le_of_ble_eq_true rfl, Nat.le_of_ble_eq_true rfl⟩ ?_
              refine j_nmS (fun t40 et40 => ?_)
              refine j_aload_n C dX10_share_253 rfl rfl ?_
              refine j_bipush (v := nI 38) C dX10_share_254 (by decide +kernel) ?_
              refine j_bipush (v := nI 33) C dX10_share_256 (by decide +kernel) ?_
              refine j_bipush (v := nI 33) C dX10_share_258 (by decide +kernel) ?_
              refine j_callV0 (T := TX10) (N := 23) C dX10_share_260 (k_X10_multiply l D kc ad 38 (by omega) 33 (by omega) 33 (by omega) _ ) zy_X10_multiply mw_11_4 rfl rfl (Nat.zero_le _) (show 17 < 18 by decide) rfl rfl (Nat.le_of_ble_eq_true rfl) ⟨rfl, rfl, Nat.le_of_ble_eq_true rfl, Nat.le_of_ble_eq_true rfl⟩ ?_
              refine j_nmS (fun t41 et41 => ?_)
              refine j_aload_n C dX10_share_263 rfl rfl ?_
              refine j_bipush (v := nI 33) C dX10_share_264 (by decide +kernel) ?_
              refine j_bipush (v := nI 32) C dX10_share_266 (by decide +kernel) ?_
              refine j_bipush (v := nI 31) C dX10_share_268 (by decide +kernel) ?_
              refine j_callV0 (T := TX10) (N := 23) C dX10_share_270 (k_X10_subtract l D kc ad 33 (by omega) 32 (by omega) 31 (by omega) _ ) zy_X10_subtract mw_11_17 rfl rfl (Nat.zero_le _) (show 17 < 18 by decide) rfl rfl (Nat.le_of_ble_eq_true rfl) ⟨rfl, rfl, Nat.le_of_ble_eq_true rfl, Nat.le_of_ble_eq_true rfl⟩ ?_
              refine j_nmS (fun t42 et42 => ?_)
              refine j_aload_n C dX10_share_273 rfl rfl ?_
              refine j_bipush (v := nI 33) C dX10_share_274 (by decide +kernel) ?_
              refine j_bipush (v := nI 33) C dX10_share_276 (by decide +kernel) ?_
              refine j_bipush (v := nI 33) C dX10_share_278 (by decide +kernel) ?_
              refine j_callV0 (T := TX10) (N := 23) C dX10_share_280 (k_X10_multiply l D kc ad 33 (by omega) 33 (by omega) 33 (by omega) _ ) zy_X10_multiply mw_11_4 rfl rfl (Nat.zero_le _) (show 17 < 18 by decide) rfl rfl (Nat.le_of_ble_eq_true rfl) ⟨rfl, rfl, Nat.le_of_ble_eq_true rfl, Nat.le_of_ble_eq_true rfl⟩ ?_
              refine j_nmS (fun t43 et43 => ?_)
              refine j_aload_n C dX10_share_283 rfl rfl ?_
              refine j_bipush (v := nI 39) C dX10_share_284 (by decide +kernel) ?_
              refine j_bipush (v := nI 40) C dX10_share_286 (by decide +kernel) ?_
              refine j_bipush (v := nI 33) C dX10_share_288 (by decide +kernel) ?_
              refine j_callV0 (T := TX10) (N := 23) C dX10_share_290 (k_X10_multiply l D kc ad 39 (by omega) 40 (by omega) 33 (by omega) _ ) zy_X10_multiply mw_11_4 rfl rfl (Nat.zero_le _) (show 17 < 18 by decide) rfl rfl (Nat.le_of_ble_eq_true rfl) ⟨rfl, rfl, Nat.le_of_ble_eq_true rfl, Nat.le_of_ble_eq_true rfl⟩ ?_
              refine j_nmS (fun t44 et44 => ?_)
              refine j_aload_n C dX10_share_293 rfl rfl ?_
              refine j_bipush (v := nI 36) C dX10_share_294 (by decide +kernel) ?_
              refine j_bipush (v := nI 28) C dX10_share_296 (by decide +kernel) ?_
              refine j_bipush (v := nI 29) C dX10_share_298 (by decide +kernel) ?_
              refine j_callV0 (T := TX10) (N := 23) C dX10_share_300 (k_X10_multiply l D kc ad 36 (by omega) 28 (by omega) 29 (by omega) _ ) zy_X10_multiply mw_11_4 rfl rfl (Nat.zero_le _) (show 17 < 18 by decide) rfl rfl (Nat.le_of_ble_eq_true rfl) ⟨rfl, rfl, Nat.le_of_ble_eq_true rfl, Nat.le_of_ble_eq_true rfl⟩ ?_
              refine j_nmS (fun t45 et45 => ?_)
              refine j_aload_n C dX10_share_303 rfl rfl ?_
              refine j_bipush (v := nI 33) C dX10_share_304 (by decide +kernel) ?_
              refine j_bipush (v := nI 44) C dX10_share_306 (by decide +kernel) ?_
              refine j_bipush (v := nI 30) C dX10_share_308 (by decide +kernel) ?_
              refine j_callV0 (T := TX10) (N := 23) C dX10_share_310 (k_X10_multiply l D kc ad 33 (by omega) 44 (by omega) 30 (by omega) _ ) zy_X10_multiply mw_11_4 rfl rfl (Nat.zero_le _) (show 17 < 18 by decide) rfl rfl (Nat.le_of_ble_eq_true rfl) ⟨rfl, rfl, Nat.le_of_ble_eq_true rfl, Nat.le_of_ble_eq_true rfl⟩ ?_
              refine j_nmS (fun t46 et46 => ?_)
              refine j_aload_n C dX10_share_313 rfl rfl ?_
              refine j_bipush (v := nI 33) C dX10_share_314 (by decide +kernel) ?_
              refine j_bipush (v := nI 33) C dX10_share_316 (by decide +kernel) ?_
              refine j_bipush (v := nI 28) C dX10_share_318 (by decide +kernel) ?_
              refine j_callV0 (T := TX10) (N := 23) C dX10_share_320 (k_X10_add l D kc ad 33 (by omega) 33 (by omega) 28 (by omega) _ ) zy_X10_add mw_12_2 rfl rfl (Nat.zero_le _) (show 17 < 18 by decide) rfl rfl (Nat.le_of_ble_eq_true rfl) ⟨rfl, rfl, Nat.le_of_ble_eq_true rfl, Nat.le_of_ble_eq_true rfl⟩ ?_
              refine j_nmS (fun t47 et47 => ?_)
              refine j_aload_n C dX10_share_323 rfl rfl ?_
              refine j_bipush (v := nI 37) C dX10_share_324 (by decide +kernel) ?_
              refine j_bipush (v := nI 30) C dX10_share_326 (by decide +kernel) ?_
              refine j_bipush (v := nI 33) C dX10_share_328 (by decide +kernel) ?_
              refine j_callV0 (T := TX10) (N := 23) C dX10_share_330 (k_X10_multiply l D kc ad 37 (by omega) 30 (by omega) 33 (by omega) _ ) zy_X10_multiply mw_11_4 rfl rfl (Nat.zero_le _) (show 17 < 18 by decide) rfl rfl (Nat.le_of_ble_eq_true rfl) ⟨rfl, rfl, Nat.le_of_ble_eq_true rfl, Nat.le_of_ble_eq_true rfl⟩ ?_
              refine j_nmS (fun t48 et48 => ?_)
              refine j_iload C dX10_share_333 rfl ?_
              refine j_if_eq (tgt := 354) C dX10_share_335 (by decide) (fun q49 => ?_) (fun q49 => ?_)
              · have hA50 : fX10_share_a5 z24 x28 = fX10_share_a3 t48 := by (try rw [et48]); (try rw [et47]); (try rw [et46]); (try rw [et45]); (try rw [et44]); (try rw [et43]); (try rw [et42]); (try rw [et41]); (try rw [et40]); (try rw [et39]); (try rw [et38]); (try rw [et37]); (try rw [et36]); (try rw [et35]); (try rw [et34]); (try rw [et33]); (try rw [et32]); (try rw [et31]); have q49z := q49; (try rw [et48] at q49z); (try rw [et47] at q49z); (try rw [et46] at q49z); (try rw [et45] at q49z); (try rw [et44] at q49z); (try rw [et43] at q49z); (try rw [et42] at q49z); (try rw [et41] at q49z); (try rw [et40] at q49z); (try rw [et39] at q49z); (try rw [et38] at q49z); (try rw [et37] at q49z); (try rw [et36] at q49z); (try rw [et35] at q49z); (try rw [et34] at q49z); (try rw [et33] at q49z); (try rw [et32] at q49z); (try rw [et31] at q49z); (try dsimp only at q49z); unfold fX10_share_a5; (try dsimp only); rw [if_pos q49z]; (try rfl)
                refine j_iincD C dX10_share_354 rfl (by decide) ?_
                refine j_goto (tgt := 108) C dX10_share_357 (by decide) ?_
                refine j_nmS (fun t51 et51 => ?_)
                refine j_at [(0, .ref (zad (wM D kc ad) 17)), (3, .int (nI (u.toNatClampNeg))), (4, .int (dI i23))] ⟨rfl, rfl, rfl, trivial⟩ ?_
                have eF : fX10_share_108 i23 z24 = t51 := by rw [hA30, hA50]; rw [et51]; unfold fX10_share_a3; first | done | (dsimp only; done) | rfl
                exact Eq.mp (congrArg (fun (z52 : zSt) => zJ κ (wM D kc ad) 108 (zlof [(0, .ref (zad (wM D kc ad) 17)), (3, .int (nI (u.toNatClampNeg))), (4, .int (dI i23))]) [] z52) eF) (k0 ((by omega)))
              · have hA53 : fX10_share_a5 z24 x28 = fX10_share_a4 t48 := by (try rw [et48]); (try rw [et47]); (try rw [et46]); (try rw [et45]); (try rw [et44]); (try rw [et43]); (try rw [et42]); (try rw [et41]); (try rw [et40]); (try rw [et39]); (try rw [et38]); (try rw [et37]); (try rw [et36]); (try rw [et35]); (try rw [et34]); (try rw [et33]); (try rw [et32]); (try rw [et31]); have q49z := q49; (try rw [et48] at q49z); (try rw [et47] at q49z); (try rw [et46] at q49z); (try rw [et45] at q49z); (try rw [et44] at q49z); (try rw [et43] at q49z); (try rw [et42] at q49z); (try rw [et41] at q49z); (try rw [et40] at q49z); (try rw [et39] at q49z); (try rw [et38] at q49z); (try rw [et37] at q49z); (try rw [et36] at q49z); (try rw [et35] at q49z); (try rw [et34] at q49z); (try rw [et33] at q49z); (try rw [et32] at q49z); (try rw [et31] at q49z); (try dsimp only at q49z); unfold fX10_share_a5; (try dsimp only); rw [if_neg q49z]; (try rfl)
                refine j_aload_n C dX10_share_338 rfl rfl ?_
                refine j_bipush (v := nI 36) C dX10_share_339 (by decide +kernel) ?_
                refine j_bipush (v := nI 38) C dX10_share_341 (by decide +kernel) ?_
                refine j_callV0 (T := TX10) (N := 23) C dX10_share_343 (k_X10_swap l D kc ad 36 (by omega) 38 (by omega) _ ) zy_X10_swap mw_33_19 rfl rfl (Nat.zero_le _) (show 17 < 18 by decide) rfl rfl (Nat.le_of_ble_eq_true rfl) ⟨rfl, rfl, Nat.le_of_ble_eq_true rfl, Nat.le_of_ble_eq_true rfl⟩ ?_
                refine j_nmS (fun t54 et54 => ?_)
                refine j_aload_n C dX10_share_346 rfl rfl ?_
                refine j_bipush (v := nI 37) C dX10_share_347 (by decide +kernel) ?_
                refine j_bipush (v := nI 39) C dX10_share_349 (by decide +kernel) ?_
                refine j_callV0 (T := TX10) (N := 23) C dX10_share_351 (k_X10_swap l D kc ad 37 (by omega) 39 (by omega) _ ) zy_X10_swap mw_33_19 rfl rfl (Nat.zero_le _) (show 17 < 18 by decide) rfl rfl (Nat.le_of_ble_eq_true rfl) ⟨rfl, rfl, Nat.le_of_ble_eq_true rfl, Nat.le_of_ble_eq_true rfl⟩ ?_
                refine j_nmS (fun t55 et55 => ?_)
                refine j_iincD C dX10_share_354 rfl (by decide) ?_
                refine j_goto (tgt := 108) C dX10_share_357 (by decide) ?_
                refine j_nmS (fun t56 et56 => ?_)
                refine j_at [(0, .ref (zad (wM D kc ad) 17)), (3, .int (nI (u.toNatClampNeg))), (4, .int (dI i23))] ⟨rfl, rfl, rfl, trivial⟩ ?_
                have eF : fX10_share_108 i23 z24 = t56 := by rw [hA30, hA53]; rw [et56]; (try rw [et55]); (try rw [et54]); unfold fX10_share_a4; first | done | (dsimp only; done) | rfl
                exact Eq.mp (congrArg (fun (z57 : zSt) => zJ κ (wM D kc ad) 108 (zlof [(0, .ref (zad (wM D kc ad) 17)), (3, .int (nI (u.toNatClampNeg))), (4, .int (dI i23))]) [] z57) eF) (k0 ((by omega)))
            · have hA58 : fX10_share_108 i23 z24 = fX10_share_a8 z24 x28 := by (try rw [ex28]); (try rw [ex26]); have q29z := q29; (try rw [ex28] at q29z); (try rw [ex26] at q29z); (try dsimp only at q29z); unfold fX10_share_108; (try dsimp only); rw [if_neg q29z]; (try rfl)
              refine j_aload_n C dX10_share_137 rfl rfl ?_
              refine j_bipush (v := nI 36) C dX10_share_138 (by decide +kernel) ?_
              refine j_bipush (v := nI 38) C dX10_share_140 (by decide +kernel) ?_
              refine j_callV0 (T := TX10) (N := 23) C dX10_share_142 (k_X10_swap l D kc ad 36 (by omega) 38 (by omega) _ ) zy_X10_swap mw_33_19 rfl rfl (Nat.zero_le _) (show 17 < 18 by decide) rfl rfl (Nat.le_of_ble_eq_true rfl) ⟨rfl, rfl, Nat.le_of_ble_eq_true rfl, Nat.le_of_ble_eq_true rfl⟩ ?_
              refine j_nmS (fun t59 et59 => ?_)
              refine j_aload_n C dX10_share_145 rfl rfl ?_
              refine j_bipush (v := nI 37) C dX10_share_146 (by decide +kernel) ?_
              refine j_bipush (v := nI 39) C dX10_share_148 (by decide +kernel) ?_
              refine j_callV0 (T := TX10) (N := 23) C dX10_share_150 (k_X10_swap l D kc ad 37 (by omega) 39 (by omega) _ ) zy_X10_swap mw_33_19 rfl rfl (Nat.zero_le _) (show 17 < 18 by decide) rfl rfl (Nat.le_of_ble_eq_true rfl) ⟨rfl, rfl, Nat.le_of_ble_eq_true rfl, Nat.le_of_ble_eq_true rfl⟩ ?_
              refine j_nmS (fun t60 et60 => ?_)
              refine j_aload_n C dX10_share_153 rfl rfl ?_
              refine j_bipush (v := nI 26) C dX10_share_154 (by decide +kernel) ?_
              refine j_bipush (v := nI 36) C dX10_share_156 (by decide +kernel) ?_
              refine j_bipush (v := nI 37) C dX10_share_158 (by decide +kernel) ?_
              refine j_callV0 (T := TX10) (N := 23) C dX10_share_160 (k_X10_add l D kc ad 26 (by omega) 36 (by omega) 37 (by omega) _ ) zy_X10_add mw_12_2 rfl rfl (Nat.zero_le _) (show 17 < 18 by decide) rfl rfl (Nat.le_of_ble_eq_true rfl) ⟨rfl, rfl, Nat.le_of_ble_eq_true rfl, Nat.le_of_ble_eq_true rfl⟩ ?_
              refine j_nmS (fun t61 et61 => ?_)
              refine j_aload_n C dX10_share_163 rfl rfl ?_
              refine j_bipush (v := nI 27) C dX10_share_164 (by decide +kernel) ?_
              refine j_bipush (v := nI 36) C dX10_share_166 (by decide +kernel) ?_
              refine j_bipush (v := nI 37) C dX10_share_168 (by decide +kernel) ?_
              refine j_callV0 (T := TX10) (N := 23) C dX10_share_170 (k_X10_subtract l D kc ad 27 (by omega) 36 (by omega) 37 (by omega) _ ) zy_X10_subtract mw_11_17 rfl rfl (Nat.zero_le _) (show 17 < 18 by decide) rfl rfl (Nat.le_of_ble_eq_true rfl) ⟨rfl, rfl, Nat.le_of_ble_eq_true rfl, Nat.le_of_ble_eq_true rfl⟩ ?_
              refine j_nmS (fun t62 et62 => ?_)
              refine j_aload_n C dX10_share_173 rfl rfl ?_
              refine j_bipush (v := nI 28) C dX10_share_174 (by decide +kernel) ?_
              refine j_bipush (v := nI 26) C dX10_share_176 (by decide +kernel) ?_
              refine j_bipush (v := nI 26) C dX10_share_178 (by decide +kernel) ?_
              refine j_callV0 (T := TX10) (N := 23) C dX10_share_180 (k_X10_multiply l D kc ad 28 (by omega) 26 (by omega) 26 (by omega) _ ) zy_X10_multiply mw_11_4 rfl rfl (Nat.zero_le _) (show 17 < 18 by decide) rfl rfl (Nat.le_of_ble_eq_true rfl) ⟨rfl, rfl, Nat.le_of_ble_eq_true rfl, Nat.le_of_ble_eq_true rfl⟩ ?_
              refine j_nmS (fun t63 et63 => ?_)
              refine j_aload_n C dX10_share_183 rfl rfl ?_
              refine j_bipush (v := nI 29) C dX10_share_184 (by decide +kernel) ?_
              refine j_bipush (v := nI 27) C dX10_share_186 (by decide +kernel) ?_
              refine j_bipush (v := nI 27) C dX10_share_188 (by decide +kernel) ?_
              refine j_callV0 (T := TX10) (N := 23) C dX10_share_190 (k_X10_multiply l D kc ad 29 (by omega) 27 (by omega) 27 (by omega) _ ) zy_X10_multiply mw_11_4 rfl rfl (Nat.zero_le _) (show 17 < 18 by decide) rfl rfl (Nat.le_of_ble_eq_true rfl) ⟨rfl, rfl, Nat.le_of_ble_eq_true rfl, Nat.le_of_ble_eq_true rfl⟩ ?_
              refine j_nmS (fun t64 et64 => ?_)
              refine j_aload_n C dX10_share_193 rfl rfl ?_
              refine j_bipush (v := nI 30) C dX10_share_194 (by decide +kernel) ?_
              refine j_bipush (v := nI 28) C dX10_share_196 (by decide +kernel) ?_
              refine j_bipush (v := nI 29) C dX10_share_198 (by decide +kernel) ?_
              refine j_callV0 (T := TX10) (N := 23) C dX10_share_200 (k_X10_subtract l D kc ad 30 (by omega) 28 (by omega) 29 (by omega) _ ) zy_X10_subtract mw_11_17 rfl rfl (Nat.zero_le _) (show 17 < 18 by decide) rfl rfl (Nat.le_of_ble_eq_true rfl) ⟨rfl, rfl, Nat.le_of_ble_eq_true rfl, Nat.le_of_ble_eq_true rfl⟩ ?_
              refine j_nmS (fun t65 et65 => ?_)
              refine j_aload_n C dX10_share_203 rfl rfl ?_
              refine j_bipush (v := nI 31) C dX10_share_204 (by decide +kernel) ?_
              refine j_bipush (v := nI 38) C dX10_share_206 (by decide +kernel) ?_
              refine j_bipush (v := nI 39) C dX10_share_208 (by decide +kernel) ?_
              refine j_callV0 (T := TX10) (N := 23) C dX10_share_210 (k_X10_add l D kc ad 31 (by omega) 38 (by omega) 39 (by omega) _ ) zy_X10_add mw_12_2 rfl rfl (Nat.zero_le _) (show 17 < 18 by decide) rfl rfl (Nat.le_of_ble_eq_true rfl) ⟨rfl, rfl, Nat.le_of_ble_eq_true rfl, Nat.le_of_ble_eq_true rfl⟩ ?_
              refine j_nmS (fun t66 et66 => ?_)
              refine j_aload_n C dX10_share_213 rfl rfl ?_
              refine j_bipush (v := nI 32) C dX10_share_214 (by decide +kernel) ?_
              refine j_bipush (v := nI 38) C dX10_share_216 (by decide +kernel) ?_
              refine j_bipush (v := nI 39) C dX10_share_218 (by decide +kernel) ?_
              refine j_callV0 (T := TX10) (N := 23) C dX10_share_220 (k_X10_subtract l D kc ad 32 (by omega) 38 (by omega) 39 (by omega) _ ) zy_X10_subtract mw_11_17 rfl rfl (Nat.zero_le _) (show 17 < 18 by decide) rfl rfl (Nat.le_of_ble_eq_true rfl) ⟨rfl, rfl, Nat.le_of_ble_eq_true rfl, Nat.le_of_ble_eq_true rfl⟩ ?_
              refine j_nmS (fun t67 et67 => ?_)
              refine j_aload_n C dX10_share_223 rfl rfl ?_
              refine j_bipush (v := nI 32) C dX10_share_224 (by decide +kernel) ?_
              refine j_bipush (v := nI 32) C dX10_share_226 (by decide +kernel) ?_
              refine j_bipush (v := nI 26) C dX10_share_228 (by decide +kernel) ?_
              refine j_callV0 (T := TX10) (N := 23) C dX10_share_230 (k_X10_multiply l D kc ad 32 (by omega) 32 (by omega) 26 (by omega) _ ) zy_X10_multiply mw_11_4 rfl rfl (Nat.zero_le _) (show 17 < 18 by decide) rfl rfl (Nat.le_of_ble_eq_true rfl) ⟨rfl, rfl, Nat.le_of_ble_eq_true rfl, Nat.le_of_ble_eq_true rfl⟩ ?_
              refine j_nmS (fun t68 et68 => ?_)
              refine j_aload_n C dX10_share_233 rfl rfl ?_
              refine j_bipush (v := nI 31) C dX10_share_234 (by decide +kernel) ?_
              refine j_bipush (v := nI 31) C dX10_share_236 (by decide +kernel) ?_
              refine j_bipush (v := nI 27) C dX10_share_238 (by decide +kernel) ?_
              refine j_callV0 (T := TX10) (N := 23) C dX10_share_240 (k_X10_multiply l D kc ad 31 (by omega) 31 (by omega) 27 (by omega) _ ) zy_X10_multiply mw_11_4 rfl rfl (Nat.zero_le _) (show 17 < 18 by decide) rfl rfl (Nat.le_of_ble_eq_true rfl) ⟨rfl, rfl, Nat.le_of_ble_eq_true rfl, Nat.le_of_ble_eq_true rfl⟩ ?_
              refine j_nmS (fun t69 et69 => ?_)
              refine j_aload_n C dX10_share_243 rfl rfl ?_
              refine j_bipush (v := nI 33) C dX10_share_244 (by decide +kernel) ?_
              refine j_bipush (v := nI 32) C dX10_share_246 (by decide +kernel) ?_
              refine j_bipush (v := nI 31) C dX10_share_248 (by decide +kernel) ?_
              refine j_callV0 (T := TX10) (N := 23) C dX10_share_250 (k_X10_add l D kc ad 33 (by omega) 32 (by omega) 31 (by omega) _ ) zy_X10_add mw_12_2 rfl rfl (Nat.zero_le _) (show 17 < 18 by decide) rfl rfl (Nat.le_of_ble_eq_true rfl) ⟨rfl, rfl, Nat.le_of_ble_eq_true rfl, Nat.le_of_ble_eq_true rfl⟩ ?_
              refine j_nmS (fun t70 et70 => ?_)
              refine j_aload_n C dX10_share_253 rfl rfl ?_
              refine j_bipush (v := nI 38) C dX10_share_254 (by decide +kernel) ?_
              refine j_bipush (v := nI 33) C dX10_share_256 (by decide +kernel) ?_
              refine j_bipush (v := nI 33) C dX10_share_258 (by decide +kernel) ?_
              refine j_callV0 (T := TX10) (N := 23) C dX10_share_260 (k_X10_multiply l D kc ad 38 (by omega) 33 (by omega) 33 (by omega) _ ) zy_X10_multiply mw_11_4 rfl rfl (Nat.zero_le _) (show 17 < 18 by decide) rfl rfl (Nat.le_of_ble_eq_true rfl) ⟨rfl, rfl, Nat.le_of_ble_eq_true rfl, Nat.le_of_ble_eq_true rfl⟩ ?_
              refine j_nmS (fun t71 et71 => ?_)
              refine j_aload_n C dX10_share_263 rfl rfl ?_
              refine j_bipush (v := nI 33) C dX10_share_264 (by decide +kernel) ?_
              refine j_bipush (v := nI 32) C dX10_share_266 (by decide +kernel) ?_
              refine j_bipush (v := nI 31) C dX10_share_268 (by decide +kernel) ?_
              refine j_callV0 (T := TX10) (N := 23) C dX10_share_270 (k_X10_subtract l D kc ad 33 (by omega) 32 (by omega) 31 (by omega) _ ) zy_X10_subtract mw_11_17 rfl rfl (Nat.zero_le _) (show 17 < 18 by decide) rfl rfl (Nat.le_of_ble_eq_true rfl) ⟨rfl, rfl, Nat.le_of_ble_eq_true rfl, Nat.le_of_ble_eq_true rfl⟩ ?_
              refine j_nmS (fun t72 et72 => ?_)
              refine j_aload_n C dX10_share_273 rfl rfl ?_
              refine j_bipush (v := nI 33) C dX10_share_274 (by decide +kernel) ?_
              refine j_bipush (v := nI 33) C dX10_share_276 (by decide +kernel) ?_
              refine j_bipush (v := nI 33) C dX10_share_278 (by decide +kernel) ?_
              refine j_callV0 (T := TX10) (N := 23) C dX10_share_280 (k_X10_multiply l D kc ad 33 (by omega) 33 (by omega) 33 (by omega) _ ) zy_X10_multiply mw_11_4 rfl rfl (Nat.zero_le _) (show 17 < 18 by decide) rfl rfl (Nat.le_of_ble_eq_true rfl) ⟨rfl, rfl, Nat.le_of_ble_eq_true rfl, Nat.le_of_ble_eq_true rfl⟩ ?_
              refine j_nmS (fun t73 et73 => ?_)
              refine j_aload_n C dX10_share_283 rfl rfl ?_
              refine j_bipush (v := nI 39) C dX10_share_284 (by decide +kernel) ?_
              refine j_bipush (v := nI 40) C dX10_share_286 (by decide +kernel) ?_
              refine j_bipush (v := nI 33) C dX10_share_288 (by decide +kernel) ?_
              refine j_callV0 (T := TX10) (N := 23) C dX10_share_290 (k_X10_multiply l D kc ad 39 (by omega) 40 (by omega) 33 (by omega) _ ) zy_X10_multiply mw_11_4 rfl rfl (Nat.zero_le _) (show 17 < 18 by decide) rfl rfl (Nat.le_of_ble_eq_true rfl) ⟨rfl, rfl, Nat.le_of_ble_eq_true rfl, Nat.le_of_ble_eq_true rfl⟩ ?_
              refine j_nmS (fun t74 et74 => ?_)
              refine j_aload_n C dX10_share_293 rfl rfl ?_
              refine j_bipush (v := nI 36) C dX10_share_294 (by decide +kernel) ?_
              refine j_bipush (v := nI 28) C dX10_share_296 (by decide +kernel) ?_
              refine j_bipush (v := nI 29) C dX10_share_298 (by decide +kernel) ?_
              refine j_callV0 (T := TX10) (N := 23) C dX10_share_300 (k_X10_multiply l D kc ad 36 (by omega) 28 (by omega) 29 (by omega) _ ) zy_X10_multiply mw_11_4 rfl rfl (Nat.zero_le _) (show 17 < 18 by decide) rfl rfl (Nat.le_of_ble_eq_true rfl) ⟨rfl, rfl, Nat.le_of_ble_eq_true rfl, Nat.le_of_ble_eq_true rfl⟩ ?_
              refine j_nmS (fun t75 et75 => ?_)
              refine j_aload_n C dX10_share_303 rfl rfl ?_
              refine j_bipush (v := nI 33) C dX10_share_304 (by decide +kernel) ?_
              refine j_bipush (v := nI 44) C dX10_share_306 (by decide +kernel) ?_
              refine j_bipush (v := nI 30) C dX10_share_308 (by decide +kernel) ?_
              refine j_callV0 (T := TX10) (N := 23) C dX10_share_310 (k_X10_multiply l D kc ad 33 (by omega) 44 (by omega) 30 (by omega) _ ) zy_X10_multiply mw_11_4 rfl rfl (Nat.zero_le _) (show 17 < 18 by decide) rfl rfl (Nat.le_of_ble_eq_true rfl) ⟨rfl, rfl, Nat.le_of_ble_eq_true rfl, Nat.le_of_ble_eq_true rfl⟩ ?_
              refine j_nmS (fun t76 et76 => ?_)
              refine j_aload_n C dX10_share_313 rfl rfl ?_
              refine j_bipush (v := nI 33) C dX10_share_314 (by decide +kernel) ?_
              refine j_bipush (v := nI 33) C dX10_share_316 (by decide +kernel) ?_
              refine j_bipush (v := nI 28) C dX10_share_318 (by decide +kernel) ?_
              refine j_callV0 (T := TX10) (N := 23) C dX10_share_320 (k_X10_add l D kc ad 33 (by omega) 33 (by omega) 28 (by omega) _ ) zy_X10_add mw_12_2 rfl rfl (Nat.zero_le _) (show 17 < 18 by decide) rfl rfl (Nat.le_of_ble_eq_true rfl) ⟨rfl, rfl, Nat.le_of_ble_eq_true rfl, Nat.le_of_ble_eq_true rfl⟩ ?_
              refine j_nmS (fun t77 et77 => ?_)
              refine j_aload_n C dX10_share_323 rfl rfl ?_
              refine j_bipush (v := nI 37) C dX10_share_324 (by decide +kernel) ?_
              refine j_bipush (v := nI 30) C dX10_share_326 (by decide +kernel) ?_
              refine j_bipush (v := nI 33) C dX10_share_328 (by decide +kernel) ?_
              refine j_callV0 (T := TX10) (N := 23) C dX10_share_330 (k_X10_multiply l D kc ad 37 (by omega) 30 (by omega) 33 (by omega) _ ) zy_X10_multiply mw_11_4 rfl rfl (Nat.zero_le _) (show 17 < 18 by decide) rfl rfl (Nat.le_of_ble_eq_true rfl) ⟨rfl, rfl, Nat.le_of_ble_eq_true rfl, Nat.le_of_ble_eq_true rfl⟩ ?_
              refine j_nmS (fun t78 et78 => ?_)
              refine j_iload C dX10_share_333 rfl ?_
              refine j_if_eq (tgt := 354) C dX10_share_335 (by decide) (fun q79 => ?_) (fun q79 => ?_)
              · have hA80 : fX10_share_a8 z24 x28 = fX10_share_a6 t78 := by (try rw [et78]); (try rw [et77]); (try rw [et76]); (try rw [et75]); (try rw [et74]); (try rw [et73]); (try rw [et72]); (try rw [et71]); (try rw [et70]); (try rw [et69]); (try rw [et68]); (try rw [et67]); (try rw [et66]); (try rw [et65]); (try rw [et64]); (try rw [et63]); (try rw [et62]); (try rw [et61]); (try rw [et60]); (try rw [et59]); have q79z := q79; (try rw [et78] at q79z); (try rw [et77] at q79z); (try rw [et76] at q79z); (try rw [et75] at q79z); (try rw [et74] at q79z); (try rw [et73] at q79z); (try rw [et72] at q79z); (try rw [et71] at q79z); (try rw [et70] at q79z); (try rw [et69] at q79z); (try rw [et68] at q79z); (try rw [et67] at q79z); (try rw [et66] at q79z); (try rw [et65] at q79z); (try rw [et64] at q79z); (try rw [et63] at q79z); (try rw [et62] at q79z); (try rw [et61] at q79z); (try rw [et60] at q79z); (try rw [et59] at q79z); (try dsimp only at q79z); unfold fX10_share_a8; (try dsimp only); rw [if_pos q79z]; (try rfl)
                refine j_iincD C dX10_share_354 rfl (by decide) ?_
                refine j_goto (tgt := 108) C dX10_share_357 (by decide) ?_
                refine j_nmS (fun t81 et81 => ?_)
                refine j_at [(0, .ref (zad (wM D kc ad) 17)), (3, .int (nI (u.toNatClampNeg))), (4, .int (dI i23))] ⟨rfl, rfl, rfl, trivial⟩ ?_
                have eF : fX10_share_108 i23 z24 = t81 := by rw [hA58, hA80]; rw [et81]; unfold fX10_share_a6; first | done | (dsimp only; done) | rfl
                exact Eq.mp (congrArg (fun (z82 : zSt) => zJ κ (wM D kc ad) 108 (zlof [(0, .ref (zad (wM D kc ad) 17)), (3, .int (nI (u.toNatClampNeg))), (4, .int (dI i23))]) [] z82) eF) (k0 ((by omega)))
              · have hA83 : fX10_share_a8 z24 x28 = fX10_share_a7 t78 := by (try rw [et78]); (try rw [et77]); (try rw [et76]); (try rw [et75]); (try rw [et74]); (try rw [et73]); (try rw [et72]); (try rw [et71]); (try rw [et70]); (try rw [et69]); (try rw [et68]); (try rw [et67]); (try rw [et66]); (try rw [et65]); (try rw [et64]); (try rw [et63]); (try rw [et62]); (try rw [et61]); (try rw [et60]); (try rw [et59]); have q79z := q79; (try rw [et78] at q79z); (try rw [et77] at q79z); (try rw [et76] at q79z); (try rw [et75] at q79z); (try rw [et74] at q79z); (try rw [et73] at q79z); (try rw [et72] at q79z); (try rw [et71] at q79z); (try rw [et70] at q79z); (try rw [et69] at q79z); (try rw [et68] at q79z); (try rw [et67] at q79z); (try rw [et66] at q79z); (try rw [et65] at q79z); (try rw [et64] at q79z); (try rw [et63] at q79z); (try rw [et62] at q79z); (try rw [et61] at q79z); (try rw [et60] at q79z); (try rw [et59] at q79z); (try dsimp only at q79z); unfold fX10_share_a8; (try dsimp only); rw [if_neg q79z]; (try rfl)
                refine j_aload_n C dX10_share_338 rfl rfl ?_
                refine j_bipush (v := nI 36) C dX10_share_339 (by decide +kernel) ?_
                refine j_bipush (v := nI 38) C dX10_share_341 (by decide +kernel) ?_
                refine j_callV0 (T := TX10) (N := 23) C dX10_share_343 (k_X10_swap l D kc ad 36 (by omega) 38 (by omega) _ ) zy_X10_swap mw_33_19 rfl rfl (Nat.zero_le _) (show 17 < 18 by decide) rfl rfl (Nat.le_of_ble_eq_true rfl) ⟨rfl, rfl, Nat.le_of_ble_eq_true rfl, Nat.le_of_ble_eq_true rfl⟩ ?_
                refine j_nmS (fun t84 et84 => ?_)
                refine j_aload_n C dX10_share_346 rfl rfl ?_
                refine j_bipush (v := nI 37) C dX10_share_347 (by decide +kernel) ?_
                refine j_bipush (v := nI 39) C dX10_share_349 (by decide +kernel) ?_
                refine j_callV0 (T := TX10) (N := 23) C dX10_share_351 (k_X10_swap l D kc ad 37 (by omega) 39 (by omega) _ ) zy_X10_swap mw_33_19 rfl rfl (Nat.zero_le _) (show 17 < 18 by decide) rfl rfl (Nat.le_of_ble_eq_true rfl) ⟨rfl, rfl, Nat.le_of_ble_eq_true rfl, Nat.le_of_ble_eq_true rfl⟩ ?_
                refine j_nmS (fun t85 et85 => ?_)
                refine j_iincD C dX10_share_354 rfl (by decide) ?_
                refine j_goto (tgt := 108) C dX10_share_357 (by decide) ?_
                refine j_nmS (fun t86 et86 => ?_)
                refine j_at [(0, .ref (zad (wM D kc ad) 17)), (3, .int (nI (u.toNatClampNeg))), (4, .int (dI i23))] ⟨rfl, rfl, rfl, trivial⟩ ?_
                have eF : fX10_share_108 i23 z24 = t86 := by rw [hA58, hA83]; rw [et86]; (try rw [et85]); (try rw [et84]); unfold fX10_share_a7; first | done | (dsimp only; done) | rfl
                exact Eq.mp (congrArg (fun (z87 : zSt) => zJ κ (wM D kc ad) 108 (zlof [(0, .ref (zad (wM D kc ad) 17)), (3, .int (nI (u.toNatClampNeg))), (4, .int (dI i23))]) [] z87) eF) (k0 ((by omega)))
          · intro hIi23
            revert hIi23
            refine z_nm (P := fun (z24 : zSt) => (fun i23 z24 => i23 ≤ 255) 0 z24 → zJ κ (wM D kc ad) 108 (zlof [(0, .ref (zad (wM D kc ad) 17)), (3, .int (nI (u.toNatClampNeg))), (4, .int (dI 0))]) [] z24) (fun u88 eu88 => ?_)
            intro hIi23
            refine j_iload C dX10_share_108 rfl ?_
            refine j_if_lt (tgt := 360) C dX10_share_110 (by decide) (fun q89 => ?_) (fun q89 => False.elim (q89 dI_0))
            refine j_aload_n C dX10_share_360 rfl rfl ?_
            refine j_bipush (v := nI 37) C dX10_share_361 (by decide +kernel) ?_
            refine j_bipush (v := nI 37) C dX10_share_363 (by decide +kernel) ?_
            refine j_callV0 (T := TX10) (N := 23) C dX10_share_365 (k_X10_invert l D kc ad 37 (by omega) 37 (by omega) _ ) zy_X10_invert mw_11_21 rfl rfl (Nat.zero_le _) (show 17 < 18 by decide) rfl rfl (Nat.le_of_ble_eq_true rfl) ⟨rfl, rfl, Nat.le_of_ble_eq_true rfl, Nat.le_of_ble_eq_true rfl⟩ ?_
            refine j_nmS (fun t90 et90 => ?_)
            refine j_aload_n C dX10_share_368 rfl rfl ?_
            refine j_bipush (v := nI 36) C dX10_share_369 (by decide +kernel) ?_
            refine j_bipush (v := nI 36) C dX10_share_371 (by decide +kernel) ?_
            refine j_bipush (v := nI 37) C dX10_share_373 (by decide +kernel) ?_
            refine j_callV0 (T := TX10) (N := 23) C dX10_share_375 (k_X10_multiply l D kc ad 36 (by omega) 36 (by omega) 37 (by omega) _ ) zy_X10_multiply mw_11_4 rfl rfl (Nat.zero_le _) (show 17 < 18 by decide) rfl rfl (Nat.le_of_ble_eq_true rfl) ⟨rfl, rfl, Nat.le_of_ble_eq_true rfl, Nat.le_of_ble_eq_true rfl⟩ ?_
            refine j_nmS (fun t91 et91 => ?_)
            refine j_aload_n C dX10_share_378 rfl rfl ?_
            refine j_iload_n C dX10_share_379 rfl rfl ?_
            refine j_bipush (v := nI 36) C dX10_share_380 (by decide +kernel) ?_
            refine j_callV0 (T := TX10) (N := 23) C dX10_share_382 (k_X10_store l D kc ad u.toNatClampNeg (by omega) 36 (by omega) _ ) zy_X10_store mw_21_4 rfl rfl (Nat.zero_le _) (show 17 < 18 by decide) rfl rfl (Nat.le_of_ble_eq_true rfl) ⟨rfl, rfl, Nat.le_of_ble_eq_true rfl, Nat.le_of_ble_eq_true rfl⟩ ?_
            refine j_nmS (fun t92 et92 => ?_)
            refine j_aload_n C dX10_share_385 rfl rfl ?_
            refine j_bipush (v := nI 36) C dX10_share_386 (by decide +kernel) ?_
            refine j_iconst (v := nI 0) C dX10_share_388 (by decide +kernel) ?_
            refine j_callV1 (T := TX10) (N := 23) C dX10_share_389 (k_X10_isSame l D kc ad 36 (by omega) 0 (by omega) _ ) zy_X10_isSame mw_13_14 rfl rfl (Nat.zero_le _) (show 17 < 18 by decide) rfl rfl (Nat.le_of_ble_eq_true rfl) ⟨rfl, rfl, Nat.le_of_ble_eq_true rfl, Nat.le_of_ble_eq_true rfl⟩ ?_
            refine j_nmS (fun t93 et93 => ?_)
            refine j_if_eqB (tgt := 399) C dX10_share_392 (by decide) (fun q94 => ?_) (fun q94 => ?_)
            · have hA95 : fX10_share_a11 k a u s0 = fX10_share_a9 t93 := by (try rw [et93]); (try rw [et92]); (try rw [et91]); (try rw [et90]); (try rw [eu88]); (try rw [et22]); (try rw [et21]); (try rw [et20]); (try rw [et19]); (try rw [et18]); (try rw [et17]); (try rw [et16]); (try rw [et15]); (try rw [et14]); have q94z := q94; (try rw [et93] at q94z); (try rw [et92] at q94z); (try rw [et91] at q94z); (try rw [et90] at q94z); (try rw [eu88] at q94z); (try rw [et22] at q94z); (try rw [et21] at q94z); (try rw [et20] at q94z); (try rw [et19] at q94z); (try rw [et18] at q94z); (try rw [et17] at q94z); (try rw [et16] at q94z); (try rw [et15] at q94z); (try rw [et14] at q94z); (try dsimp only at q94z); unfold fX10_share_a11; (try dsimp only); rw [q94z, cond_false]; (try rfl)
              refine j_iconst (v := nI 1) C dX10_share_399 (by decide +kernel) ?_
              exact j_iret (st := []) C R0 dX10_share_400 ⟨(by rw [hA3, hA6, hA8, hA13, hA95]; unfold fX10_share_a9; (try dsimp only); all_goals ((try simp only [zfst_mk, zsnd_mk]); all_goals rfl)), ((by rw [hA3, hA6, hA8, hA13, hA95]; unfold fX10_share_a9; (try dsimp only); all_goals ((try simp only [zfst_mk, zsnd_mk]); all_goals rfl)))⟩
            · have hA96 : fX10_share_a11 k a u s0 = fX10_share_a10 t93 := by (try rw [et93]); (try rw [et92]); (try rw [et91]); (try rw [et90]); (try rw [eu88]); (try rw [et22]); (try rw [et21]); (try rw [et20]); (try rw [et19]); (try rw [et18]); (try rw [et17]); (try rw [et16]); (try rw [et15]); (try rw [et14]); have q94z := q94; (try rw [et93] at q94z); (try rw [et92] at q94z); (try rw [et91] at q94z); (try rw [et90] at q94z); (try rw [eu88] at q94z); (try rw [et22] at q94z); (try rw [et21] at q94z); (try rw [et20] at q94z); (try rw [et19] at q94z); (try rw [et18] at q94z); (try rw [et17] at q94z); (try rw [et16] at q94z); (try rw [et15] at q94z); (try rw [et14] at q94z); (try dsimp only at q94z); unfold fX10_share_a11; (try dsimp only); rw [q94z, cond_true]; (try rfl)
              refine j_iconst (v := nI 0) C dX10_share_395 (by decide +kernel) ?_
              refine j_goto (tgt := 400) C dX10_share_396 (by decide) ?_
              exact j_iret (st := []) C R0 dX10_share_400 ⟨(by rw [hA3, hA6, hA8, hA13, hA96]; unfold fX10_share_a10; (try dsimp only); all_goals ((try simp only [zfst_mk, zsnd_mk]); all_goals rfl)), ((by rw [hA3, hA6, hA8, hA13, hA96]; unfold fX10_share_a10; (try dsimp only); all_goals ((try simp only [zfst_mk, zsnd_mk]); all_goals rfl)))⟩
        · have hA97 : fX10_share_a13 k a u s0 = fX10_share_a12 s0 := by have q12z := q12; (try dsimp only at q12z); unfold fX10_share_a13; (try dsimp only); rw [if_neg q12z]; (try rfl)
          refine j_bipush (v := -103) C dX10_share_32 (by decide +kernel) ?_
          exact j_iret (st := []) C R0 dX10_share_34 ⟨(by rw [hA3, hA6, hA8, hA97]; unfold fX10_share_a12; (try dsimp only); all_goals ((try simp only [zfst_mk, zsnd_mk]); all_goals rfl)), ((by rw [hA3, hA6, hA8, hA97]; unfold fX10_share_a12; (try dsimp only); all_goals ((try simp only [zfst_mk, zsnd_mk]); all_goals rfl)))⟩
      · have hA98 : fX10_share_a15 k a u s0 = fX10_share_a14 s0 := by have q7z := q7; (try dsimp only at q7z); unfold fX10_share_a15; (try dsimp only); rw [q7z, cond_false]; (try rfl)
        refine j_bipush (v := -101) C dX10_share_21 (by decide +kernel) ?_
        exact j_iret (st := []) C R0 dX10_share_23 ⟨(by rw [hA3, hA6, hA98]; unfold fX10_share_a14; (try dsimp only); all_goals ((try simp only [zfst_mk, zsnd_mk]); all_goals rfl)), ((by rw [hA3, hA6, hA98]; unfold fX10_share_a14; (try dsimp only); all_goals ((try simp only [zfst_mk, zsnd_mk]); all_goals rfl)))⟩

def fX10_digest_a1 (s0 : zSt) : Int32 × zSt :=
    ((-101 : Int32), s0)
def fX10_digest_a2 (t : Int32) (T0 : Nat) (s0 : zSt) : Int32 × zSt :=
    let t7 := fX10_tellText 0 T0 s0
    let t8 := fX10_digests (0 + T0) t7
    let t9 := fX10_digestWords 4 0 t8
    let t10 := fX10_digestWords 8 32 t9
    let t11 := fX10_toSlot t.toNatClampNeg 4 t10
    let t12 := fX10_toSlot (t.toNatClampNeg + 1) 8 t11
    (nI (1), t12)
def fX10_digest_a3 (s0 : zSt) : Int32 × zSt :=
    ((-101 : Int32), s0)
def fX10_digest_a4 (t : Int32) (T0 : Nat) (s0 : zSt) : Int32 × zSt :=
    bif (vX10_isSlot (nI (t.toNatClampNeg + 1)) s0) then
      fX10_digest_a2 t T0 s0
    else
      fX10_digest_a3 s0
def fX10_digest (t : Int32) (T0 : Nat) (s0 : zSt) : Int32 × zSt :=
    bif (vX10_isSlot t s0) then
      fX10_digest_a4 t T0 s0
    else
      fX10_digest_a1 s0
set_option maxHeartbeats 4000000 in
set_option maxRecDepth 100000 in
theorem k_X10_digest (l : Launch) (D : va_G) (kc : Nat → ClassId) (ad : Nat → Nat) (t : Int32) (T0 : Nat) (s0 : zSt) (hms : s0.2.2 5 = nI 0) (htx : s0.2.2 0 = nI T0) (hT0 : T0 ≤ 400) : zM l yX10_digest cX10_digest 2 (some .int) rX10_digest (wM D kc ad) [.ref (zad (wM D kc ad) 17), .int t] s0 (zV1 (.int (zfst (fX10_digest t T0 s0))) (zsnd (fX10_digest t T0 s0))) := by
  refine z_of (own := RX10) (by decide +kernel) rfl (Nat.le_of_ble_eq_true rfl) ?_
  intro κ C R0
  refine j_at [(0, .ref (zad (wM D kc ad) 17)), (1, .int t)] ⟨rfl, rfl, trivial⟩ ?_
  refine j_iload_n C dX10_digest_0 rfl rfl ?_
  refine j_callS1 C dX10_digest_1 (k_X10_isSlot l D kc ad (t) _ ) zy_X10_isSlot mw_15_3 rfl rfl (Nat.le_of_ble_eq_true rfl) ⟨rfl, rfl, Nat.le_of_ble_eq_true rfl, Nat.le_of_ble_eq_true rfl⟩ ?_
  refine j_if_eqB (tgt := 16) C dX10_digest_4 (by decide) (fun q1 => ?_) (fun q1 => ?_)
  · have hA2 : fX10_digest t T0 s0 = fX10_digest_a1 s0 := by have q1z := q1; (try dsimp only at q1z); unfold fX10_digest; (try dsimp only); rw [q1z, cond_false]; (try rfl)
    refine j_bipush (v := -101) C dX10_digest_16 (by decide +kernel) ?_
    exact j_iret (st := []) C R0 dX10_digest_18 ⟨(by rw [hA2]; unfold fX10_digest_a1; (try dsimp only); all_goals ((try simp only [zfst_mk, zsnd_mk]); all_goals rfl)), ((by rw [hA2]; unfold fX10_digest_a1; (try dsimp only); all_goals ((try simp only [zfst_mk, zsnd_mk]); all_goals rfl)))⟩
  · have hA3 : fX10_digest t T0 s0 = fX10_digest_a4 t T0 s0 := by have q1z := q1; (try dsimp only at q1z); unfold fX10_digest; (try dsimp only); rw [q1z, cond_true]; (try rfl)
    have hc4 := msl_of (x := t) (by assumption)
    have hc4b := hc4.2
    refine j_at [(0, .ref (zad (wM D kc ad) 17)), (1, .int (nI (t.toNatClampNeg)))] ⟨rfl, congrArg (fun q => some (Value.int q)) hc4.1, trivial⟩ ?_
    refine j_iload_n C dX10_digest_7 rfl rfl ?_
    refine j_iconst (v := nI 1) C dX10_digest_8 (by decide +kernel) ?_
    refine j_iaddN C dX10_digest_9 ?_
    refine j_callS1 C dX10_digest_10 (k_X10_isSlot l D kc ad (nI (t.toNatClampNeg + 1)) _ ) zy_X10_isSlot mw_15_3 rfl rfl (Nat.le_of_ble_eq_true rfl) ⟨rfl, rfl, Nat.le_of_ble_eq_true rfl, Nat.le_of_ble_eq_true rfl⟩ ?_
    refine j_if_neB (tgt := 19) C dX10_digest_13 (by decide) (fun q5 => ?_) (fun q5 => ?_)
    · have hA6 : fX10_digest_a4 t T0 s0 = fX10_digest_a2 t T0 s0 := by have q5z := q5; (try dsimp only at q5z); unfold fX10_digest_a4; (try dsimp only); rw [q5z, cond_true]; (try rfl)
      have h24 : t.toNatClampNeg + 1 < 24 := msl_N (by omega) (by assumption)
      refine j_aload_n C dX10_digest_19 rfl rfl ?_
      refine j_callV0 (T := TX10) (N := 23) C dX10_digest_20 (k_X10_tellText l D kc ad 0 T0 _ (by simp (maxDischargeDepth := 12) only [i2_fX10_toSlot, i2_fX10_digestWords, tw_len, tx_len, dg_len, tw_0, tx_0, dg_0, hms, htx, zI10, zI30, zI15, zI35, op_len, op_0]) (by simp (maxDischargeDepth := 12) only [i2_fX10_toSlot, i2_fX10_digestWords, tw_len, tx_len, dg_len, tw_0, tx_0, dg_0, hms, htx, zI10, zI30, zI15, zI35, op_len, op_0]) (by omega) (by omega)) zy_X10_tellText mw_36_4 rfl rfl (Nat.zero_le _) (show 17 < 18 by decide) rfl rfl (Nat.le_of_ble_eq_true rfl) ⟨rfl, rfl, Nat.le_of_ble_eq_true rfl, Nat.le_of_ble_eq_true rfl⟩ ?_
      refine j_nmS (fun t7 et7 => ?_)
      refine j_aload_n C dX10_digest_23 rfl rfl ?_
      refine j_callV0 (T := TX10) (N := 23) C dX10_digest_24 (k_X10_digests l D kc ad (0 + T0) _ (by (try rw [et7]); simp (maxDischargeDepth := 12) only [i2_fX10_toSlot, i2_fX10_digestWords, tw_len, tx_len, dg_len, tw_0, tx_0, dg_0, hms, htx, zI10, zI30, zI15, zI35, op_len, op_0]) (by omega)) zy_X10_digests mw_36_13 rfl rfl (Nat.zero_le _) (show 17 < 18 by decide) rfl rfl (Nat.le_of_ble_eq_true rfl) ⟨rfl, rfl, Nat.le_of_ble_eq_true rfl, Nat.le_of_ble_eq_true rfl⟩ ?_
      refine j_nmS (fun t8 et8 => ?_)
      refine j_aload_n C dX10_digest_27 rfl rfl ?_
      refine j_iconst (v := nI 4) C dX10_digest_28 (by decide +kernel) ?_
      refine j_iconst (v := nI 0) C dX10_digest_29 (by decide +kernel) ?_
      refine j_callV0 (T := TX10) (N := 23) C dX10_digest_30 (k_X10_digestWords l D kc ad 4 (by omega) 0 (by omega) _ ) zy_X10_digestWords mw_37_0 rfl rfl (Nat.zero_le _) (show 17 < 18 by decide) rfl rfl (Nat.le_of_ble_eq_true rfl) ⟨rfl, rfl, Nat.le_of_ble_eq_true rfl, Nat.le_of_ble_eq_true rfl⟩ ?_
      refine j_nmS (fun t9 et9 => ?_)
      refine j_aload_n C dX10_digest_33 rfl rfl ?_
      refine j_bipush (v := nI 8) C dX10_digest_34 (by decide +kernel) ?_
      refine j_bipush (v := nI 32) C dX10_digest_36 (by decide +kernel) ?_
      refine j_callV0 (T := TX10) (N := 23) C dX10_digest_38 (k_X10_digestWords l D kc ad 8 (by omega) 32 (by omega) _ ) zy_X10_digestWords mw_37_0 rfl rfl (Nat.zero_le _) (show 17 < 18 by decide) rfl rfl (Nat.le_of_ble_eq_true rfl) ⟨rfl, rfl, Nat.le_of_ble_eq_true rfl, Nat.le_of_ble_eq_true rfl⟩ ?_
      refine j_nmS (fun t10 et10 => ?_)
      refine j_aload_n C dX10_digest_41 rfl rfl ?_
      refine j_iload_n C dX10_digest_42 rfl rfl ?_
      refine j_iconst (v := nI 4) C dX10_digest_43 (by decide +kernel) ?_
      refine j_callV0 (T := TX10) (N := 23) C dX10_digest_44 (k_X10_toSlot l D kc ad t.toNatClampNeg (by omega) 4 (by omega) _ ) zy_X10_toSlot mw_16_13 rfl rfl (Nat.zero_le _) (show 17 < 18 by decide) rfl rfl (Nat.le_of_ble_eq_true rfl) ⟨rfl, rfl, Nat.le_of_ble_eq_true rfl, Nat.le_of_ble_eq_true rfl⟩ ?_
      refine j_nmS (fun t11 et11 => ?_)
      refine j_aload_n C dX10_digest_47 rfl rfl ?_
      refine j_iload_n C dX10_digest_48 rfl rfl ?_
      refine j_iconst (v := nI 1) C dX10_digest_49 (by decide +kernel) ?_
      refine j_iaddN C dX10_digest_50 ?_
      refine j_bipush (v := nI 8) C dX10_digest_51 (by decide +kernel) ?_
      refine j_callV0 (T := TX10) (N := 23) C dX10_digest_53 (k_X10_toSlot l D kc ad (t.toNatClampNeg + 1) (by omega) 8 (by omega) _ ) zy_X10_toSlot mw_16_13 rfl rfl (Nat.zero_le _) (show 17 < 18 by decide) rfl rfl (Nat.le_of_ble_eq_true rfl) ⟨rfl, rfl, Nat.le_of_ble_eq_true rfl, Nat.le_of_ble_eq_true rfl⟩ ?_
      refine j_nmS (fun t12 et12 => ?_)
      refine j_iconst (v := nI 1) C dX10_digest_56 (by decide +kernel) ?_
      exact j_iret (st := []) C R0 dX10_digest_57 ⟨(by rw [hA3, hA6]; (try rw [et12]); (try rw [et11]); (try rw [et10]); (try rw [et9]); (try rw [et8]); (try rw [et7]); unfold fX10_digest_a2; (try dsimp only); all_goals ((try simp only [zfst_mk, zsnd_mk]); all_goals rfl)), ((by rw [hA3, hA6]; (try rw [et12]); (try rw [et11]); (try rw [et10]); (try rw [et9]); (try rw [et8]); (try rw [et7]); unfold fX10_digest_a2; (try dsimp only); all_goals ((try simp only [zfst_mk, zsnd_mk]); all_goals rfl)))⟩
    · have hA13 : fX10_digest_a4 t T0 s0 = fX10_digest_a3 s0 := by have q5z := q5; (try dsimp only at q5z); unfold fX10_digest_a4; (try dsimp only); rw [q5z, cond_false]; (try rfl)
      refine j_bipush (v := -101) C dX10_digest_16 (by decide +kernel) ?_
      exact j_iret (st := []) C R0 dX10_digest_18 ⟨(by rw [hA3, hA13]; unfold fX10_digest_a3; (try dsimp only); all_goals ((try simp only [zfst_mk, zsnd_mk]); all_goals rfl)), ((by rw [hA3, hA13]; unfold fX10_digest_a3; (try dsimp only); all_goals ((try simp only [zfst_mk, zsnd_mk]); all_goals rfl)))⟩

def fX10_judge_a1 (s0 : zSt) : Int32 × zSt :=
    ((-101 : Int32), s0)
def fX10_judge_a2 (s0 : zSt) : Int32 × zSt :=
    ((-101 : Int32), s0)
def fX10_judge_a3 (t15 : zSt) : Int32 × zSt :=
    let t18 := zI t15 4 ((t15.2.2 4) + (nI (1)))
    (nI (1), t18)
def fX10_judge_a4 (t15 : zSt) : Int32 × zSt :=
    (nI (0), t15)
def fX10_judge_a5 (a : Int32) (t : Int32) (T0 : Nat) (s0 : zSt) : Int32 × zSt :=
    let t13 := zI s0 1 ((s0.2.2 1) - (nI (2)))
    let t14 := zI t13 3 ((t13.2.2 3) + (nI (1)))
    let t15 := zsnd (fX10_isRight a.toNatClampNeg t.toNatClampNeg T0 t14)
    bif (zfst (fX10_isRight a.toNatClampNeg t.toNatClampNeg T0 t14)) then
      fX10_judge_a3 t15
    else
      fX10_judge_a4 t15
def fX10_judge_a6 (s0 : zSt) : Int32 × zSt :=
    ((-103 : Int32), s0)
def fX10_judge_a7 (a : Int32) (t : Int32) (T0 : Nat) (s0 : zSt) : Int32 × zSt :=
    if nI (2) ≤ s0.2.2 1 then
      fX10_judge_a5 a t T0 s0
    else
      fX10_judge_a6 s0
def fX10_judge_a8 (s0 : zSt) : Int32 × zSt :=
    ((-101 : Int32), s0)
def fX10_judge_a9 (a : Int32) (t : Int32) (T0 : Nat) (s0 : zSt) : Int32 × zSt :=
    bif (vX10_isSlot (nI (t.toNatClampNeg + 1)) s0) then
      fX10_judge_a7 a t T0 s0
    else
      fX10_judge_a8 s0
def fX10_judge_a10 (a : Int32) (t : Int32) (T0 : Nat) (s0 : zSt) : Int32 × zSt :=
    bif (vX10_isSlot t s0) then
      fX10_judge_a9 a t T0 s0
    else
      fX10_judge_a2 s0
def fX10_judge (a : Int32) (t : Int32) (T0 : Nat) (s0 : zSt) : Int32 × zSt :=
    bif (vX10_isSlot a s0) then
      fX10_judge_a10 a t T0 s0
    else
      fX10_judge_a1 s0
set_option maxHeartbeats 4000000 in
set_option maxRecDepth 100000 in
theorem k_X10_judge (l : Launch) (D : va_G) (kc : Nat → ClassId) (ad : Nat → Nat) (a : Int32) (t : Int32) (T0 : Nat) (s0 : zSt) (hms : s0.2.2 5 = nI 0) (htx : s0.2.2 0 = nI T0) (hT0 : T0 ≤ 400) : zM l yX10_judge cX10_judge 3 (some .int) rX10_judge (wM D kc ad) [.ref (zad (wM D kc ad) 17), .int a, .int t] s0 (zV1 (.int (zfst (fX10_judge a t T0 s0))) (zsnd (fX10_judge a t T0 s0))) := by
  refine z_of (own := RX10) (by decide +kernel) rfl (Nat.le_of_ble_eq_true rfl) ?_
  intro κ C R0
  refine j_at [(0, .ref (zad (wM D kc ad) 17)), (1, .int a), (2, .int t)] ⟨rfl, rfl, rfl, trivial⟩ ?_
  refine j_iload_n C dX10_judge_0 rfl rfl ?_
  refine j_callS1 C dX10_judge_1 (k_X10_isSlot l D kc ad (a) _ ) zy_X10_isSlot mw_15_3 rfl rfl (Nat.le_of_ble_eq_true rfl) ⟨rfl, rfl, Nat.le_of_ble_eq_true rfl, Nat.le_of_ble_eq_true rfl⟩ ?_
  refine j_if_eqB (tgt := 23) C dX10_judge_4 (by decide) (fun q1 => ?_) (fun q1 => ?_)
  · have hA2 : fX10_judge a t T0 s0 = fX10_judge_a1 s0 := by have q1z := q1; (try dsimp only at q1z); unfold fX10_judge; (try dsimp only); rw [q1z, cond_false]; (try rfl)
    refine j_bipush (v := -101) C dX10_judge_23 (by decide +kernel) ?_
    exact j_iret (st := []) C R0 dX10_judge_25 ⟨(by rw [hA2]; unfold fX10_judge_a1; (try dsimp only); all_goals ((try simp only [zfst_mk, zsnd_mk]); all_goals rfl)), ((by rw [hA2]; unfold fX10_judge_a1; (try dsimp only); all_goals ((try simp only [zfst_mk, zsnd_mk]); all_goals rfl)))⟩
  · have hA3 : fX10_judge a t T0 s0 = fX10_judge_a10 a t T0 s0 := by have q1z := q1; (try dsimp only at q1z); unfold fX10_judge; (try dsimp only); rw [q1z, cond_true]; (try rfl)
    refine j_iload_n C dX10_judge_7 rfl rfl ?_
    refine j_callS1 C dX10_judge_8 (k_X10_isSlot l D kc ad (t) _ ) zy_X10_isSlot mw_15_3 rfl rfl (Nat.le_of_ble_eq_true rfl) ⟨rfl, rfl, Nat.le_of_ble_eq_true rfl, Nat.le_of_ble_eq_true rfl⟩ ?_
    refine j_if_eqB (tgt := 23) C dX10_judge_11 (by decide) (fun q4 => ?_) (fun q4 => ?_)
    · have hA5 : fX10_judge_a10 a t T0 s0 = fX10_judge_a2 s0 := by have q4z := q4; (try dsimp only at q4z); unfold fX10_judge_a10; (try dsimp only); rw [q4z, cond_false]; (try rfl)
      refine j_bipush (v := -101) C dX10_judge_23 (by decide +kernel) ?_
      exact j_iret (st := []) C R0 dX10_judge_25 ⟨(by rw [hA3, hA5]; unfold fX10_judge_a2; (try dsimp only); all_goals ((try simp only [zfst_mk, zsnd_mk]); all_goals rfl)), ((by rw [hA3, hA5]; unfold fX10_judge_a2; (try dsimp only); all_goals ((try simp only [zfst_mk, zsnd_mk]); all_goals rfl)))⟩
    · have hA6 : fX10_judge_a10 a t T0 s0 = fX10_judge_a9 a t T0 s0 := by have q4z := q4; (try dsimp only at q4z); unfold fX10_judge_a10; (try dsimp only); rw [q4z, cond_true]; (try rfl)
      have hc7 := msl_of (x := t) (by assumption)
      have hc7b := hc7.2
      refine j_at [(0, .ref (zad (wM D kc ad) 17)), (1, .int a), (2, .int (nI (t.toNatClampNeg)))] ⟨rfl, rfl, congrArg (fun q => some (Value.int q)) hc7.1, trivial⟩ ?_
      refine j_iload_n C dX10_judge_14 rfl rfl ?_
      refine j_iconst (v := nI 1) C dX10_judge_15 (by decide +kernel) ?_
      refine j_iaddN C dX10_judge_16 ?_
      refine j_callS1 C dX10_judge_17 (k_X10_isSlot l D kc ad (nI (t.toNatClampNeg + 1)) _ ) zy_X10_isSlot mw_15_3 rfl rfl (Nat.le_of_ble_eq_true rfl) ⟨rfl, rfl, Nat.le_of_ble_eq_true rfl, Nat.le_of_ble_eq_true rfl⟩ ?_
      refine j_if_neB (tgt := 26) C dX10_judge_20 (by decide) (fun q8 => ?_) (fun q8 => ?_)
      · have hA9 : fX10_judge_a9 a t T0 s0 = fX10_judge_a7 a t T0 s0 := by have q8z := q8; (try dsimp only at q8z); unfold fX10_judge_a9; (try dsimp only); rw [q8z, cond_true]; (try rfl)
        have hc10 := msl_of (x := a) (by assumption)
        have hc10b := hc10.2
        refine j_at [(0, .ref (zad (wM D kc ad) 17)), (1, .int (nI (a.toNatClampNeg))), (2, .int (nI (t.toNatClampNeg)))] ⟨rfl, congrArg (fun q => some (Value.int q)) hc10.1, rfl, trivial⟩ ?_
        have h24 : t.toNatClampNeg + 1 < 24 := msl_N (by omega) (by assumption)
        refine j_aload_n C dX10_judge_26 rfl rfl ?_
        refine j_getI C dX10_judge_27 (fx_RX10_17 D kc ad) (Nat.zero_le _) (show 17 < 18 by decide) ?_
        refine j_iconst (v := nI 2) C dX10_judge_30 (by decide +kernel) ?_
        refine j_icmp_ge (tgt := 37) C dX10_judge_31 (by decide) (fun q11 => ?_) (fun q11 => ?_)
        · have hA12 : fX10_judge_a7 a t T0 s0 = fX10_judge_a5 a t T0 s0 := by have q11z := q11; (try dsimp only at q11z); unfold fX10_judge_a7; (try dsimp only); rw [if_pos q11z]; (try rfl)
          refine j_aload_n C dX10_judge_37 rfl rfl ?_
          refine j_dup C dX10_judge_38 rfl ?_
          refine j_getI C dX10_judge_39 (fx_RX10_17 D kc ad) (Nat.zero_le _) (show 17 < 18 by decide) ?_
          refine j_iconst (v := nI 2) C dX10_judge_42 (by decide +kernel) ?_
          refine j_isub C dX10_judge_43 ?_
          refine j_putI C dX10_judge_44 (pfx_RX10_17 D kc ad) (om_1 D kc ad) (Nat.zero_le _) (show 17 < 18 by decide) ?_
          refine j_nmS (fun t13 et13 => ?_)
          refine j_aload_n C dX10_judge_47 rfl rfl ?_
          refine j_dup C dX10_judge_48 rfl ?_
          refine j_getI C dX10_judge_49 (fx_RX10_292 D kc ad) (Nat.zero_le _) (show 17 < 18 by decide) ?_
          refine j_iconst (v := nI 1) C dX10_judge_52 (by decide +kernel) ?_
          refine j_iadd C dX10_judge_53 ?_
          refine j_putI C dX10_judge_54 (pfx_RX10_292 D kc ad) (om_3 D kc ad) (Nat.zero_le _) (show 17 < 18 by decide) ?_
          refine j_nmS (fun t14 et14 => ?_)
          refine j_aload_n C dX10_judge_57 rfl rfl ?_
          refine j_iload_n C dX10_judge_58 rfl rfl ?_
          refine j_iload_n C dX10_judge_59 rfl rfl ?_
          refine j_callV1 (T := TX10) (N := 23) C dX10_judge_60 (k_X10_isRight l D kc ad a.toNatClampNeg (by omega) t.toNatClampNeg (by omega) T0 _ (by (try rw [et14]); (try rw [et13]); simp (maxDischargeDepth := 12) only [tw_len, tx_len, dg_len, tw_0, tx_0, dg_0, hms, htx, zI10, zI30, zI15, zI35, op_len, op_0]) (by (try rw [et14]); (try rw [et13]); simp (maxDischargeDepth := 12) only [tw_len, tx_len, dg_len, tw_0, tx_0, dg_0, hms, htx, zI10, zI30, zI15, zI35, op_len, op_0]) hT0) zy_X10_isRight mw_40_11 rfl rfl (Nat.zero_le _) (show 17 < 18 by decide) rfl rfl (Nat.le_of_ble_eq_true rfl) ⟨rfl, rfl, Nat.le_of_ble_eq_true rfl, Nat.le_of_ble_eq_true rfl⟩ ?_
          refine j_nmS (fun t15 et15 => ?_)
          refine j_if_neB (tgt := 68) C dX10_judge_63 (by decide) (fun q16 => ?_) (fun q16 => ?_)
          · have hA17 : fX10_judge_a5 a t T0 s0 = fX10_judge_a3 t15 := by (try rw [et15]); (try rw [et14]); (try rw [et13]); have q16z := q16; (try rw [et15] at q16z); (try rw [et14] at q16z); (try rw [et13] at q16z); (try dsimp only at q16z); unfold fX10_judge_a5; (try dsimp only); rw [q16z, cond_true]; (try rfl)
            refine j_aload_n C dX10_judge_68 rfl rfl ?_
            refine j_dup C dX10_judge_69 rfl ?_
            refine j_getI C dX10_judge_70 (fx_RX10_298 D kc ad) (Nat.zero_le _) (show 17 < 18 by decide) ?_
            refine j_iconst (v := nI 1) C dX10_judge_73 (by decide +kernel) ?_
            refine j_iadd C dX10_judge_74 ?_
            refine j_putI C dX10_judge_75 (pfx_RX10_298 D kc ad) (om_4 D kc ad) (Nat.zero_le _) (show 17 < 18 by decide) ?_
            refine j_nmS (fun t18 et18 => ?_)
            refine j_iconst (v := nI 1) C dX10_judge_78 (by decide +kernel) ?_
            exact j_iret (st := []) C R0 dX10_judge_79 ⟨(by rw [hA3, hA6, hA9, hA12, hA17]; (try rw [et18]); unfold fX10_judge_a3; (try dsimp only); all_goals ((try simp only [zfst_mk, zsnd_mk]); all_goals rfl)), ((by rw [hA3, hA6, hA9, hA12, hA17]; (try rw [et18]); unfold fX10_judge_a3; (try dsimp only); all_goals ((try simp only [zfst_mk, zsnd_mk]); all_goals rfl)))⟩
          · have hA19 : fX10_judge_a5 a t T0 s0 = fX10_judge_a4 t15 := by (try rw [et15]); (try rw [et14]); (try rw [et13]); have q16z := q16; (try rw [et15] at q16z); (try rw [et14] at q16z); (try rw [et13] at q16z); (try dsimp only at q16z); unfold fX10_judge_a5; (try dsimp only); rw [q16z, cond_false]; (try rfl)
            refine j_iconst (v := nI 0) C dX10_judge_66 (by decide +kernel) ?_
            exact j_iret (st := []) C R0 dX10_judge_67 ⟨(by rw [hA3, hA6, hA9, hA12, hA19]; unfold fX10_judge_a4; (try dsimp only); all_goals ((try simp only [zfst_mk, zsnd_mk]); all_goals rfl)), ((by rw [hA3, hA6, hA9, hA12, hA19]; unfold fX10_judge_a4; (try dsimp only); all_goals ((try simp only [zfst_mk, zsnd_mk]); all_goals rfl)))⟩
        · have hA20 : fX10_judge_a7 a t T0 s0 = fX10_judge_a6 s0 := by have q11z := q11; (try dsimp only at q11z); unfold fX10_judge_a7; (try dsimp only); rw [if_neg q11z]; (try rfl)
          refine j_bipush (v := -103) C dX10_judge_34 (by decide +kernel) ?_
          exact j_iret (st := []) C R0 dX10_judge_36 ⟨(by rw [hA3, hA6, hA9, hA20]; unfold fX10_judge_a6; (try dsimp only); all_goals ((try simp only [zfst_mk, zsnd_mk]); all_goals rfl)), ((by rw [hA3, hA6, hA9, hA20]; unfold fX10_judge_a6; (try dsimp only); all_goals ((try simp only [zfst_mk, zsnd_mk]); all_goals rfl)))⟩
      · have hA21 : fX10_judge_a9 a t T0 s0 = fX10_judge_a8 s0 := by have q8z := q8; (try dsimp only at q8z); unfold fX10_judge_a9; (try dsimp only); rw [q8z, cond_false]; (try rfl)
        refine j_bipush (v := -101) C dX10_judge_23 (by decide +kernel) ?_
        exact j_iret (st := []) C R0 dX10_judge_25 ⟨(by rw [hA3, hA6, hA21]; unfold fX10_judge_a8; (try dsimp only); all_goals ((try simp only [zfst_mk, zsnd_mk]); all_goals rfl)), ((by rw [hA3, hA6, hA21]; unfold fX10_judge_a8; (try dsimp only); all_goals ((try simp only [zfst_mk, zsnd_mk]); all_goals rfl)))⟩

def fX10_sign_a1 (s0 : zSt) : Int32 × zSt :=
    ((-101 : Int32), s0)
def fX10_sign_a2 (s0 : zSt) : Int32 × zSt :=
    ((-101 : Int32), s0)
def fX10_sign_a3 (a : Int32) (t : Int32) (T0 : Nat) (s0 : zSt) : Int32 × zSt :=
    let t13 := zI s0 1 ((s0.2.2 1) - (nI (2)))
    let t14 := fX10_open_ a.toNatClampNeg t13
    let t15 := fX10_tellWords 48 0 t14
    let t16 := fX10_tellText 32 T0 t15
    let t17 := fX10_digests (32 + T0) t16
    let t18 := fX10_digestScalar 40 t17
    let t19 := fX10_many 18 5 40 t18
    let t20 := fX10_bytes 44 18 t19
    let t21 := fX10_tellWords 44 0 t20
    let t22 := fX10_tellWords 28 32 t21
    let t23 := fX10_tellText 64 T0 t22
    let t24 := fX10_digests (64 + T0) t23
    let t25 := fX10_digestScalar 8 t24
    let t26 := fX10_scalarOf 12 8 20 40 t25
    let t27 := fX10_toSlot t.toNatClampNeg 44 t26
    let t28 := fX10_toSlot (t.toNatClampNeg + 1) 12 t27
    let t29 := zI t28 2 ((t28.2.2 2) + (nI (1)))
    (nI (1), t29)
def fX10_sign_a4 (s0 : zSt) : Int32 × zSt :=
    ((-103 : Int32), s0)
def fX10_sign_a5 (a : Int32) (t : Int32) (T0 : Nat) (s0 : zSt) : Int32 × zSt :=
    if nI (2) ≤ s0.2.2 1 then
      fX10_sign_a3 a t T0 s0
    else
      fX10_sign_a4 s0
def fX10_sign_a6 (s0 : zSt) : Int32 × zSt :=
    ((-101 : Int32), s0)
def fX10_sign_a7 (a : Int32) (t : Int32) (T0 : Nat) (s0 : zSt) : Int32 × zSt :=
    bif (vX10_isSlot (nI (t.toNatClampNeg + 1)) s0) then
      fX10_sign_a5 a t T0 s0
    else
      fX10_sign_a6 s0
def fX10_sign_a8 (a : Int32) (t : Int32) (T0 : Nat) (s0 : zSt) : Int32 × zSt :=
    bif (vX10_isSlot t s0) then
      fX10_sign_a7 a t T0 s0
    else
      fX10_sign_a2 s0
def fX10_sign (a : Int32) (t : Int32) (T0 : Nat) (s0 : zSt) : Int32 × zSt :=
    bif (vX10_isSlot a s0) then
      fX10_sign_a8 a t T0 s0
    else
      fX10_sign_a1 s0
set_option maxHeartbeats 4000000 in
set_option maxRecDepth 100000 in
theorem k_X10_sign (l : Launch) (D : va_G) (kc : Nat → ClassId) (ad : Nat → Nat) (a : Int32) (t : Int32) (T0 : Nat) (s0 : zSt) (hms : s0.2.2 5 = nI 0) (htx : s0.2.2 0 = nI T0) (hT0 : T0 ≤ 400) : zM l yX10_sign cX10_sign 3 (some .int) rX10_sign (wM D kc ad) [.ref (zad (wM D kc ad) 17), .int a, .int t] s0 (zV1 (.int (zfst (fX10_sign a t T0 s0))) (zsnd (fX10_sign a t T0 s0))) := by
  refine z_of (own := RX10) (by decide +kernel) rfl (Nat.le_of_ble_eq_true rfl) ?_
  intro κ C R0
  refine j_at [(0, .ref (zad (wM D kc ad) 17)), (1, .int a), (2, .int t)] ⟨rfl, rfl, rfl, trivial⟩ ?_
  refine j_iload_n C dX10_sign_0 rfl rfl ?_
  refine j_callS1 C dX10_sign_1 (k_X10_isSlot l D kc ad (a) _ ) zy_X10_isSlot mw_15_3 rfl rfl (Nat.le_of_ble_eq_true rfl) ⟨rfl, rfl, Nat.le_of_ble_eq_true rfl, Nat.le_of_ble_eq_true rfl⟩ ?_
  refine j_if_eqB (tgt := 23) C dX10_sign_4 (by decide) (fun q1 => ?_) (fun q1 => ?_)
  · have hA2 : fX10_sign a t T0 s0 = fX10_sign_a1 s0 := by have q1z := q1; (try dsimp only at q1z); unfold fX10_sign; (try dsimp only); rw [q1z, cond_false]; (try rfl)
    refine j_bipush (v := -101) C dX10_sign_23 (by decide +kernel) ?_
    exact j_iret (st := []) C R0 dX10_sign_25 ⟨(by rw [hA2]; unfold fX10_sign_a1; (try dsimp only); all_goals ((try simp only [zfst_mk, zsnd_mk]); all_goals rfl)), ((by rw [hA2]; unfold fX10_sign_a1; (try dsimp only); all_goals ((try simp only [zfst_mk, zsnd_mk]); all_goals rfl)))⟩
  · have hA3 : fX10_sign a t T0 s0 = fX10_sign_a8 a t T0 s0 := by have q1z := q1; (try dsimp only at q1z); unfold fX10_sign; (try dsimp only); rw [q1z, cond_true]; (try rfl)
    refine j_iload_n C dX10_sign_7 rfl rfl ?_
    refine j_callS1 C dX10_sign_8 (k_X10_isSlot l D kc ad (t) _ ) zy_X10_isSlot mw_15_3 rfl rfl (Nat.le_of_ble_eq_true rfl) ⟨rfl, rfl, Nat.le_of_ble_eq_true rfl, Nat.le_of_ble_eq_true rfl⟩ ?_
    refine j_if_eqB (tgt := 23) C dX10_sign_11 (by decide) (fun q4 => ?_) (fun q4 => ?_)
    · have hA5 : fX10_sign_a8 a t T0 s0 = fX10_sign_a2 s0 := by have q4z := q4; (try dsimp only at q4z); unfold fX10_sign_a8; (try dsimp only); rw [q4z, cond_false]; (try rfl)
      refine j_bipush (v := -101) C dX10_sign_23 (by decide +kernel) ?_
      exact j_iret (st := []) C R0 dX10_sign_25 ⟨(by rw [hA3, hA5]; unfold fX10_sign_a2; (try dsimp only); all_goals ((try simp only [zfst_mk, zsnd_mk]); all_goals rfl)), ((by rw [hA3, hA5]; unfold fX10_sign_a2; (try dsimp only); all_goals ((try simp only [zfst_mk, zsnd_mk]); all_goals rfl)))⟩
    · have hA6 : fX10_sign_a8 a t T0 s0 = fX10_sign_a7 a t T0 s0 := by have q4z := q4; (try dsimp only at q4z); unfold fX10_sign_a8; (try dsimp only); rw [q4z, cond_true]; (try rfl)
      have hc7 := msl_of (x := t) (by assumption)
      have hc7b := hc7.2
      refine j_at [(0, .ref (zad (wM D kc ad) 17)), (1, .int a), (2, .int (nI (t.toNatClampNeg)))] ⟨rfl, rfl, congrArg (fun q => some (Value.int q)) hc7.1, trivial⟩ ?_
      refine j_iload_n C dX10_sign_14 rfl rfl ?_
      refine j_iconst (v := nI 1) C dX10_sign_15 (by decide +kernel) ?_
      refine j_iaddN C dX10_sign_16 ?_
      refine j_callS1 C dX10_sign_17 (k_X10_isSlot l D kc ad (nI (t.toNatClampNeg + 1)) _ ) zy_X10_isSlot mw_15_3 rfl rfl (Nat.le_of_ble_eq_true rfl) ⟨rfl, rfl, Nat.le_of_ble_eq_true rfl, Nat.le_of_ble_eq_true rfl⟩ ?_
      refine j_if_neB (tgt := 26) C dX10_sign_20 (by decide) (fun q8 => ?_) (fun q8 => ?_)
      · have hA9 : fX10_sign_a7 a t T0 s0 = fX10_sign_a5 a t T0 s0 := by have q8z := q8; (try dsimp only at q8z); unfold fX10_sign_a7; (try dsimp only); rw [q8z, cond_true]; (try rfl)
        have hc10 := msl_of (x := a) (by assumption)
        have hc10b := hc10.2
        refine j_at [(0, .ref (zad (wM D kc ad) 17)), (1, .int (nI (a.toNatClampNeg))), (2, .int (nI (t.toNatClampNeg)))] ⟨rfl, congrArg (fun q => some (Value.int q)) hc10.1, rfl, trivial⟩ ?_
        have h24 : t.toNatClampNeg + 1 < 24 := msl_N (by omega) (by assumption)
        refine j_aload_n C dX10_sign_26 rfl rfl ?_
        refine j_getI C dX10_sign_27 (fx_RX10_17 D kc ad) (Nat.zero_le _) (show 17 < 18 by decide) ?_
        refine j_iconst (v := nI 2) C dX10_sign_30 (by decide +kernel) ?_
        refine j_icmp_ge (tgt := 37) C dX10_sign_31 (by decide) (fun q11 => ?_) (fun q11 => ?_)
        · have hA12 : fX10_sign_a5 a t T0 s0 = fX10_sign_a3 a t T0 s0 := by have q11z := q11; (try dsimp only at q11z); unfold fX10_sign_a5; (try dsimp only); rw [if_pos q11z]; (try rfl)
          refine j_aload_n C dX10_sign_37 rfl rfl ?_
          refine j_dup C dX10_sign_38 rfl ?_
          refine j_getI C dX10_sign_39 (fx_RX10_17 D kc ad) (Nat.zero_le _) (show 17 < 18 by decide) ?_
          refine j_iconst (v := nI 2) C dX10_sign_42 (by decide +kernel) ?_
          refine j_isub C dX10_sign_43 ?_
          refine j_putI C dX10_sign_44 (pfx_RX10_17 D kc ad) (om_1 D kc ad) (Nat.zero_le _) (show 17 < 18 by decide) ?_
          refine j_nmS (fun t13 et13 => ?_)
          refine j_aload_n C dX10_sign_47 rfl rfl ?_
          refine j_iload_n C dX10_sign_48 rfl rfl ?_
          refine j_callV0 (T := TX10) (N := 23) C dX10_sign_49 (k_X10_open_ l D kc ad a.toNatClampNeg (by omega) _ (by (try rw [et13]); simp (maxDischargeDepth := 12) only [i2_fX10_toSlot, i2_fX10_many, i2_fX10_bytes, i2_fX10_scalarOf, i2_fX10_digestScalar, tw_len, tx_len, dg_len, tw_0, tx_0, dg_0, hms, htx, zI10, zI30, zI15, zI35, op_len, op_0])) zy_X10_open_ mw_38_7 rfl rfl (Nat.zero_le _) (show 17 < 18 by decide) rfl rfl (Nat.le_of_ble_eq_true rfl) ⟨rfl, rfl, Nat.le_of_ble_eq_true rfl, Nat.le_of_ble_eq_true rfl⟩ ?_
          refine j_nmS (fun t14 et14 => ?_)
          refine j_aload_n C dX10_sign_52 rfl rfl ?_
          refine j_bipush (v := nI 48) C dX10_sign_53 (by decide +kernel) ?_
          refine j_callV0 (T := TX10) (N := 23) C dX10_sign_55 (k_X10_tellWords l D kc ad 48 (by omega) 0 _ (by (try rw [et14]); (try rw [et13]); simp (maxDischargeDepth := 12) only [i2_fX10_toSlot, i2_fX10_many, i2_fX10_bytes, i2_fX10_scalarOf, i2_fX10_digestScalar, tw_len, tx_len, dg_len, tw_0, tx_0, dg_0, hms, htx, zI10, zI30, zI15, zI35, op_len, op_0]) (by omega)) zy_X10_tellWords mw_38_11 rfl rfl (Nat.zero_le _) (show 17 < 18 by decide) rfl rfl (Nat.le_of_ble_eq_true rfl) ⟨rfl, rfl, Nat.le_of_ble_eq_true rfl, Nat.le_of_ble_eq_true rfl⟩ ?_
          refine j_nmS (fun t15 et15 => ?_)
          refine j_aload_n C dX10_sign_58 rfl rfl ?_
          refine j_callV0 (T := TX10) (N := 23) C dX10_sign_59 (k_X10_tellText l D kc ad 32 T0 _ (by (try rw [et15]); (try rw [et14]); (try rw [et13]); simp (maxDischargeDepth := 12) only [i2_fX10_toSlot, i2_fX10_many, i2_fX10_bytes, i2_fX10_scalarOf, i2_fX10_digestScalar, tw_len, tx_len, dg_len, tw_0, tx_0, dg_0, hms, htx, zI10, zI30, zI15, zI35, op_len, op_0]) (by (try rw [et15]); (try rw [et14]); (try rw [et13]); simp (maxDischargeDepth := 12) only [i2_fX10_toSlot, i2_fX10_many, i2_fX10_bytes, i2_fX10_scalarOf, i2_fX10_digestScalar, tw_len, tx_len, dg_len, tw_0, tx_0, dg_0, hms, htx, zI10, zI30, zI15, zI35, op_len, op_0]) (by omega) (by omega)) zy_X10_tellText mw_36_4 rfl rfl (Nat.zero_le _) (show 17 < 18 by decide) rfl rfl (Nat.le_of_ble_eq_true rfl) ⟨rfl, rfl, Nat.le_of_ble_eq_true rfl, Nat.le_of_ble_eq_true rfl⟩ ?_
          refine j_nmS (fun t16 et16 => ?_)
          refine j_aload_n C dX10_sign_62 rfl rfl ?_
          refine j_callV0 (T := TX10) (N := 23) C dX10_sign_63 (k_X10_digests l D kc ad (32 + T0) _ (by (try rw [et16]); (try rw [et15]); (try rw [et14]); (try rw [et13]); simp (maxDischargeDepth := 12) only [i2_fX10_toSlot, i2_fX10_many, i2_fX10_bytes, i2_fX10_scalarOf, i2_fX10_digestScalar, tw_len, tx_len, dg_len, tw_0, tx_0, dg_0, hms, htx, zI10, zI30, zI15, zI35, op_len, op_0]) (by omega)) zy_X10_digests mw_36_13 rfl rfl (Nat.zero_le _) (show 17 < 18 by decide) rfl rfl (Nat.le_of_ble_eq_true rfl) ⟨rfl, rfl, Nat.le_of_ble_eq_true rfl, Nat.le_of_ble_eq_true rfl⟩ ?_
          refine j_nmS (fun t17 et17 => ?_)
          refine j_aload_n C dX10_sign_66 rfl rfl ?_
          refine j_bipush (v := nI 40) C dX10_sign_67 (by decide +kernel) ?_
          refine j_callV0 (T := TX10) (N := 23) C dX10_sign_69 (k_X10_digestScalar l D kc ad 40 (by omega) _ ) zy_X10_digestScalar mw_39_11 rfl rfl (Nat.zero_le _) (show 17 < 18 by decide) rfl rfl (Nat.le_of_ble_eq_true rfl) ⟨rfl, rfl, Nat.le_of_ble_eq_true rfl, Nat.le_of_ble_eq_true rfl⟩ ?_
          refine j_nmS (fun t18 et18 => ?_)
          refine j_aload_n C dX10_sign_72 rfl rfl ?_
          refine j_bipush (v := nI 18) C dX10_sign_73 (by decide +kernel) ?_
          refine j_iconst (v := nI 5) C dX10_sign_75 (by decide +kernel) ?_
          refine j_bipush (v := nI 40) C dX10_sign_76 (by decide +kernel) ?_
          refine j_callV0 (T := TX10) (N := 23) C dX10_sign_78 (k_X10_many l D kc ad 18 (by omega) 5 (by omega) 40 (by omega) _ ) zy_X10_many mw_30_2 rfl rfl (Nat.zero_le _) (show 17 < 18 by decide) rfl rfl (Nat.le_of_ble_eq_true rfl) ⟨rfl, rfl, Nat.le_of_ble_eq_true rfl, Nat.le_of_ble_eq_true rfl⟩ ?_
          refine j_nmS (fun t19 et19 => ?_)
          refine j_aload_n C dX10_sign_81 rfl rfl ?_
          refine j_bipush (v := nI 44) C dX10_sign_82 (by decide +kernel) ?_
          refine j_bipush (v := nI 18) C dX10_sign_84 (by decide +kernel) ?_
          refine j_callV0 (T := TX10) (N := 23) C dX10_sign_86 (k_X10_bytes l D kc ad 44 (by omega) 18 (by omega) _ ) zy_X10_bytes mw_29_0 rfl rfl (Nat.zero_le _) (show 17 < 18 by decide) rfl rfl (Nat.le_of_ble_eq_true rfl) ⟨rfl, rfl, Nat.le_of_ble_eq_true rfl, Nat.le_of_ble_eq_true rfl⟩ ?_
          refine j_nmS (fun t20 et20 => ?_)
          refine j_aload_n C dX10_sign_89 rfl rfl ?_
          refine j_bipush (v := nI 44) C dX10_sign_90 (by decide +kernel) ?_
          refine j_callV0 (T := TX10) (N := 23) C dX10_sign_92 (k_X10_tellWords l D kc ad 44 (by omega) 0 _ (by (try rw [et20]); (try rw [et19]); (try rw [et18]); (try rw [et17]); (try rw [et16]); (try rw [et15]); (try rw [et14]); (try rw [et13]); simp (maxDischargeDepth := 12) only [i2_fX10_toSlot, i2_fX10_many, i2_fX10_bytes, i2_fX10_scalarOf, i2_fX10_digestScalar, tw_len, tx_len, dg_len, tw_0, tx_0, dg_0, hms, htx, zI10, zI30, zI15, zI35, op_len, op_0]) (by omega)) zy_X10_tellWords mw_38_11 rfl rfl (Nat.zero_le _) (show 17 < 18 by decide) rfl rfl (Nat.le_of_ble_eq_true rfl) ⟨rfl, rfl, Nat.le_of_ble_eq_true rfl, Nat.le_of_ble_eq_true rfl⟩ ?_
          refine j_nmS (fun t21 et21 => ?_)
          refine j_aload_n C dX10_sign_95 rfl rfl ?_
          refine j_bipush (v := nI 28) C dX10_sign_96 (by decide +kernel) ?_
          refine j_callV0 (T := TX10) (N := 23) C dX10_sign_98 (k_X10_tellWords l D kc ad 28 (by omega) 32 _ (by (try rw [et21]); (try rw [et20]); (try rw [et19]); (try rw [et18]); (try rw [et17]); (try rw [et16]); (try rw [et15]); (try rw [et14]); (try rw [et13]); simp (maxDischargeDepth := 12) only [i2_fX10_toSlot, i2_fX10_many, i2_fX10_bytes, i2_fX10_scalarOf, i2_fX10_digestScalar, tw_len, tx_len, dg_len, tw_0, tx_0, dg_0, hms, htx, zI10, zI30, zI15, zI35, op_len, op_0]) (by omega)) zy_X10_tellWords mw_38_11 rfl rfl (Nat.zero_le _) (show 17 < 18 by decide) rfl rfl (Nat.le_of_ble_eq_true rfl) ⟨rfl, rfl, Nat.le_of_ble_eq_true rfl, Nat.le_of_ble_eq_true rfl⟩ ?_
          refine j_nmS (fun t22 et22 => ?_)
          refine j_aload_n C dX10_sign_101 rfl rfl ?_
          refine j_callV0 (T := TX10) (N := 23) C dX10_sign_102 (k_X10_tellText l D kc ad 64 T0 _ (by (try rw [et22]); (try rw [et21]); (try rw [et20]); (try rw [et19]); (try rw [et18]); (try rw [et17]); (try rw [et16]); (try rw [et15]); (try rw [et14]); (try rw [et13]); simp (maxDischargeDepth := 12) only [i2_fX10_toSlot, i2_fX10_many, i2_fX10_bytes, i2_fX10_scalarOf, i2_fX10_digestScalar, tw_len, tx_len, dg_len, tw_0, tx_0, dg_0, hms, htx, zI10, zI30, zI15, zI35, op_len, op_0]) (by (try rw [et22]); (try rw [et21]); (try rw [et20]); (try rw [et19]); (try rw [et18]); (try rw [et17]); (try rw [et16]); (try rw [et15]); (try rw [et14]); (try rw [et13]); simp (maxDischargeDepth := 12) only [i2_fX10_toSlot, i2_fX10_many, i2_fX10_bytes, i2_fX10_scalarOf, i2_fX10_digestScalar, tw_len, tx_len, dg_len, tw_0, tx_0, dg_0, hms, htx, zI10, zI30, zI15, zI35, op_len, op_0]) (by omega) (by omega)) zy_X10_tellText mw_36_4 rfl rfl (Nat.zero_le _) (show 17 < 18 by decide) rfl rfl (Nat.le_of_ble_eq_true rfl) ⟨rfl, rfl, Nat.le_of_ble_eq_true rfl, Nat.le_of_ble_eq_true rfl⟩ ?_
          refine j_nmS (fun t23 et23 => ?_)
          refine j_aload_n C dX10_sign_105 rfl rfl ?_
          refine j_callV0 (T := TX10) (N := 23) C dX10_sign_106 (k_X10_digests l D kc ad (64 + T0) _ (by (try rw [et23]); (try rw [et22]); (try rw [et21]); (try rw [et20]); (try rw [et19]); (try rw [et18]); (try rw [et17]); (try rw [et16]); (try rw [et15]); (try rw [et14]); (try rw [et13]); simp (maxDischargeDepth := 12) only [i2_fX10_toSlot, i2_fX10_many, i2_fX10_bytes, i2_fX10_scalarOf, i2_fX10_digestScalar, tw_len, tx_len, dg_len, tw_0, tx_0, dg_0, hms, htx, zI10, zI30, zI15, zI35, op_len, op_0]) (by omega)) zy_X10_digests mw_36_13 rfl rfl (Nat.zero_le _) (show 17 < 18 by decide) rfl rfl (Nat.le_of_ble_eq_true rfl) ⟨rfl, rfl, Nat.le_of_ble_eq_true rfl, Nat.le_of_ble_eq_true rfl⟩ ?_
          refine j_nmS (fun t24 et24 => ?_)
          refine j_aload_n C dX10_sign_109 rfl rfl ?_
          refine j_bipush (v := nI 8) C dX10_sign_110 (by decide +kernel) ?_
          refine j_callV0 (T := TX10) (N := 23) C dX10_sign_112 (k_X10_digestScalar l D kc ad 8 (by omega) _ ) zy_X10_digestScalar mw_39_11 rfl rfl (Nat.zero_le _) (show 17 < 18 by decide) rfl rfl (Nat.le_of_ble_eq_true rfl) ⟨rfl, rfl, Nat.le_of_ble_eq_true rfl, Nat.le_of_ble_eq_true rfl⟩ ?_
          refine j_nmS (fun t25 et25 => ?_)
          refine j_aload_n C dX10_sign_115 rfl rfl ?_
          refine j_bipush (v := nI 12) C dX10_sign_116 (by decide +kernel) ?_
          refine j_bipush (v := nI 8) C dX10_sign_118 (by decide +kernel) ?_
          refine j_bipush (v := nI 20) C dX10_sign_120 (by decide +kernel) ?_
          refine j_bipush (v := nI 40) C dX10_sign_122 (by decide +kernel) ?_
          refine j_callV0 (T := TX10) (N := 23) C dX10_sign_124 (k_X10_scalarOf l D kc ad 12 (by omega) 8 (by omega) 20 (by omega) 40 (by omega) _ ) zy_X10_scalarOf mw_25_10 rfl rfl (Nat.zero_le _) (show 17 < 18 by decide) rfl rfl (Nat.le_of_ble_eq_true rfl) ⟨rfl, rfl, Nat.le_of_ble_eq_true rfl, Nat.le_of_ble_eq_true rfl⟩ ?_
          refine j_nmS (fun t26 et26 => ?_)
          refine j_aload_n C dX10_sign_127 rfl rfl ?_
          refine j_iload_n C dX10_sign_128 rfl rfl ?_
          refine j_bipush (v := nI 44) C dX10_sign_129 (by decide +kernel) ?_
          refine j_callV0 (T := TX10) (N := 23) C dX10_sign_131 (k_X10_toSlot l D kc ad t.toNatClampNeg (by omega) 44 (by omega) _ ) zy_X10_toSlot mw_16_13 rfl rfl (Nat.zero_le _) (show 17 < 18 by decide) rfl rfl (Nat.le_of_ble_eq_true rfl) ⟨rfl, rfl, Nat.le_of_ble_eq_true rfl, Nat.le_of_ble_eq_true rfl⟩ ?_
          refine j_nmS (fun t27 et27 => ?_)
          refine j_aload_n C dX10_sign_134 rfl rfl ?_
          refine j_iload_n C dX10_sign_135 rfl rfl ?_
          refine j_iconst (v := nI 1) C dX10_sign_136 (by decide +kernel) ?_
          refine j_iaddN C dX10_sign_137 ?_
          refine j_bipush (v := nI 12) C dX10_sign_138 (by decide +kernel) ?_
          refine j_callV0 (T := TX10) (N := 23) C dX10_sign_140 (k_X10_toSlot l D kc ad (t.toNatClampNeg + 1) (by omega) 12 (by omega) _ ) zy_X10_toSlot mw_16_13 rfl rfl (Nat.zero_le _) (show 17 < 18 by decide) rfl rfl (Nat.le_of_ble_eq_true rfl) ⟨rfl, rfl, Nat.le_of_ble_eq_true rfl, Nat.le_of_ble_eq_true rfl⟩ ?_
          refine j_nmS (fun t28 et28 => ?_)
          refine j_aload_n C dX10_sign_143 rfl rfl ?_
          refine j_dup C dX10_sign_144 rfl ?_
          refine j_getI C dX10_sign_145 (fx_RX10_286 D kc ad) (Nat.zero_le _) (show 17 < 18 by decide) ?_
          refine j_iconst (v := nI 1) C dX10_sign_148 (by decide +kernel) ?_
          refine j_iadd C dX10_sign_149 ?_
          refine j_putI C dX10_sign_150 (pfx_RX10_286 D kc ad) (om_2 D kc ad) (Nat.zero_le _) (show 17 < 18 by decide) ?_
          refine j_nmS (fun t29 et29 => ?_)
          refine j_iconst (v := nI 1) C dX10_sign_153 (by decide +kernel) ?_
          exact j_iret (st := []) C R0 dX10_sign_154 ⟨(by rw [hA3, hA6, hA9, hA12]; (try rw [et29]); (try rw [et28]); (try rw [et27]); (try rw [et26]); (try rw [et25]); (try rw [et24]); (try rw [et23]); (try rw [et22]); (try rw [et21]); (try rw [et20]); (try rw [et19]); (try rw [et18]); (try rw [et17]); (try rw [et16]); (try rw [et15]); (try rw [et14]); (try rw [et13]); unfold fX10_sign_a3; (try dsimp only); all_goals ((try simp only [zfst_mk, zsnd_mk]); all_goals rfl)), ((by rw [hA3, hA6, hA9, hA12]; (try rw [et29]); (try rw [et28]); (try rw [et27]); (try rw [et26]); (try rw [et25]); (try rw [et24]); (try rw [et23]); (try rw [et22]); (try rw [et21]); (try rw [et20]); (try rw [et19]); (try rw [et18]); (try rw [et17]); (try rw [et16]); (try rw [et15]); (try rw [et14]); (try rw [et13]); unfold fX10_sign_a3; (try dsimp only); all_goals ((try simp only [zfst_mk, zsnd_mk]); all_goals rfl)))⟩
        · have hA30 : fX10_sign_a5 a t T0 s0 = fX10_sign_a4 s0 := by have q11z := q11; (try dsimp only at q11z); unfold fX10_sign_a5; (try dsimp only); rw [if_neg q11z]; (try rfl)
          refine j_bipush (v := -103) C dX10_sign_34 (by decide +kernel) ?_
          exact j_iret (st := []) C R0 dX10_sign_36 ⟨(by rw [hA3, hA6, hA9, hA30]; unfold fX10_sign_a4; (try dsimp only); all_goals ((try simp only [zfst_mk, zsnd_mk]); all_goals rfl)), ((by rw [hA3, hA6, hA9, hA30]; unfold fX10_sign_a4; (try dsimp only); all_goals ((try simp only [zfst_mk, zsnd_mk]); all_goals rfl)))⟩
      · have hA31 : fX10_sign_a7 a t T0 s0 = fX10_sign_a6 s0 := by have q8z := q8; (try dsimp only at q8z); unfold fX10_sign_a7; (try dsimp only); rw [q8z, cond_false]; (try rfl)
        refine j_bipush (v := -101) C dX10_sign_23 (by decide +kernel) ?_
        exact j_iret (st := []) C R0 dX10_sign_25 ⟨(by rw [hA3, hA6, hA31]; unfold fX10_sign_a6; (try dsimp only); all_goals ((try simp only [zfst_mk, zsnd_mk]); all_goals rfl)), ((by rw [hA3, hA6, hA31]; unfold fX10_sign_a6; (try dsimp only); all_goals ((try simp only [zfst_mk, zsnd_mk]); all_goals rfl)))⟩
