def fX10_digestWords_14 (f : Nat) (i1 : Nat) (z2 : zSt) (i5 : Nat) (z6 : Int64) : Int64 :=
    let x8 := (zsl z6 8) ||| ((z2.2.1 14 ((f + (8 * i1)) + i5)).toInt64)
    x8
def fX10_digestWords_2 (p : Nat) (f : Nat) (i1 : Nat) (z2 : zSt) : zSt :=
    let x4 := (0 : Int64)
    let u11 := zdown (fX10_digestWords_14 f i1 z2) 8 x4
    let t13 := zW z2 4 (p + i1) u11
    t13
def fX10_digestWords (p : Nat) (f : Nat) (s0 : zSt) : zSt :=
    let u16 := ziter (fX10_digestWords_2 p f) 0 4 s0
    u16
set_option maxHeartbeats 4000000 in
set_option maxRecDepth 100000 in
theorem k_X10_digestWords (l : Launch) (D : va_G) (kc : Nat → ClassId) (ad : Nat → Nat) (p : Nat) (hp : p ≤ 60) (f : Nat) (hf : f ≤ 32) (s0 : zSt) : zM l yX10_digestWords cX10_digestWords 7 none rX10_digestWords (wM D kc ad) [.ref (zad (wM D kc ad) 17), .int (nI (p)), .int (nI (f))] s0 (zV0 (fX10_digestWords p f s0)) := by
  refine z_of (own := RX10) (by decide +kernel) rfl (Nat.le_of_ble_eq_true rfl) ?_
  intro κ C R0
  refine j_at [(0, .ref (zad (wM D kc ad) 17)), (1, .int (nI (p))), (2, .int (nI (f)))] ⟨rfl, rfl, rfl, trivial⟩ ?_
  refine j_iconst (v := nI 0) C dX10_digestWords_0 (by decide +kernel) ?_
  refine j_istore_n C dX10_digestWords_1 rfl (by decide) ?_
  refine j_at [(0, .ref (zad (wM D kc ad) 17)), (1, .int (nI (p))), (2, .int (nI (f))), (3, .int (nI (0)))] ⟨rfl, rfl, rfl, rfl, trivial⟩ ?_
  refine z_up (α := zSt) (fun (i1 : Nat) (z2 : zSt) => zJ κ (wM D kc ad) 2 (zlof [(0, .ref (zad (wM D kc ad) 17)), (1, .int (nI (p))), (2, .int (nI (f))), (3, .int (nI (i1)))]) [] z2) (fX10_digestWords_2 p f) (fun _ _ => True) 4 ?_ (fun _ _ _ _ => trivial) 4 0 s0 (by omega) trivial ?_
  · intro i1 z2 hi1 hIi1 k0
    refine j_iload_n C dX10_digestWords_2 rfl rfl ?_
    refine j_iconst (v := nI 4) C dX10_digestWords_3 (by decide +kernel) ?_
    refine j_icmp_geN (tgt := 64) C dX10_digestWords_4 (by decide) (by omega) (by omega) (fun q3 => False.elim (by omega)) (fun q3 => ?_)
    refine j_lconst (v := 0) C dX10_digestWords_7 rfl ?_
    refine j_nmL (fun x4 ex4 => ?_)
    refine j_lstore C dX10_digestWords_8 (by decide) ?_
    refine j_bipush (v := nI 7) C dX10_digestWords_10 (by decide +kernel) ?_
    refine j_istore C dX10_digestWords_12 (by decide) ?_
    refine j_at [(0, .ref (zad (wM D kc ad) 17)), (1, .int (nI (p))), (2, .int (nI (f))), (3, .int (nI (i1))), (4, .long x4), (6, .int (dI 8))] ⟨rfl, rfl, rfl, rfl, rfl, congrArg (fun q => some (Value.int q)) (dI_succ _).symm, trivial⟩ ?_
    refine z_dn (α := Int64) (fun (i5 : Nat) (z6 : Int64) => zJ κ (wM D kc ad) 14 (zlof [(0, .ref (zad (wM D kc ad) 17)), (1, .int (nI (p))), (2, .int (nI (f))), (3, .int (nI (i1))), (4, .long z6), (6, .int (dI i5))]) [] z2) (fX10_digestWords_14 f i1 z2) (fun i5 z6 => i5 ≤ 8) ?_ (fun _ _ h => by omega) 8 x4 (Nat.le_refl _) ?_
    · intro i5 z6 hIi5 k0
      refine j_at [(0, .ref (zad (wM D kc ad) 17)), (1, .int (nI (p))), (2, .int (nI (f))), (3, .int (nI (i1))), (4, .long z6), (6, .int (nI (i5)))] ⟨rfl, rfl, rfl, rfl, rfl, congrArg (fun q => some (Value.int q)) (dI_succ _), trivial⟩ ?_
      refine j_iload C dX10_digestWords_14 rfl ?_
      refine j_if_lt (tgt := 48) C dX10_digestWords_16 (by decide) (fun q7 => False.elim (nI_pos (by omega) q7)) (fun q7 => ?_)
      refine j_lload C dX10_digestWords_19 rfl ?_
      refine j_bipush (v := nI 8) C dX10_digestWords_21 (by decide +kernel) ?_
      refine j_lshl C dX10_digestWords_23 (by omega) ?_
      refine j_aload_n C dX10_digestWords_24 rfl rfl ?_
      refine j_getR C dX10_digestWords_25 (fx_RX10_57 D kc ad) (Nat.zero_le _) (show 17 < 18 by decide) ?_
      refine j_iload_n C dX10_digestWords_28 rfl rfl ?_
      refine j_bipush (v := nI 8) C dX10_digestWords_29 (by decide +kernel) ?_
      refine j_iload_n C dX10_digestWords_31 rfl rfl ?_
      refine j_imulN C dX10_digestWords_32 ?_
      refine j_iaddN C dX10_digestWords_33 ?_
      refine j_iload C dX10_digestWords_34 rfl ?_
      refine j_iaddN C dX10_digestWords_36 ?_
      refine m_iald C dX10_digestWords_37 (⟨rfl, rfl, by decide, by decide⟩ : mi 64 14) (by omega) ?_
      refine j_i2l C dX10_digestWords_38 ?_
      refine j_lor C dX10_digestWords_39 ?_
      refine j_nmL (fun x8 ex8 => ?_)
      refine j_lstore C dX10_digestWords_40 (by decide) ?_
      refine j_iincD C dX10_digestWords_42 rfl (by decide) ?_
      refine j_goto (tgt := 14) C dX10_digestWords_45 (by decide) ?_
      refine j_at [(0, .ref (zad (wM D kc ad) 17)), (1, .int (nI (p))), (2, .int (nI (f))), (3, .int (nI (i1))), (4, .long x8), (6, .int (dI i5))] ⟨rfl, rfl, rfl, rfl, rfl, rfl, trivial⟩ ?_
      have eF : (fX10_digestWords_14 f i1 z2) i5 z6 = x8 := by (try rw [ex8]); unfold fX10_digestWords_14; first | done | (dsimp only; done) | rfl
      exact Eq.mp (congrArg (fun (z10 : Int64) => zJ κ (wM D kc ad) 14 (zlof [(0, .ref (zad (wM D kc ad) 17)), (1, .int (nI (p))), (2, .int (nI (f))), (3, .int (nI (i1))), (4, .long z10), (6, .int (dI i5))]) [] z2) eF) (k0 ((by omega)))
    · intro hIi5
      revert hIi5
      refine z_nm (P := fun (z6 : Int64) => (fun i5 z6 => i5 ≤ 8) 0 z6 → zJ κ (wM D kc ad) 14 (zlof [(0, .ref (zad (wM D kc ad) 17)), (1, .int (nI (p))), (2, .int (nI (f))), (3, .int (nI (i1))), (4, .long z6), (6, .int (dI 0))]) [] z2) (fun u11 eu11 => ?_)
      intro hIi5
      refine j_iload C dX10_digestWords_14 rfl ?_
      refine j_if_lt (tgt := 48) C dX10_digestWords_16 (by decide) (fun q12 => ?_) (fun q12 => False.elim (q12 dI_0))
      refine j_aload_n C dX10_digestWords_48 rfl rfl ?_
      refine j_getR C dX10_digestWords_49 (fx_RX10_27 D kc ad) (Nat.zero_le _) (show 17 < 18 by decide) ?_
      refine j_iload_n C dX10_digestWords_52 rfl rfl ?_
      refine j_iload_n C dX10_digestWords_53 rfl rfl ?_
      refine j_iaddN C dX10_digestWords_54 ?_
      refine j_lload C dX10_digestWords_55 rfl ?_
      refine m_last C dX10_digestWords_57 (⟨rfl, rfl, by decide, by decide⟩ : ma 64 4) (by omega) ?_
      refine j_nmS (fun t13 et13 => ?_)
      refine j_iincN (b := 1) C dX10_digestWords_58 rfl (by decide +kernel) (by decide) ?_
      refine j_goto (tgt := 2) C dX10_digestWords_61 (by decide) ?_
      refine j_nmS (fun t14 et14 => ?_)
      refine j_at [(0, .ref (zad (wM D kc ad) 17)), (1, .int (nI (p))), (2, .int (nI (f))), (3, .int (nI (i1 + 1)))] ⟨rfl, rfl, rfl, rfl, trivial⟩ ?_
      have eF : (fX10_digestWords_2 p f) i1 z2 = t14 := by rw [et14]; (try rw [et13]); (try rw [eu11]); (try rw [ex4]); unfold fX10_digestWords_2; first | done | (dsimp only; done) | rfl
      exact Eq.mp (congrArg (fun (z15 : zSt) => zJ κ (wM D kc ad) 2 (zlof [(0, .ref (zad (wM D kc ad) 17)), (1, .int (nI (p))), (2, .int (nI (f))), (3, .int (nI (i1 + 1)))]) [] z15) eF) (k0 trivial)
  · intro hIi1
    refine z_nm (P := fun (z2 : zSt) => zJ κ (wM D kc ad) 2 (zlof [(0, .ref (zad (wM D kc ad) 17)), (1, .int (nI (p))), (2, .int (nI (f))), (3, .int (nI (4)))]) [] z2) (fun u16 eu16 => ?_)
    refine j_iload_n C dX10_digestWords_2 rfl rfl ?_
    refine j_iconst (v := nI 4) C dX10_digestWords_3 (by decide +kernel) ?_
    refine j_icmp_geN (tgt := 64) C dX10_digestWords_4 (by decide) (by omega) (by omega) (fun q17 => ?_) (fun q17 => False.elim (by omega))
    exact j_vret (st := []) C R0 dX10_digestWords_64 ⟨rfl, (by (try rw [eu16]); unfold fX10_digestWords; (try dsimp only); all_goals ((try simp only [zfst_mk, zsnd_mk]); all_goals rfl))⟩
theorem k2_fX10_digestWords_2 (p : Nat) (f : Nat) (i1 : Nat) (z2 : zSt) : zk2 (fX10_digestWords_2 p f i1 z2) = zk2 z2 := by
  unfold fX10_digestWords_2
  (try dsimp only)
  all_goals (simp only [zW_2, zL_2]; done)
theorem k2it_fX10_digestWords_2 (p : Nat) (f : Nat) (nn ii : Nat) (xx : zSt) : zk2 (ziter (fX10_digestWords_2 p f) ii nn xx) = zk2 xx := ziter_keep (fun x => zk2 x) _ (k2_fX10_digestWords_2 p f) nn ii xx
theorem k2_fX10_digestWords (p : Nat) (f : Nat) (s0 : zSt) : zk2 (fX10_digestWords p f s0) = zk2 s0 := by
  unfold fX10_digestWords
  (try dsimp only)
  all_goals (simp only [zW_2, zL_2, k2_fX10_digestWords_2, k2it_fX10_digestWords_2]; done)
theorem i2_fX10_digestWords (p : Nat) (f : Nat) (s0 : zSt) (kk9 : Nat) : (fX10_digestWords p f s0).2.2 kk9 = s0.2.2 kk9 := z2_I (k2_fX10_digestWords p f s0) kk9
theorem i3_fX10_digestWords (p : Nat) (f : Nat) (s0 : zSt) (kk9 : Nat) : zi (fX10_digestWords p f s0) kk9 = zi s0 kk9 := zi_of (k2_fX10_digestWords p f s0) kk9

def vX10_limb (x : Int64) (k : Nat) (s0 : zSt) : Int64 :=
    (zus x (16 * k)) &&& ((65535 : Int64))
set_option maxHeartbeats 4000000 in
set_option maxRecDepth 100000 in
theorem k_X10_limb (l : Launch) (D : va_G) (kc : Nat → ClassId) (ad : Nat → Nat) (x : Int64) (k : Nat) (hk : k < 4) (s0 : zSt) : zM l yX10_limb cX10_limb 3 (some .long) rX10_limb (wM D kc ad) [.long x, .int (nI (k))] s0 (zV1 (.long (vX10_limb x k s0)) s0) := by
  refine z_of (own := RX10) (by decide +kernel) rfl (Nat.le_of_ble_eq_true rfl) ?_
  intro κ C R0
  refine j_at [(0, .long x), (2, .int (nI (k)))] ⟨rfl, rfl, trivial⟩ ?_
  refine j_lload_n C dX10_limb_0 rfl rfl ?_
  refine j_bipush (v := nI 16) C dX10_limb_1 (by decide +kernel) ?_
  refine j_iload_n C dX10_limb_3 rfl rfl ?_
  refine j_imulN C dX10_limb_4 ?_
  refine j_lushr C dX10_limb_5 (by omega) ?_
  refine j_ldc2 C dX10_limb_6 mw_10_19 ?_
  refine j_land C dX10_limb_9 ?_
  exact j_lret (st := []) C R0 dX10_limb_10 ⟨(by unfold vX10_limb; (try dsimp only); all_goals ((try simp only [zfst_mk, zsnd_mk]); all_goals rfl)), ((by rfl))⟩

def fX10_lessOrder_23_b (s0 : zSt) (i3 : Nat) (z4 : Nat × Nat) : Nat × Nat :=
    let x7 := vX10_limb (s0.1 4 (32 + (i3 / 4))) (i3 % 4) s0
    let x9 := if lg_cmp (s0.1 16 i3) x7 = 0 then 0 else 1
    let x11 := if lg_cmp (s0.1 16 i3) x7 < 0 then 0 else 1
    (x11, x9)
def fX10_lessOrder_23 (s0 : zSt) (i3 : Nat) (z4 : Nat × Nat) : Nat × Nat :=
    if ¬ nI (z4.2) = 0 then z4 else fX10_lessOrder_23_b s0 i3 z4
def fX10_lessOrder_a1 (s0 : zSt) : zSt :=
    s0
def fX10_lessOrder_a2 (i23 : Nat) (z24 : zSt × Int64) : zSt × Int64 :=
    let t28 := zW z24.1 16 i23 ((z24.1.1 16 i23) + (z24.2 - ((0 : Int64))))
    let x29 := zsr (t28.1 16 i23) 16
    let t30 := zW t28 16 i23 ((t28.1 16 i23) &&& ((65535 : Int64)))
    (t30, x29)
def fX10_lessOrder_a3 (i23 : Nat) (z24 : zSt × Int64) : zSt × Int64 :=
    let t34 := zW z24.1 16 i23 ((z24.1.1 16 i23) + (z24.2 - (vX10_limb (z24.1.1 4 (32 + (i23 / 4))) (i23 % 4) z24.1)))
    let x35 := zsr (t34.1 16 i23) 16
    let t36 := zW t34 16 i23 ((t34.1 16 i23) &&& ((65535 : Int64)))
    (t36, x35)
def fX10_lessOrder_101  (i23 : Nat) (z24 : zSt × Int64) : zSt × Int64 :=
    if 16 ≤ i23 then
      fX10_lessOrder_a2 i23 z24
    else
      fX10_lessOrder_a3 i23 z24
def fX10_lessOrder_a4 (s0 : zSt) : zSt :=
    let x22 := (0 : Int64)
    let u39 := ziter fX10_lessOrder_101 0 17 (s0, x22)
    u39.1
def fX10_lessOrder  (s0 : zSt) : zSt :=
    let x2 := if lg_cmp (s0.1 16 16) ((0 : Int64)) = 0 then 0 else 1
    let u18 := zdown (fX10_lessOrder_23 s0) 16 (1, x2)
    if nI (u18.1) = 0 then
      fX10_lessOrder_a1 s0
    else
      fX10_lessOrder_a4 s0
set_option maxHeartbeats 4000000 in
set_option maxRecDepth 100000 in
theorem k_X10_lessOrder (l : Launch) (D : va_G) (kc : Nat → ClassId) (ad : Nat → Nat)  (s0 : zSt) : zM l yX10_lessOrder cX10_lessOrder 6 none rX10_lessOrder (wM D kc ad) [.ref (zad (wM D kc ad) 17)] s0 (zV0 (fX10_lessOrder  s0)) := by
  refine z_of (own := RX10) (by decide +kernel) rfl (Nat.le_of_ble_eq_true rfl) ?_
  intro κ C R0
  refine j_at [(0, .ref (zad (wM D kc ad) 17))] ⟨rfl, trivial⟩ ?_
  refine j_iconst (v := nI 1) C dX10_lessOrder_0 (by decide +kernel) ?_
  refine j_istore_n C dX10_lessOrder_1 rfl (by decide) ?_
  refine j_aload_n C dX10_lessOrder_2 rfl rfl ?_
  refine j_getR C dX10_lessOrder_3 (fx_RX10_63 D kc ad) (Nat.zero_le _) (show 17 < 18 by decide) ?_
  refine j_bipush (v := nI 16) C dX10_lessOrder_6 (by decide +kernel) ?_
  refine m_lald C dX10_lessOrder_8 (⟨rfl, rfl, by decide, by decide⟩ : ma 18 16) (by omega) ?_
  refine j_lconst (v := 0) C dX10_lessOrder_9 rfl ?_
  refine j_lcmp C dX10_lessOrder_10 ?_
  refine j_at [(0, .ref (zad (wM D kc ad) 17)), (1, .int (nI (1)))] ⟨rfl, rfl, trivial⟩ ?_
  suffices K : zJ κ (wM D kc ad) 19 (zlof [(0, .ref (zad (wM D kc ad) 17)), (1, .int (nI (1)))]) (.int (nI (if lg_cmp (s0.1 16 16) ((0 : Int64)) = 0 then 0 else 1)) :: []) s0 by
    refine j_if_eq (tgt := 18) C dX10_lessOrder_11 (by decide) (fun q1 => ?_) (fun q1 => ?_)
    · rw [if_pos q1] at K
      exact j_iconst (v := nI 0) C dX10_lessOrder_18 (by decide +kernel) K
    · rw [if_neg q1] at K
      exact j_iconst (v := nI 1) C dX10_lessOrder_14 (by decide +kernel) (j_goto (tgt := 19) C dX10_lessOrder_15 (by decide) K)
  refine j_nmN (fun x2 ex2 => ?_)
  refine j_istore_n C dX10_lessOrder_19 rfl (by decide) ?_
  refine j_bipush (v := nI 15) C dX10_lessOrder_20 (by decide +kernel) ?_
  refine j_istore_n C dX10_lessOrder_22 rfl (by decide) ?_
  refine j_at [(0, .ref (zad (wM D kc ad) 17)), (1, .int (nI (1))), (2, .int (nI (x2))), (3, .int (dI 16))] ⟨rfl, rfl, rfl, congrArg (fun q => some (Value.int q)) (dI_succ _).symm, trivial⟩ ?_
  refine z_brk (α := Nat × Nat) (fun (i3 : Nat) (z4 : Nat × Nat) => zJ κ (wM D kc ad) 23 (zlof [(0, .ref (zad (wM D kc ad) 17)), (1, .int (nI (z4.1))), (2, .int (nI (z4.2))), (3, .int (dI i3))]) [] s0) (fun (z4 : Nat × Nat) => zJ κ (wM D kc ad) 92 (zlof [(0, .ref (zad (wM D kc ad) 17)), (1, .int (nI (z4.1)))]) [] s0) (fX10_lessOrder_23 s0) (fun z4 => ¬ nI (z4.2) = 0) (fun i3 _ => i3 ≤ 16) (fun j x hd => if_pos hd) ?_ ?_ (fun _ _ h => by omega) 16 (1, x2) (Nat.le_refl _) ?_
  · intro i3 z4 hIi3 hor kx
    rcases hor with rfl | hd
    · refine j_iload_n C dX10_lessOrder_23 rfl rfl ?_
      refine j_if_lt (tgt := 92) C dX10_lessOrder_24 (by decide) (fun q14 => ?_) (fun q14 => False.elim (q14 dI_0))
      refine j_at [(0, .ref (zad (wM D kc ad) 17)), (1, .int (nI (z4.1)))] ⟨rfl, rfl, trivial⟩ ?_
      exact kx
    · rcases Nat.eq_zero_or_pos i3 with rfl | hp
      · refine j_iload_n C dX10_lessOrder_23 rfl rfl ?_
        refine j_if_lt (tgt := 92) C dX10_lessOrder_24 (by decide) (fun q15 => ?_) (fun q15 => False.elim (q15 dI_0))
        refine j_at [(0, .ref (zad (wM D kc ad) 17)), (1, .int (nI (z4.1)))] ⟨rfl, rfl, trivial⟩ ?_
        exact kx
      · obtain ⟨i3, rfl⟩ : ∃ m, i3 = m + 1 := ⟨i3 - 1, by omega⟩
        refine j_at [(0, .ref (zad (wM D kc ad) 17)), (1, .int (nI (z4.1))), (2, .int (nI (z4.2))), (3, .int (nI i3))] ⟨rfl, rfl, rfl, congrArg (fun q => some (Value.int q)) (dI_succ _), trivial⟩ ?_
        refine j_iload_n C dX10_lessOrder_23 rfl rfl ?_
        refine j_if_lt (tgt := 92) C dX10_lessOrder_24 (by decide) (fun q16 => False.elim (nI_pos (by omega) q16)) (fun q16 => ?_)
        refine j_iload_n C dX10_lessOrder_27 rfl rfl ?_
        refine j_if_ne (tgt := 92) C dX10_lessOrder_28 (by decide) (fun q17 => ?_) (fun q17 => False.elim (hd q17))
        refine j_at [(0, .ref (zad (wM D kc ad) 17)), (1, .int (nI (z4.1)))] ⟨rfl, rfl, trivial⟩ ?_
        exact kx
  · intro i3 z4 hIi3 hnd k0
    have hAd : (fX10_lessOrder_23 s0) i3 z4 = fX10_lessOrder_23_b s0 i3 z4 := if_neg hnd
    refine j_at [(0, .ref (zad (wM D kc ad) 17)), (1, .int (nI (z4.1))), (2, .int (nI (z4.2))), (3, .int (nI i3))] ⟨rfl, rfl, rfl, congrArg (fun q => some (Value.int q)) (dI_succ _), trivial⟩ ?_
    refine j_iload_n C dX10_lessOrder_23 rfl rfl ?_
    refine j_if_lt (tgt := 92) C dX10_lessOrder_24 (by decide) (fun q5 => False.elim (nI_pos (by omega) q5)) (fun q5 => ?_)
    refine j_iload_n C dX10_lessOrder_27 rfl rfl ?_
    refine j_if_ne (tgt := 92) C dX10_lessOrder_28 (by decide) (fun q6 => False.elim (hnd q6)) (fun q6 => ?_)
    refine j_aload_n C dX10_lessOrder_31 rfl rfl ?_
    refine j_getR C dX10_lessOrder_32 (fx_RX10_27 D kc ad) (Nat.zero_le _) (show 17 < 18 by decide) ?_
    refine j_bipush (v := nI 32) C dX10_lessOrder_35 (by decide +kernel) ?_
    refine j_iload_n C dX10_lessOrder_37 rfl rfl ?_
    refine j_iconst (v := nI 4) C dX10_lessOrder_38 (by decide +kernel) ?_
    refine j_idivN C dX10_lessOrder_39 (by omega) (by decide) (by decide) ?_
    refine j_iaddN C dX10_lessOrder_40 ?_
    refine m_lald C dX10_lessOrder_41 (⟨rfl, rfl, by decide, by decide⟩ : ma 64 4) (by omega) ?_
    refine j_iload_n C dX10_lessOrder_42 rfl rfl ?_
    refine j_iconst (v := nI 4) C dX10_lessOrder_43 (by decide +kernel) ?_
    refine j_iremN C dX10_lessOrder_44 (by omega) (by decide) (by decide) ?_
    refine j_callS1 C dX10_lessOrder_45 (k_X10_limb l D kc ad (s0.1 4 (32 + (i3 / 4))) (i3 % 4) (by omega) _ ) zy_X10_limb mw_25_14 rfl rfl (Nat.le_of_ble_eq_true rfl) ⟨rfl, rfl, Nat.le_of_ble_eq_true rfl, Nat.le_of_ble_eq_true rfl⟩ ?_
    refine j_nmL (fun x7 ex7 => ?_)
    refine j_lstore C dX10_lessOrder_48 (by decide) ?_
    refine j_aload_n C dX10_lessOrder_50 rfl rfl ?_
    refine j_getR C dX10_lessOrder_51 (fx_RX10_63 D kc ad) (Nat.zero_le _) (show 17 < 18 by decide) ?_
    refine j_iload_n C dX10_lessOrder_54 rfl rfl ?_
    refine m_lald C dX10_lessOrder_55 (⟨rfl, rfl, by decide, by decide⟩ : ma 18 16) (by omega) ?_
    refine j_lload C dX10_lessOrder_56 rfl ?_
    refine j_lcmp C dX10_lessOrder_58 ?_
    refine j_at [(0, .ref (zad (wM D kc ad) 17)), (3, .int (nI (i3))), (4, .long x7)] ⟨rfl, rfl, rfl, trivial⟩ ?_
    suffices K : zJ κ (wM D kc ad) 67 (zlof [(0, .ref (zad (wM D kc ad) 17)), (3, .int (nI (i3))), (4, .long x7)]) (.int (nI (if lg_cmp (s0.1 16 i3) x7 = 0 then 0 else 1)) :: []) s0 by
      refine j_if_eq (tgt := 66) C dX10_lessOrder_59 (by decide) (fun q8 => ?_) (fun q8 => ?_)
      · rw [if_pos q8] at K
        exact j_iconst (v := nI 0) C dX10_lessOrder_66 (by decide +kernel) K
      · rw [if_neg q8] at K
        exact j_iconst (v := nI 1) C dX10_lessOrder_62 (by decide +kernel) (j_goto (tgt := 67) C dX10_lessOrder_63 (by decide) K)
    refine j_nmN (fun x9 ex9 => ?_)
    refine j_istore_n C dX10_lessOrder_67 rfl (by decide) ?_
    refine j_aload_n C dX10_lessOrder_68 rfl rfl ?_
    refine j_getR C dX10_lessOrder_69 (fx_RX10_63 D kc ad) (Nat.zero_le _) (show 17 < 18 by decide) ?_
    refine j_iload_n C dX10_lessOrder_72 rfl rfl ?_
    refine m_lald C dX10_lessOrder_73 (⟨rfl, rfl, by decide, by decide⟩ : ma 18 16) (by omega) ?_
    refine j_lload C dX10_lessOrder_74 rfl ?_
    refine j_lcmp C dX10_lessOrder_76 ?_
    refine j_at [(0, .ref (zad (wM D kc ad) 17)), (2, .int (nI (x9))), (3, .int (nI (i3)))] ⟨rfl, rfl, rfl, trivial⟩ ?_
    suffices K : zJ κ (wM D kc ad) 85 (zlof [(0, .ref (zad (wM D kc ad) 17)), (2, .int (nI (x9))), (3, .int (nI (i3)))]) (.int (nI (if lg_cmp (s0.1 16 i3) x7 < 0 then 0 else 1)) :: []) s0 by
      refine j_if_lt (tgt := 84) C dX10_lessOrder_77 (by decide) (fun q10 => ?_) (fun q10 => ?_)
      · rw [if_pos q10] at K
        exact j_iconst (v := nI 0) C dX10_lessOrder_84 (by decide +kernel) K
      · rw [if_neg q10] at K
        exact j_iconst (v := nI 1) C dX10_lessOrder_80 (by decide +kernel) (j_goto (tgt := 85) C dX10_lessOrder_81 (by decide) K)
    refine j_nmN (fun x11 ex11 => ?_)
    refine j_istore_n C dX10_lessOrder_85 rfl (by decide) ?_
    refine j_iincD C dX10_lessOrder_86 rfl (by decide) ?_
    refine j_goto (tgt := 23) C dX10_lessOrder_89 (by decide) ?_
    refine j_at [(0, .ref (zad (wM D kc ad) 17)), (1, .int (nI (x11))), (2, .int (nI (x9))), (3, .int (dI i3))] ⟨rfl, rfl, rfl, rfl, trivial⟩ ?_
    have eF : (fX10_lessOrder_23 s0) i3 z4 = (x11, x9) := by rw [hAd]; (try rw [ex11]); (try rw [ex9]); (try rw [ex7]); unfold fX10_lessOrder_23_b; first | done | (dsimp only; done) | rfl
    exact Eq.mp (congrArg (fun (z13 : Nat × Nat) => zJ κ (wM D kc ad) 23 (zlof [(0, .ref (zad (wM D kc ad) 17)), (1, .int (nI (z13.1))), (2, .int (nI (z13.2))), (3, .int (dI i3))]) [] s0) eF) (k0 ((by omega)))
  · refine z_nm (P := (fun (z4 : Nat × Nat) => zJ κ (wM D kc ad) 92 (zlof [(0, .ref (zad (wM D kc ad) 17)), (1, .int (nI (z4.1)))]) [] s0)) (fun u18 eu18 => ?_)
    refine j_iload_n C dX10_lessOrder_92 rfl rfl ?_
    refine j_if_eq (tgt := 180) C dX10_lessOrder_93 (by decide) (fun q19 => ?_) (fun q19 => ?_)
    · have hA20 : fX10_lessOrder  s0 = fX10_lessOrder_a1 s0 := by (try rw [eu18]); (try rw [ex2]); have q19z := q19; (try rw [eu18] at q19z); (try rw [ex2] at q19z); (try dsimp only at q19z); unfold fX10_lessOrder; (try dsimp only); rw [if_pos q19z]; (try rfl)
      exact j_vret (st := []) C R0 dX10_lessOrder_180 ⟨rfl, (by rw [hA20]; unfold fX10_lessOrder_a1; (try dsimp only); all_goals ((try simp only [zfst_mk, zsnd_mk]); all_goals rfl))⟩
    · have hA21 : fX10_lessOrder  s0 = fX10_lessOrder_a4 s0 := by (try rw [eu18]); (try rw [ex2]); have q19z := q19; (try rw [eu18] at q19z); (try rw [ex2] at q19z); (try dsimp only at q19z); unfold fX10_lessOrder; (try dsimp only); rw [if_neg q19z]; (try rfl)
      refine j_lconst (v := 0) C dX10_lessOrder_96 rfl ?_
      refine j_nmL (fun x22 ex22 => ?_)
      refine j_lstore_n C dX10_lessOrder_97 rfl (by decide) ?_
      refine j_iconst (v := nI 0) C dX10_lessOrder_98 (by decide +kernel) ?_
      refine j_istore C dX10_lessOrder_99 (by decide) ?_
      refine j_at [(0, .ref (zad (wM D kc ad) 17)), (3, .long x22), (5, .int (nI (0)))] ⟨rfl, rfl, rfl, trivial⟩ ?_
      refine z_up (α := zSt × Int64) (fun (i23 : Nat) (z24 : zSt × Int64) => zJ κ (wM D kc ad) 101 (zlof [(0, .ref (zad (wM D kc ad) 17)), (3, .long z24.2), (5, .int (nI (i23)))]) [] z24.1) fX10_lessOrder_101 (fun _ _ => True) 17 ?_ (fun _ _ _ _ => trivial) 17 0 (s0, x22) (by omega) trivial ?_
      · intro i23 z24 hi23 hIi23 k0
        refine j_iload C dX10_lessOrder_101 rfl ?_
        refine j_bipush (v := nI 17) C dX10_lessOrder_103 (by decide +kernel) ?_
        refine j_icmp_geN (tgt := 180) C dX10_lessOrder_105 (by decide) (by omega) (by omega) (fun q25 => False.elim (by omega)) (fun q25 => ?_)
        refine j_aload_n C dX10_lessOrder_108 rfl rfl ?_
        refine j_getR C dX10_lessOrder_109 (fx_RX10_63 D kc ad) (Nat.zero_le _) (show 17 < 18 by decide) ?_
        refine j_iload C dX10_lessOrder_112 rfl ?_
        refine j_dup2 C dX10_lessOrder_114 rfl rfl ?_
        refine m_lald C dX10_lessOrder_115 (⟨rfl, rfl, by decide, by decide⟩ : ma 18 16) (by omega) ?_
        refine j_lload_n C dX10_lessOrder_116 rfl rfl ?_
        refine j_iload C dX10_lessOrder_117 rfl ?_
        refine j_bipush (v := nI 16) C dX10_lessOrder_119 (by decide +kernel) ?_
        refine j_icmp_geN (tgt := 146) C dX10_lessOrder_121 (by decide) (by omega) (by omega) (fun q26 => ?_) (fun q26 => ?_)
        · have hA27 : fX10_lessOrder_101 i23 z24 = fX10_lessOrder_a2 i23 z24 := by have q26z := q26; (try dsimp only at q26z); unfold fX10_lessOrder_101; (try dsimp only); rw [if_pos q26z]; (try rfl)
          refine j_lconst (v := 0) C dX10_lessOrder_146 rfl ?_
          refine j_lsub C dX10_lessOrder_147 ?_
          refine j_ladd C dX10_lessOrder_148 ?_
          refine m_last C dX10_lessOrder_149 (⟨rfl, rfl, by decide, by decide⟩ : ma 18 16) (by omega) ?_
          refine j_nmS (fun t28 et28 => ?_)
          refine j_aload_n C dX10_lessOrder_150 rfl rfl ?_
          refine j_getR C dX10_lessOrder_151 (fx_RX10_63 D kc ad) (Nat.zero_le _) (show 17 < 18 by decide) ?_
          refine j_iload C dX10_lessOrder_154 rfl ?_
          refine m_lald C dX10_lessOrder_156 (⟨rfl, rfl, by decide, by decide⟩ : ma 18 16) (by omega) ?_
          refine j_bipush (v := nI 16) C dX10_lessOrder_157 (by decide +kernel) ?_
          refine j_lshr C dX10_lessOrder_159 (by omega) ?_
          refine j_nmL (fun x29 ex29 => ?_)
          refine j_lstore_n C dX10_lessOrder_160 rfl (by decide) ?_
          refine j_aload_n C dX10_lessOrder_161 rfl rfl ?_
          refine j_getR C dX10_lessOrder_162 (fx_RX10_63 D kc ad) (Nat.zero_le _) (show 17 < 18 by decide) ?_
          refine j_iload C dX10_lessOrder_165 rfl ?_
          refine j_dup2 C dX10_lessOrder_167 rfl rfl ?_
          refine m_lald C dX10_lessOrder_168 (⟨rfl, rfl, by decide, by decide⟩ : ma 18 16) (by omega) ?_
          refine j_ldc2 C dX10_lessOrder_169 mw_10_19 ?_
          refine j_land C dX10_lessOrder_172 ?_
          refine m_last C dX10_lessOrder_173 (⟨rfl, rfl, by decide, by decide⟩ : ma 18 16) (by omega) ?_
          refine j_nmS (fun t30 et30 => ?_)
          refine j_iincN (b := 1) C dX10_lessOrder_174 rfl (by decide +kernel) (by decide) ?_
          refine j_goto (tgt := 101) C dX10_lessOrder_177 (by decide) ?_
          refine j_nmS (fun t31 et31 => ?_)
          refine j_at [(0, .ref (zad (wM D kc ad) 17)), (3, .long x29), (5, .int (nI (i23 + 1)))] ⟨rfl, rfl, rfl, trivial⟩ ?_
          have eF : fX10_lessOrder_101 i23 z24 = (t31, x29) := by rw [hA27]; rw [et31]; (try rw [et30]); (try rw [ex29]); (try rw [et28]); unfold fX10_lessOrder_a2; first | done | (dsimp only; done) | rfl
          exact Eq.mp (congrArg (fun (z32 : zSt × Int64) => zJ κ (wM D kc ad) 101 (zlof [(0, .ref (zad (wM D kc ad) 17)), (3, .long z32.2), (5, .int (nI (i23 + 1)))]) [] z32.1) eF) (k0 trivial)
        · have hA33 : fX10_lessOrder_101 i23 z24 = fX10_lessOrder_a3 i23 z24 := by have q26z : ¬ (16 ≤ i23) := (by omega); (try dsimp only at q26z); unfold fX10_lessOrder_101; (try dsimp only); rw [if_neg q26z]; (try rfl)
          refine j_aload_n C dX10_lessOrder_124 rfl rfl ?_
          refine j_getR C dX10_lessOrder_125 (fx_RX10_27 D kc ad) (Nat.zero_le _) (show 17 < 18 by decide) ?_
          refine j_bipush (v := nI 32) C dX10_lessOrder_128 (by decide +kernel) ?_
          refine j_iload C dX10_lessOrder_130 rfl ?_
          refine j_iconst (v := nI 4) C dX10_lessOrder_132 (by decide +kernel) ?_
          refine j_idivN C dX10_lessOrder_133 (by omega) (by decide) (by decide) ?_
          refine j_iaddN C dX10_lessOrder_134 ?_
          refine m_lald C dX10_lessOrder_135 (⟨rfl, rfl, by decide, by decide⟩ : ma 64 4) (by omega) ?_
          refine j_iload C dX10_lessOrder_136 rfl ?_
          refine j_iconst (v := nI 4) C dX10_lessOrder_138 (by decide +kernel) ?_
          refine j_iremN C dX10_lessOrder_139 (by omega) (by decide) (by decide) ?_
          refine j_callS1 C dX10_lessOrder_140 (k_X10_limb l D kc ad (z24.1.1 4 (32 + (i23 / 4))) (i23 % 4) (by omega) _ ) zy_X10_limb mw_25_14 rfl rfl (Nat.le_of_ble_eq_true rfl) ⟨rfl, rfl, Nat.le_of_ble_eq_true rfl, Nat.le_of_ble_eq_true rfl⟩ ?_
          refine j_goto (tgt := 147) C dX10_lessOrder_143 (by decide) ?_
          refine j_lsub C dX10_lessOrder_147 ?_
          refine j_ladd C dX10_lessOrder_148 ?_
          refine m_last C dX10_lessOrder_149 (⟨rfl, rfl, by decide, by decide⟩ : ma 18 16) (by omega) ?_
          refine j_nmS (fun t34 et34 => ?_)
          refine j_aload_n C dX10_lessOrder_150 rfl rfl ?_
          refine j_getR C dX10_lessOrder_151 (fx_RX10_63 D kc ad) (Nat.zero_le _) (show 17 < 18 by decide) ?_
          refine j_iload C dX10_lessOrder_154 rfl ?_
          refine m_lald C dX10_lessOrder_156 (⟨rfl, rfl, by decide, by decide⟩ : ma 18 16) (by omega) ?_
          refine j_bipush (v := nI 16) C dX10_lessOrder_157 (by decide +kernel) ?_
          refine j_lshr C dX10_lessOrder_159 (by omega) ?_
          refine j_nmL (fun x35 ex35 => ?_)
          refine j_lstore_n C dX10_lessOrder_160 rfl (by decide) ?_
          refine j_aload_n C dX10_lessOrder_161 rfl rfl ?_
          refine j_getR C dX10_lessOrder_162 (fx_RX10_63 D kc ad) (Nat.zero_le _) (show 17 < 18 by decide) ?_
          refine j_iload C dX10_lessOrder_165 rfl ?_
          refine j_dup2 C dX10_lessOrder_167 rfl rfl ?_
          refine m_lald C dX10_lessOrder_168 (⟨rfl, rfl, by decide, by decide⟩ : ma 18 16) (by omega) ?_
          refine j_ldc2 C dX10_lessOrder_169 mw_10_19 ?_
          refine j_land C dX10_lessOrder_172 ?_
          refine m_last C dX10_lessOrder_173 (⟨rfl, rfl, by decide, by decide⟩ : ma 18 16) (by omega) ?_
          refine j_nmS (fun t36 et36 => ?_)
          refine j_iincN (b := 1) C dX10_lessOrder_174 rfl (by decide +kernel) (by decide) ?_
          refine j_goto (tgt := 101) C dX10_lessOrder_177 (by decide) ?_
          refine j_nmS (fun t37 et37 => ?_)
          refine j_at [(0, .ref (zad (wM D kc ad) 17)), (3, .long x35), (5, .int (nI (i23 + 1)))] ⟨rfl, rfl, rfl, trivial⟩ ?_
          have eF : fX10_lessOrder_101 i23 z24 = (t37, x35) := by rw [hA33]; rw [et37]; (try rw [et36]); (try rw [ex35]); (try rw [et34]); unfold fX10_lessOrder_a3; first | done | (dsimp only; done) | rfl
          exact Eq.mp (congrArg (fun (z38 : zSt × Int64) => zJ κ (wM D kc ad) 101 (zlof [(0, .ref (zad (wM D kc ad) 17)), (3, .long z38.2), (5, .int (nI (i23 + 1)))]) [] z38.1) eF) (k0 trivial)
      · intro hIi23
        refine z_nm (P := fun (z24 : zSt × Int64) => zJ κ (wM D kc ad) 101 (zlof [(0, .ref (zad (wM D kc ad) 17)), (3, .long z24.2), (5, .int (nI (17)))]) [] z24.1) (fun u39 eu39 => ?_)
        refine j_iload C dX10_lessOrder_101 rfl ?_
        refine j_bipush (v := nI 17) C dX10_lessOrder_103 (by decide +kernel) ?_
        refine j_icmp_geN (tgt := 180) C dX10_lessOrder_105 (by decide) (by omega) (by omega) (fun q40 => ?_) (fun q40 => False.elim (by omega))
        exact j_vret (st := []) C R0 dX10_lessOrder_180 ⟨rfl, (by rw [hA21]; (try rw [eu39]); (try rw [ex22]); unfold fX10_lessOrder_a4; (try dsimp only); all_goals ((try simp only [zfst_mk, zsnd_mk]); all_goals rfl))⟩
theorem k2_fX10_lessOrder_a1 (s0 : zSt) : zk2 (fX10_lessOrder_a1 s0) = zk2 s0 := by
  unfold fX10_lessOrder_a1
  (try dsimp only)
  all_goals (simp only [zW_2, zL_2]; done)
theorem k2q_fX10_lessOrder_a2 (i23 : Nat) (z24 : zSt × Int64) : zk2f (fX10_lessOrder_a2 i23 z24) = zk2 z24.1 := by
  unfold fX10_lessOrder_a2
  (try dsimp only)
  all_goals (simp only [zW_2, zL_2, zk2f_mk]; done)
theorem k2_fX10_lessOrder_a2 (i23 : Nat) (z24 : zSt × Int64) : zk2 (fX10_lessOrder_a2 i23 z24).1 = zk2 z24.1 := k2q_fX10_lessOrder_a2 i23 z24
theorem k2q_fX10_lessOrder_a3 (i23 : Nat) (z24 : zSt × Int64) : zk2f (fX10_lessOrder_a3 i23 z24) = zk2 z24.1 := by
  unfold fX10_lessOrder_a3
  (try dsimp only)
  all_goals (simp only [zW_2, zL_2, zk2f_mk]; done)
theorem k2_fX10_lessOrder_a3 (i23 : Nat) (z24 : zSt × Int64) : zk2 (fX10_lessOrder_a3 i23 z24).1 = zk2 z24.1 := k2q_fX10_lessOrder_a3 i23 z24
theorem k2q_fX10_lessOrder_101  (i23 : Nat) (z24 : zSt × Int64) : zk2f (fX10_lessOrder_101  i23 z24) = zk2 z24.1 := by
  unfold fX10_lessOrder_101
  (try dsimp only)
  all_goals (refine ite_keep (fun r : zSt × Int64 => zk2f r) _ _ ?_ ?_ <;> (simp only [zW_2, zL_2, k2_fX10_lessOrder_a2, k2_fX10_lessOrder_a3, k2q_fX10_lessOrder_a2, k2q_fX10_lessOrder_a3, zk2f_mk]; done))
theorem k2_fX10_lessOrder_101  (i23 : Nat) (z24 : zSt × Int64) : zk2 (fX10_lessOrder_101  i23 z24).1 = zk2 z24.1 := k2q_fX10_lessOrder_101 i23 z24
theorem k2it_fX10_lessOrder_101  (nn ii : Nat) (xx : zSt × Int64) : zk2 (ziter (fX10_lessOrder_101 ) ii nn xx).1 = zk2 xx.1 := ziter_keep (fun x => zk2 x.1) _ (k2_fX10_lessOrder_101 ) nn ii xx
theorem k2_fX10_lessOrder_a4 (s0 : zSt) : zk2 (fX10_lessOrder_a4 s0) = zk2 s0 := by
  unfold fX10_lessOrder_a4
  (try dsimp only)
  all_goals (simp only [zW_2, zL_2, k2_fX10_lessOrder_101, k2q_fX10_lessOrder_101, k2it_fX10_lessOrder_101]; done)
theorem k2_fX10_lessOrder  (s0 : zSt) : zk2 (fX10_lessOrder  s0) = zk2 s0 := by
  unfold fX10_lessOrder
  (try dsimp only)
  all_goals (refine ite_keep (fun r : zSt => zk2 r) _ _ ?_ ?_ <;> (simp only [zW_2, zL_2, k2_fX10_lessOrder_a1, k2_fX10_lessOrder_a4]; done))
theorem i2_fX10_lessOrder  (s0 : zSt) (kk9 : Nat) : (fX10_lessOrder  s0).2.2 kk9 = s0.2.2 kk9 := z2_I (k2_fX10_lessOrder s0) kk9
theorem i3_fX10_lessOrder  (s0 : zSt) (kk9 : Nat) : zi (fX10_lessOrder  s0) kk9 = zi s0 kk9 := zi_of (k2_fX10_lessOrder s0) kk9

def fX10_modulo_2  (i1 : Nat) (z2 : zSt) : zSt :=
    let t4 := zW z2 16 i1 ((0 : Int64))
    t4
def fX10_modulo_48  (i13 : Nat) (z14 : zSt × Int64) : zSt × Int64 :=
    let t16 := zW z14.1 16 i13 ((((2 : Int64)) * (z14.1.1 16 i13)) + z14.2)
    let x17 := zsr (t16.1 16 i13) 16
    let t18 := zW t16 16 i13 ((t16.1 16 i13) &&& ((65535 : Int64)))
    (t18, x17)
def fX10_modulo_25  (i9 : Nat) (z10 : zSt) : zSt :=
    let x12 := (zsr (z10.1 15 (i9 / 2 ^ 4)) (i9 % 2 ^ 4)) &&& ((1 : Int64))
    let u21 := ziter fX10_modulo_48 0 17 (z10, x12)
    let t23 := fX10_lessOrder  u21.1
    t23
def fX10_modulo_117 (p : Nat) (i28 : Nat) (z29 : zSt) : zSt :=
    let t31 := zW z29 4 (p + i28) ((((z29.1 16 (4 * i28)) ||| (zsl (z29.1 16 ((4 * i28) + 1)) 16)) ||| (zsl (z29.1 16 ((4 * i28) + 2)) 32)) ||| (zsl (z29.1 16 ((4 * i28) + 3)) 48))
    t31
def fX10_modulo (p : Nat) (s0 : zSt) : zSt :=
    let u7 := ziter fX10_modulo_2 0 18 s0
    let u26 := zdown fX10_modulo_25 544 u7
    let u34 := ziter (fX10_modulo_117 p) 0 4 u26
    u34
set_option maxHeartbeats 4000000 in
set_option maxRecDepth 100000 in
theorem k_X10_modulo (l : Launch) (D : va_G) (kc : Nat → ClassId) (ad : Nat → Nat) (p : Nat) (hp : p ≤ 60) (s0 : zSt) : zM l yX10_modulo cX10_modulo 6 none rX10_modulo (wM D kc ad) [.ref (zad (wM D kc ad) 17), .int (nI (p))] s0 (zV0 (fX10_modulo p s0)) := by
  refine z_of (own := RX10) (by decide +kernel) rfl (Nat.le_of_ble_eq_true rfl) ?_
  intro κ C R0
  refine j_at [(0, .ref (zad (wM D kc ad) 17)), (1, .int (nI (p)))] ⟨rfl, rfl, trivial⟩ ?_
  refine j_iconst (v := nI 0) C dX10_modulo_0 (by decide +kernel) ?_
  refine j_istore_n C dX10_modulo_1 rfl (by decide) ?_
  refine j_at [(0, .ref (zad (wM D kc ad) 17)), (1, .int (nI (p))), (2, .int (nI (0)))] ⟨rfl, rfl, rfl, trivial⟩ ?_
  refine z_up (α := zSt) (fun (i1 : Nat) (z2 : zSt) => zJ κ (wM D kc ad) 2 (zlof [(0, .ref (zad (wM D kc ad) 17)), (1, .int (nI (p))), (2, .int (nI (i1)))]) [] z2) fX10_modulo_2 (fun _ _ => True) 18 ?_ (fun _ _ _ _ => trivial) 18 0 s0 (by omega) trivial ?_
  · intro i1 z2 hi1 hIi1 k0
    refine j_iload_n C dX10_modulo_2 rfl rfl ?_
    refine j_bipush (v := nI 18) C dX10_modulo_3 (by decide +kernel) ?_
    refine j_icmp_geN (tgt := 21) C dX10_modulo_5 (by decide) (by omega) (by omega) (fun q3 => False.elim (by omega)) (fun q3 => ?_)
    refine j_aload_n C dX10_modulo_8 rfl rfl ?_
    refine j_getR C dX10_modulo_9 (fx_RX10_63 D kc ad) (Nat.zero_le _) (show 17 < 18 by decide) ?_
    refine j_iload_n C dX10_modulo_12 rfl rfl ?_
    refine j_lconst (v := 0) C dX10_modulo_13 rfl ?_
    refine m_last C dX10_modulo_14 (⟨rfl, rfl, by decide, by decide⟩ : ma 18 16) (by omega) ?_
    refine j_nmS (fun t4 et4 => ?_)
    refine j_iincN (b := 1) C dX10_modulo_15 rfl (by decide +kernel) (by decide) ?_
    refine j_goto (tgt := 2) C dX10_modulo_18 (by decide) ?_
    refine j_nmS (fun t5 et5 => ?_)
    refine j_at [(0, .ref (zad (wM D kc ad) 17)), (1, .int (nI (p))), (2, .int (nI (i1 + 1)))] ⟨rfl, rfl, rfl, trivial⟩ ?_
    have eF : fX10_modulo_2 i1 z2 = t5 := by rw [et5]; (try rw [et4]); unfold fX10_modulo_2; first | done | (dsimp only; done) | rfl
    exact Eq.mp (congrArg (fun (z6 : zSt) => zJ κ (wM D kc ad) 2 (zlof [(0, .ref (zad (wM D kc ad) 17)), (1, .int (nI (p))), (2, .int (nI (i1 + 1)))]) [] z6) eF) (k0 trivial)
  · intro hIi1
    refine z_nm (P := fun (z2 : zSt) => zJ κ (wM D kc ad) 2 (zlof [(0, .ref (zad (wM D kc ad) 17)), (1, .int (nI (p))), (2, .int (nI (18)))]) [] z2) (fun u7 eu7 => ?_)
    refine j_iload_n C dX10_modulo_2 rfl rfl ?_
    refine j_bipush (v := nI 18) C dX10_modulo_3 (by decide +kernel) ?_
    refine j_icmp_geN (tgt := 21) C dX10_modulo_5 (by decide) (by omega) (by omega) (fun q8 => ?_) (fun q8 => False.elim (by omega))
    refine j_sipush (v := nI 543) C dX10_modulo_21 (by decide +kernel) ?_
    refine j_istore_n C dX10_modulo_24 rfl (by decide) ?_
    refine j_at [(0, .ref (zad (wM D kc ad) 17)), (1, .int (nI (p))), (2, .int (dI 544))] ⟨rfl, rfl, congrArg (fun q => some (Value.int q)) (dI_succ _).symm, trivial⟩ ?_
    refine z_dn (α := zSt) (fun (i9 : Nat) (z10 : zSt) => zJ κ (wM D kc ad) 25 (zlof [(0, .ref (zad (wM D kc ad) 17)), (1, .int (nI (p))), (2, .int (dI i9))]) [] z10) fX10_modulo_25 (fun i9 z10 => i9 ≤ 544) ?_ (fun _ _ h => by omega) 544 u7 (Nat.le_refl _) ?_
    · intro i9 z10 hIi9 k0
      refine j_at [(0, .ref (zad (wM D kc ad) 17)), (1, .int (nI (p))), (2, .int (nI (i9)))] ⟨rfl, rfl, congrArg (fun q => some (Value.int q)) (dI_succ _), trivial⟩ ?_
      refine j_iload_n C dX10_modulo_25 rfl rfl ?_
      refine j_if_lt (tgt := 115) C dX10_modulo_26 (by decide) (fun q11 => False.elim (nI_pos (by omega) q11)) (fun q11 => ?_)
      refine j_aload_n C dX10_modulo_29 rfl rfl ?_
      refine j_getR C dX10_modulo_30 (fx_RX10_60 D kc ad) (Nat.zero_le _) (show 17 < 18 by decide) ?_
      refine j_iload_n C dX10_modulo_33 rfl rfl ?_
      refine j_iconst (v := nI 4) C dX10_modulo_34 (by decide +kernel) ?_
      refine j_ishrN C dX10_modulo_35 (by omega) (by decide +kernel) ?_
      refine m_lald C dX10_modulo_36 (⟨rfl, rfl, by decide, by decide⟩ : ma 40 15) (by omega) ?_
      refine j_iload_n C dX10_modulo_37 rfl rfl ?_
      refine j_bipush (v := nI 15) C dX10_modulo_38 (by decide +kernel) ?_
      refine j_iandN C 4 dX10_modulo_40 (by omega) (by decide +kernel) ?_
      refine j_lshr C dX10_modulo_41 (by omega) ?_
      refine j_lconst (v := 1) C dX10_modulo_42 rfl ?_
      refine j_land C dX10_modulo_43 ?_
      refine j_nmL (fun x12 ex12 => ?_)
      refine j_lstore_n C dX10_modulo_44 rfl (by decide) ?_
      refine j_iconst (v := nI 0) C dX10_modulo_45 (by decide +kernel) ?_
      refine j_istore C dX10_modulo_46 (by decide) ?_
      refine j_at [(0, .ref (zad (wM D kc ad) 17)), (1, .int (nI (p))), (2, .int (nI (i9))), (3, .long x12), (5, .int (nI (0)))] ⟨rfl, rfl, rfl, rfl, rfl, trivial⟩ ?_
      refine z_up (α := zSt × Int64) (fun (i13 : Nat) (z14 : zSt × Int64) => zJ κ (wM D kc ad) 48 (zlof [(0, .ref (zad (wM D kc ad) 17)), (1, .int (nI (p))), (2, .int (nI (i9))), (3, .long z14.2), (5, .int (nI (i13)))]) [] z14.1) fX10_modulo_48 (fun _ _ => True) 17 ?_ (fun _ _ _ _ => trivial) 17 0 (z10, x12) (by omega) trivial ?_
      · intro i13 z14 hi13 hIi13 k0
        refine j_iload C dX10_modulo_48 rfl ?_
        refine j_bipush (v := nI 17) C dX10_modulo_50 (by decide +kernel) ?_
        refine j_icmp_geN (tgt := 105) C dX10_modulo_52 (by decide) (by omega) (by omega) (fun q15 => False.elim (by omega)) (fun q15 => ?_)
        refine j_aload_n C dX10_modulo_55 rfl rfl ?_
        refine j_getR C dX10_modulo_56 (fx_RX10_63 D kc ad) (Nat.zero_le _) (show 17 < 18 by decide) ?_
        refine j_iload C dX10_modulo_59 rfl ?_
        refine j_ldc2 C dX10_modulo_61 mw_10_4 ?_
        refine j_aload_n C dX10_modulo_64 rfl rfl ?_
        refine j_getR C dX10_modulo_65 (fx_RX10_63 D kc ad) (Nat.zero_le _) (show 17 < 18 by decide) ?_
        refine j_iload C dX10_modulo_68 rfl ?_
        refine m_lald C dX10_modulo_70 (⟨rfl, rfl, by decide, by decide⟩ : ma 18 16) (by omega) ?_
        refine j_lmul C dX10_modulo_71 ?_
        refine j_lload_n C dX10_modulo_72 rfl rfl ?_
        refine j_ladd C dX10_modulo_73 ?_
        refine m_last C dX10_modulo_74 (⟨rfl, rfl, by decide, by decide⟩ : ma 18 16) (by omega) ?_
        refine j_nmS (fun t16 et16 => ?_)
        refine j_aload_n C dX10_modulo_75 rfl rfl ?_
        refine j_getR C dX10_modulo_76 (fx_RX10_63 D kc ad) (Nat.zero_le _) (show 17 < 18 by decide) ?_
        refine j_iload C dX10_modulo_79 rfl ?_
        refine m_lald C dX10_modulo_81 (⟨rfl, rfl, by decide, by decide⟩ : ma 18 16) (by omega) ?_
        refine j_bipush (v := nI 16) C dX10_modulo_82 (by decide +kernel) ?_
        refine j_lshr C dX10_modulo_84 (by omega) ?_
        refine j_nmL (fun x17 ex17 => ?_)
        refine j_lstore_n C dX10_modulo_85 rfl (by decide) ?_
        refine j_aload_n C dX10_modulo_86 rfl rfl ?_
        refine j_getR C dX10_modulo_87 (fx_RX10_63 D kc ad) (Nat.zero_le _) (show 17 < 18 by decide) ?_
        refine j_iload C dX10_modulo_90 rfl ?_
        refine j_dup2 C dX10_modulo_92 rfl rfl ?_
        refine m_lald C dX10_modulo_93 (⟨rfl, rfl, by decide, by decide⟩ : ma 18 16) (by omega) ?_
        refine j_ldc2 C dX10_modulo_94 mw_10_19 ?_
        refine j_land C dX10_modulo_97 ?_
        refine m_last C dX10_modulo_98 (⟨rfl, rfl, by decide, by decide⟩ : ma 18 16) (by omega) ?_
        refine j_nmS (fun t18 et18 => ?_)
        refine j_iincN (b := 1) C dX10_modulo_99 rfl (by decide +kernel) (by decide) ?_
        refine j_goto (tgt := 48) C dX10_modulo_102 (by decide) ?_
        refine j_nmS (fun t19 et19 => ?_)
        refine j_at [(0, .ref (zad (wM D kc ad) 17)), (1, .int (nI (p))), (2, .int (nI (i9))), (3, .long x17), (5, .int (nI (i13 + 1)))] ⟨rfl, rfl, rfl, rfl, rfl, trivial⟩ ?_
        have eF : fX10_modulo_48 i13 z14 = (t19, x17) := by rw [et19]; (try rw [et18]); (try rw [ex17]); (try rw [et16]); unfold fX10_modulo_48; first | done | (dsimp only; done) | rfl
        exact Eq.mp (congrArg (fun (z20 : zSt × Int64) => zJ κ (wM D kc ad) 48 (zlof [(0, .ref (zad (wM D kc ad) 17)), (1, .int (nI (p))), (2, .int (nI (i9))), (3, .long z20.2), (5, .int (nI (i13 + 1)))]) [] z20.1) eF) (k0 trivial)
      · intro hIi13
        refine z_nm (P := fun (z14 : zSt × Int64) => zJ κ (wM D kc ad) 48 (zlof [(0, .ref (zad (wM D kc ad) 17)), (1, .int (nI (p))), (2, .int (nI (i9))), (3, .long z14.2), (5, .int (nI (17)))]) [] z14.1) (fun u21 eu21 => ?_)
        refine j_iload C dX10_modulo_48 rfl ?_
        refine j_bipush (v := nI 17) C dX10_modulo_50 (by decide +kernel) ?_
        refine j_icmp_geN (tgt := 105) C dX10_modulo_52 (by decide) (by omega) (by omega) (fun q22 => ?_) (fun q22 => False.elim (by omega))
        refine j_aload_n C dX10_modulo_105 rfl rfl ?_
        refine j_callV0 (T := TX10) (N := 23) C dX10_modulo_106 (k_X10_lessOrder l D kc ad  _ ) zy_X10_lessOrder mw_25_21 rfl rfl (Nat.zero_le _) (show 17 < 18 by decide) rfl rfl (Nat.le_of_ble_eq_true rfl) ⟨rfl, rfl, Nat.le_of_ble_eq_true rfl, Nat.le_of_ble_eq_true rfl⟩ ?_
        refine j_nmS (fun t23 et23 => ?_)
        refine j_iincD C dX10_modulo_109 rfl (by decide) ?_
        refine j_goto (tgt := 25) C dX10_modulo_112 (by decide) ?_
        refine j_nmS (fun t24 et24 => ?_)
        refine j_at [(0, .ref (zad (wM D kc ad) 17)), (1, .int (nI (p))), (2, .int (dI i9))] ⟨rfl, rfl, rfl, trivial⟩ ?_
        have eF : fX10_modulo_25 i9 z10 = t24 := by rw [et24]; (try rw [et23]); (try rw [eu21]); (try rw [ex12]); unfold fX10_modulo_25; first | done | (dsimp only; done) | rfl
        exact Eq.mp (congrArg (fun (z25 : zSt) => zJ κ (wM D kc ad) 25 (zlof [(0, .ref (zad (wM D kc ad) 17)), (1, .int (nI (p))), (2, .int (dI i9))]) [] z25) eF) (k0 ((by omega)))
    · intro hIi9
      revert hIi9
      refine z_nm (P := fun (z10 : zSt) => (fun i9 z10 => i9 ≤ 544) 0 z10 → zJ κ (wM D kc ad) 25 (zlof [(0, .ref (zad (wM D kc ad) 17)), (1, .int (nI (p))), (2, .int (dI 0))]) [] z10) (fun u26 eu26 => ?_)
      intro hIi9
      refine j_iload_n C dX10_modulo_25 rfl rfl ?_
      refine j_if_lt (tgt := 115) C dX10_modulo_26 (by decide) (fun q27 => ?_) (fun q27 => False.elim (q27 dI_0))
      refine j_iconst (v := nI 0) C dX10_modulo_115 (by decide +kernel) ?_
      refine j_istore_n C dX10_modulo_116 rfl (by decide) ?_
      refine j_at [(0, .ref (zad (wM D kc ad) 17)), (1, .int (nI (p))), (2, .int (nI (0)))] ⟨rfl, rfl, rfl, trivial⟩ ?_
      refine z_up (α := zSt) (fun (i28 : Nat) (z29 : zSt) => zJ κ (wM D kc ad) 117 (zlof [(0, .ref (zad (wM D kc ad) 17)), (1, .int (nI (p))), (2, .int (nI (i28)))]) [] z29) (fX10_modulo_117 p) (fun _ _ => True) 4 ?_ (fun _ _ _ _ => trivial) 4 0 u26 (by omega) trivial ?_
      · intro i28 z29 hi28 hIi28 k0
        refine j_iload_n C dX10_modulo_117 rfl rfl ?_
        refine j_iconst (v := nI 4) C dX10_modulo_118 (by decide +kernel) ?_
        refine j_icmp_geN (tgt := 186) C dX10_modulo_119 (by decide) (by omega) (by omega) (fun q30 => False.elim (by omega)) (fun q30 => ?_)
        refine j_aload_n C dX10_modulo_122 rfl rfl ?_
        refine j_getR C dX10_modulo_123 (fx_RX10_27 D kc ad) (Nat.zero_le _) (show 17 < 18 by decide) ?_
        refine j_iload_n C dX10_modulo_126 rfl rfl ?_
        refine j_iload_n C dX10_modulo_127 rfl rfl ?_
        refine j_iaddN C dX10_modulo_128 ?_
        refine j_aload_n C dX10_modulo_129 rfl rfl ?_
        refine j_getR C dX10_modulo_130 (fx_RX10_63 D kc ad) (Nat.zero_le _) (show 17 < 18 by decide) ?_
        refine j_iconst (v := nI 4) C dX10_modulo_133 (by decide +kernel) ?_
        refine j_iload_n C dX10_modulo_134 rfl rfl ?_
        refine j_imulN C dX10_modulo_135 ?_
        refine m_lald C dX10_modulo_136 (⟨rfl, rfl, by decide, by decide⟩ : ma 18 16) (by omega) ?_
        refine j_aload_n C dX10_modulo_137 rfl rfl ?_
        refine j_getR C dX10_modulo_138 (fx_RX10_63 D kc ad) (Nat.zero_le _) (show 17 < 18 by decide) ?_
        refine j_iconst (v := nI 4) C dX10_modulo_141 (by decide +kernel) ?_
        refine j_iload_n C dX10_modulo_142 rfl rfl ?_
        refine j_imulN C dX10_modulo_143 ?_
        refine j_iconst (v := nI 1) C dX10_modulo_144 (by decide +kernel) ?_
        refine j_iaddN C dX10_modulo_145 ?_
        refine m_lald C dX10_modulo_146 (⟨rfl, rfl, by decide, by decide⟩ : ma 18 16) (by omega) ?_
        refine j_bipush (v := nI 16) C dX10_modulo_147 (by decide +kernel) ?_
        refine j_lshl C dX10_modulo_149 (by omega) ?_
        refine j_lor C dX10_modulo_150 ?_
        refine j_aload_n C dX10_modulo_151 rfl rfl ?_
        refine j_getR C dX10_modulo_152 (fx_RX10_63 D kc ad) (Nat.zero_le _) (show 17 < 18 by decide) ?_
        refine j_iconst (v := nI 4) C dX10_modulo_155 (by decide +kernel) ?_
        refine j_iload_n C dX10_modulo_156 rfl rfl ?_
        refine j_imulN C dX10_modulo_157 ?_
        refine j_iconst (v := nI 2) C dX10_modulo_158 (by decide +kernel) ?_
        refine j_iaddN C dX10_modulo_159 ?_
        refine m_lald C dX10_modulo_160 (⟨rfl, rfl, by decide, by decide⟩ : ma 18 16) (by omega) ?_
        refine j_bipush (v := nI 32) C dX10_modulo_161 (by decide +kernel) ?_
        refine j_lshl C dX10_modulo_163 (by omega) ?_
        refine j_lor C dX10_modulo_164 ?_
        refine j_aload_n C dX10_modulo_165 rfl rfl ?_
        refine j_getR C dX10_modulo_166 (fx_RX10_63 D kc ad) (Nat.zero_le _) (show 17 < 18 by decide) ?_
        refine j_iconst (v := nI 4) C dX10_modulo_169 (by decide +kernel) ?_
        refine j_iload_n C dX10_modulo_170 rfl rfl ?_
        refine j_imulN C dX10_modulo_171 ?_
        refine j_iconst (v := nI 3) C dX10_modulo_172 (by decide +kernel) ?_
        refine j_iaddN C dX10_modulo_173 ?_
        refine m_lald C dX10_modulo_174 (⟨rfl, rfl, by decide, by decide⟩ : ma 18 16) (by omega) ?_
        refine j_bipush (v := nI 48) C dX10_modulo_175 (by decide +kernel) ?_
        refine j_lshl C dX10_modulo_177 (by omega) ?_
        refine j_lor C dX10_modulo_178 ?_
        refine m_last C dX10_modulo_179 (⟨rfl, rfl, by decide, by decide⟩ : ma 64 4) (by omega) ?_
        refine j_nmS (fun t31 et31 => ?_)
        refine j_iincN (b := 1) C dX10_modulo_180 rfl (by decide +kernel) (by decide) ?_
        refine j_goto (tgt := 117) C dX10_modulo_183 (by decide) ?_
        refine j_nmS (fun t32 et32 => ?_)
        refine j_at [(0, .ref (zad (wM D kc ad) 17)), (1, .int (nI (p))), (2, .int (nI (i28 + 1)))] ⟨rfl, rfl, rfl, trivial⟩ ?_
        have eF : (fX10_modulo_117 p) i28 z29 = t32 := by rw [et32]; (try rw [et31]); unfold fX10_modulo_117; first | done | (dsimp only; done) | rfl
        exact Eq.mp (congrArg (fun (z33 : zSt) => zJ κ (wM D kc ad) 117 (zlof [(0, .ref (zad (wM D kc ad) 17)), (1, .int (nI (p))), (2, .int (nI (i28 + 1)))]) [] z33) eF) (k0 trivial)
      · intro hIi28
        refine z_nm (P := fun (z29 : zSt) => zJ κ (wM D kc ad) 117 (zlof [(0, .ref (zad (wM D kc ad) 17)), (1, .int (nI (p))), (2, .int (nI (4)))]) [] z29) (fun u34 eu34 => ?_)
        refine j_iload_n C dX10_modulo_117 rfl rfl ?_
        refine j_iconst (v := nI 4) C dX10_modulo_118 (by decide +kernel) ?_
        refine j_icmp_geN (tgt := 186) C dX10_modulo_119 (by decide) (by omega) (by omega) (fun q35 => ?_) (fun q35 => False.elim (by omega))
        exact j_vret (st := []) C R0 dX10_modulo_186 ⟨rfl, (by (try rw [eu34]); (try rw [eu26]); (try rw [eu7]); unfold fX10_modulo; (try dsimp only); all_goals ((try simp only [zfst_mk, zsnd_mk]); all_goals rfl))⟩
theorem k2_fX10_modulo_2  (i1 : Nat) (z2 : zSt) : zk2 (fX10_modulo_2  i1 z2) = zk2 z2 := by
  unfold fX10_modulo_2
  (try dsimp only)
  all_goals (simp only [zW_2, zL_2]; done)
theorem k2it_fX10_modulo_2  (nn ii : Nat) (xx : zSt) : zk2 (ziter (fX10_modulo_2 ) ii nn xx) = zk2 xx := ziter_keep (fun x => zk2 x) _ (k2_fX10_modulo_2 ) nn ii xx
theorem k2q_fX10_modulo_48  (i13 : Nat) (z14 : zSt × Int64) : zk2f (fX10_modulo_48  i13 z14) = zk2 z14.1 := by
  unfold fX10_modulo_48
  (try dsimp only)
  all_goals (simp only [zW_2, zL_2, zk2f_mk]; done)
theorem k2_fX10_modulo_48  (i13 : Nat) (z14 : zSt × Int64) : zk2 (fX10_modulo_48  i13 z14).1 = zk2 z14.1 := k2q_fX10_modulo_48 i13 z14
theorem k2it_fX10_modulo_48  (nn ii : Nat) (xx : zSt × Int64) : zk2 (ziter (fX10_modulo_48 ) ii nn xx).1 = zk2 xx.1 := ziter_keep (fun x => zk2 x.1) _ (k2_fX10_modulo_48 ) nn ii xx
theorem k2_fX10_modulo_25  (i9 : Nat) (z10 : zSt) : zk2 (fX10_modulo_25  i9 z10) = zk2 z10 := by
  unfold fX10_modulo_25
  (try dsimp only)
  all_goals (simp only [zW_2, zL_2, k2_fX10_lessOrder, k2_fX10_modulo_48, k2q_fX10_modulo_48, k2it_fX10_modulo_48]; done)
theorem k2it_fX10_modulo_25  (nn : Nat) (xx : zSt) : zk2 (zdown (fX10_modulo_25 ) nn xx) = zk2 xx := zdown_keep (fun x => zk2 x) _ (k2_fX10_modulo_25 ) nn xx
theorem k2_fX10_modulo_117 (p : Nat) (i28 : Nat) (z29 : zSt) : zk2 (fX10_modulo_117 p i28 z29) = zk2 z29 := by
  unfold fX10_modulo_117
  (try dsimp only)
  all_goals (simp only [zW_2, zL_2]; done)
theorem k2it_fX10_modulo_117 (p : Nat) (nn ii : Nat) (xx : zSt) : zk2 (ziter (fX10_modulo_117 p) ii nn xx) = zk2 xx := ziter_keep (fun x => zk2 x) _ (k2_fX10_modulo_117 p) nn ii xx
theorem k2_fX10_modulo (p : Nat) (s0 : zSt) : zk2 (fX10_modulo p s0) = zk2 s0 := by
  unfold fX10_modulo
  (try dsimp only)
  all_goals (simp only [zW_2, zL_2, k2_fX10_modulo_117, k2_fX10_modulo_2, k2_fX10_modulo_25, k2it_fX10_modulo_117, k2it_fX10_modulo_2, k2it_fX10_modulo_25]; done)
theorem i2_fX10_modulo (p : Nat) (s0 : zSt) (kk9 : Nat) : (fX10_modulo p s0).2.2 kk9 = s0.2.2 kk9 := z2_I (k2_fX10_modulo p s0) kk9
theorem i3_fX10_modulo (p : Nat) (s0 : zSt) (kk9 : Nat) : zi (fX10_modulo p s0) kk9 = zi s0 kk9 := zi_of (k2_fX10_modulo p s0) kk9

def fX10_scalarOf_3  (i1 : Nat) (z2 : zSt) : zSt :=
    let t4 := zW z2 15 i1 ((0 : Int64))
    t4
def fX10_scalarOf_37 (a : Nat) (b : Nat) (i9 : Nat) (i12 : Nat) (z13 : zSt) : zSt :=
    let t15 := zW z13 15 (i9 + i12) ((z13.1 15 (i9 + i12)) + ((vX10_limb (z13.1 4 (a + (i9 / 4))) (i9 % 4) z13) * (vX10_limb (z13.1 4 (b + (i12 / 4))) (i12 % 4) z13)))
    t15
def fX10_scalarOf_27 (a : Nat) (b : Nat) (i9 : Nat) (z10 : zSt) : zSt :=
    let u18 := ziter (fX10_scalarOf_37 a b i9) 0 16 z10
    u18
def fX10_scalarOf_109 (e : Nat) (i24 : Nat) (z25 : zSt) : zSt :=
    let t27 := zW z25 15 i24 ((z25.1 15 i24) + (vX10_limb (z25.1 4 (e + (i24 / 4))) (i24 % 4) z25))
    t27
def fX10_scalarOf_154  (i32 : Nat) (z33 : zSt) : zSt :=
    let t35 := zW z33 15 (i32 + 1) ((z33.1 15 (i32 + 1)) + (zsr (z33.1 15 i32) 16))
    let t36 := zW t35 15 i32 ((t35.1 15 i32) &&& ((65535 : Int64)))
    t36
def fX10_scalarOf (p : Nat) (a : Nat) (b : Nat) (e : Nat) (s0 : zSt) : zSt :=
    let u7 := ziter fX10_scalarOf_3 0 40 s0
    let u22 := ziter (fX10_scalarOf_27 a b) 0 16 u7
    let u30 := ziter (fX10_scalarOf_109 e) 0 16 u22
    let u39 := ziter fX10_scalarOf_154 0 39 u30
    let t41 := fX10_modulo p u39
    t41
set_option maxHeartbeats 4000000 in
set_option maxRecDepth 100000 in
theorem k_X10_scalarOf (l : Launch) (D : va_G) (kc : Nat → ClassId) (ad : Nat → Nat) (p : Nat) (hp : p ≤ 60) (a : Nat) (ha : a ≤ 60) (b : Nat) (hb : b ≤ 60) (e : Nat) (he : e ≤ 60) (s0 : zSt) : zM l yX10_scalarOf cX10_scalarOf 7 none rX10_scalarOf (wM D kc ad) [.ref (zad (wM D kc ad) 17), .int (nI (p)), .int (nI (a)), .int (nI (b)), .int (nI (e))] s0 (zV0 (fX10_scalarOf p a b e s0)) := by
  refine z_of (own := RX10) (by decide +kernel) rfl (Nat.le_of_ble_eq_true rfl) ?_
  intro κ C R0
  refine j_at [(0, .ref (zad (wM D kc ad) 17)), (1, .int (nI (p))), (2, .int (nI (a))), (3, .int (nI (b))), (4, .int (nI (e)))] ⟨rfl, rfl, rfl, rfl, rfl, trivial⟩ ?_
  refine j_iconst (v := nI 0) C dX10_scalarOf_0 (by decide +kernel) ?_
  refine j_istore C dX10_scalarOf_1 (by decide) ?_
  refine j_at [(0, .ref (zad (wM D kc ad) 17)), (1, .int (nI (p))), (2, .int (nI (a))), (3, .int (nI (b))), (4, .int (nI (e))), (5, .int (nI (0)))] ⟨rfl, rfl, rfl, rfl, rfl, rfl, trivial⟩ ?_
  refine z_up (α := zSt) (fun (i1 : Nat) (z2 : zSt) => zJ κ (wM D kc ad) 3 (zlof [(0, .ref (zad (wM D kc ad) 17)), (1, .int (nI (p))), (2, .int (nI (a))), (3, .int (nI (b))), (4, .int (nI (e))), (5, .int (nI (i1)))]) [] z2) fX10_scalarOf_3 (fun _ _ => True) 40 ?_ (fun _ _ _ _ => trivial) 40 0 s0 (by omega) trivial ?_
  · intro i1 z2 hi1 hIi1 k0
    refine j_iload C dX10_scalarOf_3 rfl ?_
    refine j_bipush (v := nI 40) C dX10_scalarOf_5 (by decide +kernel) ?_
    refine j_icmp_geN (tgt := 24) C dX10_scalarOf_7 (by decide) (by omega) (by omega) (fun q3 => False.elim (by omega)) (fun q3 => ?_)
    refine j_aload_n C dX10_scalarOf_10 rfl rfl ?_
    refine j_getR C dX10_scalarOf_11 (fx_RX10_60 D kc ad) (Nat.zero_le _) (show 17 < 18 by decide) ?_
    refine j_iload C dX10_scalarOf_14 rfl ?_
    refine j_lconst (v := 0) C dX10_scalarOf_16 rfl ?_
    refine m_last C dX10_scalarOf_17 (⟨rfl, rfl, by decide, by decide⟩ : ma 40 15) (by omega) ?_
    refine j_nmS (fun t4 et4 => ?_)
    refine j_iincN (b := 1) C dX10_scalarOf_18 rfl (by decide +kernel) (by decide) ?_
    refine j_goto (tgt := 3) C dX10_scalarOf_21 (by decide) ?_
    refine j_nmS (fun t5 et5 => ?_)
    refine j_at [(0, .ref (zad (wM D kc ad) 17)), (1, .int (nI (p))), (2, .int (nI (a))), (3, .int (nI (b))), (4, .int (nI (e))), (5, .int (nI (i1 + 1)))] ⟨rfl, rfl, rfl, rfl, rfl, rfl, trivial⟩ ?_
    have eF : fX10_scalarOf_3 i1 z2 = t5 := by rw [et5]; (try rw [et4]); unfold fX10_scalarOf_3; first | done | (dsimp only; done) | rfl
    exact Eq.mp (congrArg (fun (z6 : zSt) => zJ κ (wM D kc ad) 3 (zlof [(0, .ref (zad (wM D kc ad) 17)), (1, .int (nI (p))), (2, .int (nI (a))), (3, .int (nI (b))), (4, .int (nI (e))), (5, .int (nI (i1 + 1)))]) [] z6) eF) (k0 trivial)
  · intro hIi1
    refine z_nm (P := fun (z2 : zSt) => zJ κ (wM D kc ad) 3 (zlof [(0, .ref (zad (wM D kc ad) 17)), (1, .int (nI (p))), (2, .int (nI (a))), (3, .int (nI (b))), (4, .int (nI (e))), (5, .int (nI (40)))]) [] z2) (fun u7 eu7 => ?_)
    refine j_iload C dX10_scalarOf_3 rfl ?_
    refine j_bipush (v := nI 40) C dX10_scalarOf_5 (by decide +kernel) ?_
    refine j_icmp_geN (tgt := 24) C dX10_scalarOf_7 (by decide) (by omega) (by omega) (fun q8 => ?_) (fun q8 => False.elim (by omega))
    refine j_iconst (v := nI 0) C dX10_scalarOf_24 (by decide +kernel) ?_
    refine j_istore C dX10_scalarOf_25 (by decide) ?_
    refine j_at [(0, .ref (zad (wM D kc ad) 17)), (1, .int (nI (p))), (2, .int (nI (a))), (3, .int (nI (b))), (4, .int (nI (e))), (5, .int (nI (0)))] ⟨rfl, rfl, rfl, rfl, rfl, rfl, trivial⟩ ?_
    refine z_up (α := zSt) (fun (i9 : Nat) (z10 : zSt) => zJ κ (wM D kc ad) 27 (zlof [(0, .ref (zad (wM D kc ad) 17)), (1, .int (nI (p))), (2, .int (nI (a))), (3, .int (nI (b))), (4, .int (nI (e))), (5, .int (nI (i9)))]) [] z10) (fX10_scalarOf_27 a b) (fun _ _ => True) 16 ?_ (fun _ _ _ _ => trivial) 16 0 u7 (by omega) trivial ?_
    · intro i9 z10 hi9 hIi9 k0
      refine j_iload C dX10_scalarOf_27 rfl ?_
      refine j_bipush (v := nI 16) C dX10_scalarOf_29 (by decide +kernel) ?_
      refine j_icmp_geN (tgt := 106) C dX10_scalarOf_31 (by decide) (by omega) (by omega) (fun q11 => False.elim (by omega)) (fun q11 => ?_)
      refine j_iconst (v := nI 0) C dX10_scalarOf_34 (by decide +kernel) ?_
      refine j_istore C dX10_scalarOf_35 (by decide) ?_
      refine j_at [(0, .ref (zad (wM D kc ad) 17)), (1, .int (nI (p))), (2, .int (nI (a))), (3, .int (nI (b))), (4, .int (nI (e))), (5, .int (nI (i9))), (6, .int (nI (0)))] ⟨rfl, rfl, rfl, rfl, rfl, rfl, rfl, trivial⟩ ?_
      refine z_up (α := zSt) (fun (i12 : Nat) (z13 : zSt) => zJ κ (wM D kc ad) 37 (zlof [(0, .ref (zad (wM D kc ad) 17)), (1, .int (nI (p))), (2, .int (nI (a))), (3, .int (nI (b))), (4, .int (nI (e))), (5, .int (nI (i9))), (6, .int (nI (i12)))]) [] z13) (fX10_scalarOf_37 a b i9) (fun _ _ => True) 16 ?_ (fun _ _ _ _ => trivial) 16 0 z10 (by omega) trivial ?_
      · intro i12 z13 hi12 hIi12 k0
        refine j_iload C dX10_scalarOf_37 rfl ?_
        refine j_bipush (v := nI 16) C dX10_scalarOf_39 (by decide +kernel) ?_
        refine j_icmp_geN (tgt := 100) C dX10_scalarOf_41 (by decide) (by omega) (by omega) (fun q14 => False.elim (by omega)) (fun q14 => ?_)
        refine j_aload_n C dX10_scalarOf_44 rfl rfl ?_
        refine j_getR C dX10_scalarOf_45 (fx_RX10_60 D kc ad) (Nat.zero_le _) (show 17 < 18 by decide) ?_
        refine j_iload C dX10_scalarOf_48 rfl ?_
        refine j_iload C dX10_scalarOf_50 rfl ?_
        refine j_iaddN C dX10_scalarOf_52 ?_
        refine j_dup2 C dX10_scalarOf_53 rfl rfl ?_
        refine m_lald C dX10_scalarOf_54 (⟨rfl, rfl, by decide, by decide⟩ : ma 40 15) (by omega) ?_
        refine j_aload_n C dX10_scalarOf_55 rfl rfl ?_
        refine j_getR C dX10_scalarOf_56 (fx_RX10_27 D kc ad) (Nat.zero_le _) (show 17 < 18 by decide) ?_
        refine j_iload_n C dX10_scalarOf_59 rfl rfl ?_
        refine j_iload C dX10_scalarOf_60 rfl ?_
        refine j_iconst (v := nI 4) C dX10_scalarOf_62 (by decide +kernel) ?_
        refine j_idivN C dX10_scalarOf_63 (by omega) (by decide) (by decide) ?_
        refine j_iaddN C dX10_scalarOf_64 ?_
        refine m_lald C dX10_scalarOf_65 (⟨rfl, rfl, by decide, by decide⟩ : ma 64 4) (by omega) ?_
        refine j_iload C dX10_scalarOf_66 rfl ?_
        refine j_iconst (v := nI 4) C dX10_scalarOf_68 (by decide +kernel) ?_
        refine j_iremN C dX10_scalarOf_69 (by omega) (by decide) (by decide) ?_
        refine j_callS1 C dX10_scalarOf_70 (k_X10_limb l D kc ad (z13.1 4 (a + (i9 / 4))) (i9 % 4) (by omega) _ ) zy_X10_limb mw_25_14 rfl rfl (Nat.le_of_ble_eq_true rfl) ⟨rfl, rfl, Nat.le_of_ble_eq_true rfl, Nat.le_of_ble_eq_true rfl⟩ ?_
        refine j_aload_n C dX10_scalarOf_73 rfl rfl ?_
        refine j_getR C dX10_scalarOf_74 (fx_RX10_27 D kc ad) (Nat.zero_le _) (show 17 < 18 by decide) ?_
        refine j_iload_n C dX10_scalarOf_77 rfl rfl ?_
        refine j_iload C dX10_scalarOf_78 rfl ?_
        refine j_iconst (v := nI 4) C dX10_scalarOf_80 (by decide +kernel) ?_
        refine j_idivN C dX10_scalarOf_81 (by omega) (by decide) (by decide) ?_
        refine j_iaddN C dX10_scalarOf_82 ?_
        refine m_lald C dX10_scalarOf_83 (⟨rfl, rfl, by decide, by decide⟩ : ma 64 4) (by omega) ?_
        refine j_iload C dX10_scalarOf_84 rfl ?_
        refine j_iconst (v := nI 4) C dX10_scalarOf_86 (by decide +kernel) ?_
        refine j_iremN C dX10_scalarOf_87 (by omega) (by decide) (by decide) ?_
        refine j_callS1 C dX10_scalarOf_88 (k_X10_limb l D kc ad (z13.1 4 (b + (i12 / 4))) (i12 % 4) (by omega) _ ) zy_X10_limb mw_25_14 rfl rfl (Nat.le_of_ble_eq_true rfl) ⟨rfl, rfl, Nat.le_of_ble_eq_true rfl, Nat.le_of_ble_eq_true rfl⟩ ?_
        refine j_lmul C dX10_scalarOf_91 ?_
        refine j_ladd C dX10_scalarOf_92 ?_
        refine m_last C dX10_scalarOf_93 (⟨rfl, rfl, by decide, by decide⟩ : ma 40 15) (by omega) ?_
        refine j_nmS (fun t15 et15 => ?_)
        refine j_iincN (b := 1) C dX10_scalarOf_94 rfl (by decide +kernel) (by decide) ?_
        refine j_goto (tgt := 37) C dX10_scalarOf_97 (by decide) ?_
        refine j_nmS (fun t16 et16 => ?_)
        refine j_at [(0, .ref (zad (wM D kc ad) 17)), (1, .int (nI (p))), (2, .int (nI (a))), (3, .int (nI (b))), (4, .int (nI (e))), (5, .int (nI (i9))), (6, .int (nI (i12 + 1)))] ⟨rfl, rfl, rfl, rfl, rfl, rfl, rfl, trivial⟩ ?_
        have eF : (fX10_scalarOf_37 a b i9) i12 z13 = t16 := by rw [et16]; (try rw [et15]); unfold fX10_scalarOf_37; first | done | (dsimp only; done) | rfl
        exact Eq.mp (congrArg (fun (z17 : zSt) => zJ κ (wM D kc ad) 37 (zlof [(0, .ref (zad (wM D kc ad) 17)), (1, .int (nI (p))), (2, .int (nI (a))), (3, .int (nI (b))), (4, .int (nI (e))), (5, .int (nI (i9))), (6, .int (nI (i12 + 1)))]) [] z17) eF) (k0 trivial)
      · intro hIi12
        refine z_nm (P := fun (z13 : zSt) => zJ κ (wM D kc ad) 37 (zlof [(0, .ref (zad (wM D kc ad) 17)), (1, .int (nI (p))), (2, .int (nI (a))), (3, .int (nI (b))), (4, .int (nI (e))), (5, .int (nI (i9))), (6, .int (nI (16)))]) [] z13) (fun u18 eu18 => ?_)
        refine j_iload C dX10_scalarOf_37 rfl ?_
        refine j_bipush (v := nI 16) C dX10_scalarOf_39 (by decide +kernel) ?_
        refine j_icmp_geN (tgt := 100) C dX10_scalarOf_41 (by decide) (by omega) (by omega) (fun q19 => ?_) (fun q19 => False.elim (by omega))
        refine j_iincN (b := 1) C dX10_scalarOf_100 rfl (by decide +kernel) (by decide) ?_
        refine j_goto (tgt := 27) C dX10_scalarOf_103 (by decide) ?_
        refine j_nmS (fun t20 et20 => ?_)
        refine j_at [(0, .ref (zad (wM D kc ad) 17)), (1, .int (nI (p))), (2, .int (nI (a))), (3, .int (nI (b))), (4, .int (nI (e))), (5, .int (nI (i9 + 1)))] ⟨rfl, rfl, rfl, rfl, rfl, rfl, trivial⟩ ?_
        have eF : (fX10_scalarOf_27 a b) i9 z10 = t20 := by rw [et20]; (try rw [eu18]); unfold fX10_scalarOf_27; first | done | (dsimp only; done) | rfl
        exact Eq.mp (congrArg (fun (z21 : zSt) => zJ κ (wM D kc ad) 27 (zlof [(0, .ref (zad (wM D kc ad) 17)), (1, .int (nI (p))), (2, .int (nI (a))), (3, .int (nI (b))), (4, .int (nI (e))), (5, .int (nI (i9 + 1)))]) [] z21) eF) (k0 trivial)
    · intro hIi9
      refine z_nm (P := fun (z10 : zSt) => zJ κ (wM D kc ad) 27 (zlof [(0, .ref (zad (wM D kc ad) 17)), (1, .int (nI (p))), (2, .int (nI (a))), (3, .int (nI (b))), (4, .int (nI (e))), (5, .int (nI (16)))]) [] z10) (fun u22 eu22 => ?_)
      refine j_iload C dX10_scalarOf_27 rfl ?_
      refine j_bipush (v := nI 16) C dX10_scalarOf_29 (by decide +kernel) ?_
      refine j_icmp_geN (tgt := 106) C dX10_scalarOf_31 (by decide) (by omega) (by omega) (fun q23 => ?_) (fun q23 => False.elim (by omega))
      refine j_iconst (v := nI 0) C dX10_scalarOf_106 (by decide +kernel) ?_
      refine j_istore C dX10_scalarOf_107 (by decide) ?_
      refine j_at [(0, .ref (zad (wM D kc ad) 17)), (1, .int (nI (p))), (4, .int (nI (e))), (5, .int (nI (0)))] ⟨rfl, rfl, rfl, rfl, trivial⟩ ?_
      refine z_up (α := zSt) (fun (i24 : Nat) (z25 : zSt) => zJ κ (wM D kc ad) 109 (zlof [(0, .ref (zad (wM D kc ad) 17)), (1, .int (nI (p))), (4, .int (nI (e))), (5, .int (nI (i24)))]) [] z25) (fX10_scalarOf_109 e) (fun _ _ => True) 16 ?_ (fun _ _ _ _ => trivial) 16 0 u22 (by omega) trivial ?_
      · intro i24 z25 hi24 hIi24 k0
        refine j_iload C dX10_scalarOf_109 rfl ?_
        refine j_bipush (v := nI 16) C dX10_scalarOf_111 (by decide +kernel) ?_
        refine j_icmp_geN (tgt := 151) C dX10_scalarOf_113 (by decide) (by omega) (by omega) (fun q26 => False.elim (by omega)) (fun q26 => ?_)
        refine j_aload_n C dX10_scalarOf_116 rfl rfl ?_
        refine j_getR C dX10_scalarOf_117 (fx_RX10_60 D kc ad) (Nat.zero_le _) (show 17 < 18 by decide) ?_
        refine j_iload C dX10_scalarOf_120 rfl ?_
        refine j_dup2 C dX10_scalarOf_122 rfl rfl ?_
        refine m_lald C dX10_scalarOf_123 (⟨rfl, rfl, by decide, by decide⟩ : ma 40 15) (by omega) ?_
        refine j_aload_n C dX10_scalarOf_124 rfl rfl ?_
        refine j_getR C dX10_scalarOf_125 (fx_RX10_27 D kc ad) (Nat.zero_le _) (show 17 < 18 by decide) ?_
        refine j_iload C dX10_scalarOf_128 rfl ?_
        refine j_iload C dX10_scalarOf_130 rfl ?_
        refine j_iconst (v := nI 4) C dX10_scalarOf_132 (by decide +kernel) ?_
        refine j_idivN C dX10_scalarOf_133 (by omega) (by decide) (by decide) ?_
        refine j_iaddN C dX10_scalarOf_134 ?_
        refine m_lald C dX10_scalarOf_135 (⟨rfl, rfl, by decide, by decide⟩ : ma 64 4) (by omega) ?_
        refine j_iload C dX10_scalarOf_136 rfl ?_
        refine j_iconst (v := nI 4) C dX10_scalarOf_138 (by decide +kernel) ?_
        refine j_iremN C dX10_scalarOf_139 (by omega) (by decide) (by decide) ?_
        refine j_callS1 C dX10_scalarOf_140 (k_X10_limb l D kc ad (z25.1 4 (e + (i24 / 4))) (i24 % 4) (by omega) _ ) zy_X10_limb mw_25_14 rfl rfl (Nat.le_of_ble_eq_true rfl) ⟨rfl, rfl, Nat.le_of_ble_eq_true rfl, Nat.le_of_ble_eq_true rfl⟩ ?_
        refine j_ladd C dX10_scalarOf_143 ?_
        refine m_last C dX10_scalarOf_144 (⟨rfl, rfl, by decide, by decide⟩ : ma 40 15) (by omega) ?_
        refine j_nmS (fun t27 et27 => ?_)
        refine j_iincN (b := 1) C dX10_scalarOf_145 rfl (by decide +kernel) (by decide) ?_
        refine j_goto (tgt := 109) C dX10_scalarOf_148 (by decide) ?_
        refine j_nmS (fun t28 et28 => ?_)
        refine j_at [(0, .ref (zad (wM D kc ad) 17)), (1, .int (nI (p))), (4, .int (nI (e))), (5, .int (nI (i24 + 1)))] ⟨rfl, rfl, rfl, rfl, trivial⟩ ?_
        have eF : (fX10_scalarOf_109 e) i24 z25 = t28 := by rw [et28]; (try rw [et27]); unfold fX10_scalarOf_109; first | done | (dsimp only; done) | rfl
        exact Eq.mp (congrArg (fun (z29 : zSt) => zJ κ (wM D kc ad) 109 (zlof [(0, .ref (zad (wM D kc ad) 17)), (1, .int (nI (p))), (4, .int (nI (e))), (5, .int (nI (i24 + 1)))]) [] z29) eF) (k0 trivial)
      · intro hIi24
        refine z_nm (P := fun (z25 : zSt) => zJ κ (wM D kc ad) 109 (zlof [(0, .ref (zad (wM D kc ad) 17)), (1, .int (nI (p))), (4, .int (nI (e))), (5, .int (nI (16)))]) [] z25) (fun u30 eu30 => ?_)
        refine j_iload C dX10_scalarOf_109 rfl ?_
        refine j_bipush (v := nI 16) C dX10_scalarOf_111 (by decide +kernel) ?_
        refine j_icmp_geN (tgt := 151) C dX10_scalarOf_113 (by decide) (by omega) (by omega) (fun q31 => ?_) (fun q31 => False.elim (by omega))
        refine j_iconst (v := nI 0) C dX10_scalarOf_151 (by decide +kernel) ?_
        refine j_istore C dX10_scalarOf_152 (by decide) ?_
        refine j_at [(0, .ref (zad (wM D kc ad) 17)), (1, .int (nI (p))), (5, .int (nI (0)))] ⟨rfl, rfl, rfl, trivial⟩ ?_
        refine z_up (α := zSt) (fun (i32 : Nat) (z33 : zSt) => zJ κ (wM D kc ad) 154 (zlof [(0, .ref (zad (wM D kc ad) 17)), (1, .int (nI (p))), (5, .int (nI (i32)))]) [] z33) fX10_scalarOf_154 (fun _ _ => True) 39 ?_ (fun _ _ _ _ => trivial) 39 0 u30 (by omega) trivial ?_
        · intro i32 z33 hi32 hIi32 k0
          refine j_iload C dX10_scalarOf_154 rfl ?_
          refine j_bipush (v := nI 39) C dX10_scalarOf_156 (by decide +kernel) ?_
          refine j_icmp_geN (tgt := 202) C dX10_scalarOf_158 (by decide) (by omega) (by omega) (fun q34 => False.elim (by omega)) (fun q34 => ?_)
          refine j_aload_n C dX10_scalarOf_161 rfl rfl ?_
          refine j_getR C dX10_scalarOf_162 (fx_RX10_60 D kc ad) (Nat.zero_le _) (show 17 < 18 by decide) ?_
          refine j_iload C dX10_scalarOf_165 rfl ?_
          refine j_iconst (v := nI 1) C dX10_scalarOf_167 (by decide +kernel) ?_
          refine j_iaddN C dX10_scalarOf_168 ?_
          refine j_dup2 C dX10_scalarOf_169 rfl rfl ?_
          refine m_lald C dX10_scalarOf_170 (⟨rfl, rfl, by decide, by decide⟩ : ma 40 15) (by omega) ?_
          refine j_aload_n C dX10_scalarOf_171 rfl rfl ?_
          refine j_getR C dX10_scalarOf_172 (fx_RX10_60 D kc ad) (Nat.zero_le _) (show 17 < 18 by decide) ?_
          refine j_iload C dX10_scalarOf_175 rfl ?_
          refine m_lald C dX10_scalarOf_177 (⟨rfl, rfl, by decide, by decide⟩ : ma 40 15) (by omega) ?_
          refine j_bipush (v := nI 16) C dX10_scalarOf_178 (by decide +kernel) ?_
          refine j_lshr C dX10_scalarOf_180 (by omega) ?_
          refine j_ladd C dX10_scalarOf_181 ?_
          refine m_last C dX10_scalarOf_182 (⟨rfl, rfl, by decide, by decide⟩ : ma 40 15) (by omega) ?_
          refine j_nmS (fun t35 et35 => ?_)
          refine j_aload_n C dX10_scalarOf_183 rfl rfl ?_
          refine j_getR C dX10_scalarOf_184 (fx_RX10_60 D kc ad) (Nat.zero_le _) (show 17 < 18 by decide) ?_
          refine j_iload C dX10_scalarOf_187 rfl ?_
          refine j_dup2 C dX10_scalarOf_189 rfl rfl ?_
          refine m_lald C dX10_scalarOf_190 (⟨rfl, rfl, by decide, by decide⟩ : ma 40 15) (by omega) ?_
          refine j_ldc2 C dX10_scalarOf_191 mw_10_19 ?_
          refine j_land C dX10_scalarOf_194 ?_
          refine m_last C dX10_scalarOf_195 (⟨rfl, rfl, by decide, by decide⟩ : ma 40 15) (by omega) ?_
          refine j_nmS (fun t36 et36 => ?_)
          refine j_iincN (b := 1) C dX10_scalarOf_196 rfl (by decide +kernel) (by decide) ?_
          refine j_goto (tgt := 154) C dX10_scalarOf_199 (by decide) ?_
          refine j_nmS (fun t37 et37 => ?_)
          refine j_at [(0, .ref (zad (wM D kc ad) 17)), (1, .int (nI (p))), (5, .int (nI (i32 + 1)))] ⟨rfl, rfl, rfl, trivial⟩ ?_
          have eF : fX10_scalarOf_154 i32 z33 = t37 := by rw [et37]; (try rw [et36]); (try rw [et35]); unfold fX10_scalarOf_154; first | done | (dsimp only; done) | rfl
          exact Eq.mp (congrArg (fun (z38 : zSt) => zJ κ (wM D kc ad) 154 (zlof [(0, .ref (zad (wM D kc ad) 17)), (1, .int (nI (p))), (5, .int (nI (i32 + 1)))]) [] z38) eF) (k0 trivial)
        · intro hIi32
          refine z_nm (P := fun (z33 : zSt) => zJ κ (wM D kc ad) 154 (zlof [(0, .ref (zad (wM D kc ad) 17)), (1, .int (nI (p))), (5, .int (nI (39)))]) [] z33) (fun u39 eu39 => ?_)
          refine j_iload C dX10_scalarOf_154 rfl ?_
          refine j_bipush (v := nI 39) C dX10_scalarOf_156 (by decide +kernel) ?_
          refine j_icmp_geN (tgt := 202) C dX10_scalarOf_158 (by decide) (by omega) (by omega) (fun q40 => ?_) (fun q40 => False.elim (by omega))
          refine j_aload_n C dX10_scalarOf_202 rfl rfl ?_
          refine j_iload_n C dX10_scalarOf_203 rfl rfl ?_
          refine j_callV0 (T := TX10) (N := 23) C dX10_scalarOf_204 (k_X10_modulo l D kc ad p (by omega) _ ) zy_X10_modulo mw_25_17 rfl rfl (Nat.zero_le _) (show 17 < 18 by decide) rfl rfl (Nat.le_of_ble_eq_true rfl) ⟨rfl, rfl, Nat.le_of_ble_eq_true rfl, Nat.le_of_ble_eq_true rfl⟩ ?_
          refine j_nmS (fun t41 et41 => ?_)
          exact j_vret (st := []) C R0 dX10_scalarOf_207 ⟨rfl, (by (try rw [et41]); (try rw [eu39]); (try rw [eu30]); (try rw [eu22]); (try rw [eu7]); unfold fX10_scalarOf; (try dsimp only); all_goals ((try simp only [zfst_mk, zsnd_mk]); all_goals rfl))⟩
theorem k2_fX10_scalarOf_3  (i1 : Nat) (z2 : zSt) : zk2 (fX10_scalarOf_3  i1 z2) = zk2 z2 := by
  unfold fX10_scalarOf_3
  (try dsimp only)
  all_goals (simp only [zW_2, zL_2]; done)
theorem k2it_fX10_scalarOf_3  (nn ii : Nat) (xx : zSt) : zk2 (ziter (fX10_scalarOf_3 ) ii nn xx) = zk2 xx := ziter_keep (fun x => zk2 x) _ (k2_fX10_scalarOf_3 ) nn ii xx
theorem k2_fX10_scalarOf_37 (a : Nat) (b : Nat) (i9 : Nat) (i12 : Nat) (z13 : zSt) : zk2 (fX10_scalarOf_37 a b i9 i12 z13) = zk2 z13 := by
  unfold fX10_scalarOf_37
  (try dsimp only)
  all_goals (simp only [zW_2, zL_2]; done)
theorem k2it_fX10_scalarOf_37 (a : Nat) (b : Nat) (i9 : Nat) (nn ii : Nat) (xx : zSt) : zk2 (ziter (fX10_scalarOf_37 a b i9) ii nn xx) = zk2 xx := ziter_keep (fun x => zk2 x) _ (k2_fX10_scalarOf_37 a b i9) nn ii xx
theorem k2_fX10_scalarOf_27 (a : Nat) (b : Nat) (i9 : Nat) (z10 : zSt) : zk2 (fX10_scalarOf_27 a b i9 z10) = zk2 z10 := by
  unfold fX10_scalarOf_27
  (try dsimp only)
  all_goals (simp only [zW_2, zL_2, k2_fX10_scalarOf_37, k2it_fX10_scalarOf_37]; done)
theorem k2it_fX10_scalarOf_27 (a : Nat) (b : Nat) (nn ii : Nat) (xx : zSt) : zk2 (ziter (fX10_scalarOf_27 a b) ii nn xx) = zk2 xx := ziter_keep (fun x => zk2 x) _ (k2_fX10_scalarOf_27 a b) nn ii xx
theorem k2_fX10_scalarOf_109 (e : Nat) (i24 : Nat) (z25 : zSt) : zk2 (fX10_scalarOf_109 e i24 z25) = zk2 z25 := by
  unfold fX10_scalarOf_109
  (try dsimp only)
  all_goals (simp only [zW_2, zL_2]; done)
theorem k2it_fX10_scalarOf_109 (e : Nat) (nn ii : Nat) (xx : zSt) : zk2 (ziter (fX10_scalarOf_109 e) ii nn xx) = zk2 xx := ziter_keep (fun x => zk2 x) _ (k2_fX10_scalarOf_109 e) nn ii xx
theorem k2_fX10_scalarOf_154  (i32 : Nat) (z33 : zSt) : zk2 (fX10_scalarOf_154  i32 z33) = zk2 z33 := by
  unfold fX10_scalarOf_154
  (try dsimp only)
  all_goals (simp only [zW_2, zL_2]; done)
theorem k2it_fX10_scalarOf_154  (nn ii : Nat) (xx : zSt) : zk2 (ziter (fX10_scalarOf_154 ) ii nn xx) = zk2 xx := ziter_keep (fun x => zk2 x) _ (k2_fX10_scalarOf_154 ) nn ii xx
theorem k2_fX10_scalarOf (p : Nat) (a : Nat) (b : Nat) (e : Nat) (s0 : zSt) : zk2 (fX10_scalarOf p a b e s0) = zk2 s0 := by
  unfold fX10_scalarOf
  (try dsimp only)
  all_goals (simp only [zW_2, zL_2, k2_fX10_modulo, k2_fX10_scalarOf_109, k2_fX10_scalarOf_154, k2_fX10_scalarOf_27, k2_fX10_scalarOf_3, k2it_fX10_scalarOf_109, k2it_fX10_scalarOf_154, k2it_fX10_scalarOf_27, k2it_fX10_scalarOf_3]; done)
theorem i2_fX10_scalarOf (p : Nat) (a : Nat) (b : Nat) (e : Nat) (s0 : zSt) (kk9 : Nat) : (fX10_scalarOf p a b e s0).2.2 kk9 = s0.2.2 kk9 := z2_I (k2_fX10_scalarOf p a b e s0) kk9
theorem i3_fX10_scalarOf (p : Nat) (a : Nat) (b : Nat) (e : Nat) (s0 : zSt) (kk9 : Nat) : zi (fX10_scalarOf p a b e s0) kk9 = zi s0 kk9 := zi_of (k2_fX10_scalarOf p a b e s0) kk9

def fX10_digestScalar_a1 (i1 : Nat) (z2 : zSt) : zSt :=
    let t6 := zW z2 15 i1 ((0 : Int64))
    t6
def fX10_digestScalar_a2 (i1 : Nat) (z2 : zSt) : zSt :=
    let t10 := zW z2 15 i1 (((z2.2.1 14 (2 * i1)) ||| ((z2.2.1 14 ((2 * i1) + 1)) <<< ((nI (8)) &&& 31))).toInt64)
    t10
def fX10_digestScalar_2  (i1 : Nat) (z2 : zSt) : zSt :=
    if 32 ≤ i1 then
      fX10_digestScalar_a1 i1 z2
    else
      fX10_digestScalar_a2 i1 z2
def fX10_digestScalar (p : Nat) (s0 : zSt) : zSt :=
    let u13 := ziter fX10_digestScalar_2 0 40 s0
    let t15 := fX10_modulo p u13
    t15
set_option maxHeartbeats 4000000 in
set_option maxRecDepth 100000 in
theorem k_X10_digestScalar (l : Launch) (D : va_G) (kc : Nat → ClassId) (ad : Nat → Nat) (p : Nat) (hp : p ≤ 60) (s0 : zSt) : zM l yX10_digestScalar cX10_digestScalar 3 none rX10_digestScalar (wM D kc ad) [.ref (zad (wM D kc ad) 17), .int (nI (p))] s0 (zV0 (fX10_digestScalar p s0)) := by
  refine z_of (own := RX10) (by decide +kernel) rfl (Nat.le_of_ble_eq_true rfl) ?_
  intro κ C R0
  refine j_at [(0, .ref (zad (wM D kc ad) 17)), (1, .int (nI (p)))] ⟨rfl, rfl, trivial⟩ ?_
  refine j_iconst (v := nI 0) C dX10_digestScalar_0 (by decide +kernel) ?_
  refine j_istore_n C dX10_digestScalar_1 rfl (by decide) ?_
  refine j_at [(0, .ref (zad (wM D kc ad) 17)), (1, .int (nI (p))), (2, .int (nI (0)))] ⟨rfl, rfl, rfl, trivial⟩ ?_
  refine z_up (α := zSt) (fun (i1 : Nat) (z2 : zSt) => zJ κ (wM D kc ad) 2 (zlof [(0, .ref (zad (wM D kc ad) 17)), (1, .int (nI (p))), (2, .int (nI (i1)))]) [] z2) fX10_digestScalar_2 (fun _ _ => True) 40 ?_ (fun _ _ _ _ => trivial) 40 0 s0 (by omega) trivial ?_
  · intro i1 z2 hi1 hIi1 k0
    refine j_iload_n C dX10_digestScalar_2 rfl rfl ?_
    refine j_bipush (v := nI 40) C dX10_digestScalar_3 (by decide +kernel) ?_
    refine j_icmp_geN (tgt := 53) C dX10_digestScalar_5 (by decide) (by omega) (by omega) (fun q3 => False.elim (by omega)) (fun q3 => ?_)
    refine j_aload_n C dX10_digestScalar_8 rfl rfl ?_
    refine j_getR C dX10_digestScalar_9 (fx_RX10_60 D kc ad) (Nat.zero_le _) (show 17 < 18 by decide) ?_
    refine j_iload_n C dX10_digestScalar_12 rfl rfl ?_
    refine j_iload_n C dX10_digestScalar_13 rfl rfl ?_
    refine j_bipush (v := nI 32) C dX10_digestScalar_14 (by decide +kernel) ?_
    refine j_icmp_geN (tgt := 45) C dX10_digestScalar_16 (by decide) (by omega) (by omega) (fun q4 => ?_) (fun q4 => ?_)
    · have hA5 : fX10_digestScalar_2 i1 z2 = fX10_digestScalar_a1 i1 z2 := by have q4z := q4; (try dsimp only at q4z); unfold fX10_digestScalar_2; (try dsimp only); rw [if_pos q4z]; (try rfl)
      refine j_lconst (v := 0) C dX10_digestScalar_45 rfl ?_
      refine m_last C dX10_digestScalar_46 (⟨rfl, rfl, by decide, by decide⟩ : ma 40 15) (by omega) ?_
      refine j_nmS (fun t6 et6 => ?_)
      refine j_iincN (b := 1) C dX10_digestScalar_47 rfl (by decide +kernel) (by decide) ?_
      refine j_goto (tgt := 2) C dX10_digestScalar_50 (by decide) ?_
      refine j_nmS (fun t7 et7 => ?_)
      refine j_at [(0, .ref (zad (wM D kc ad) 17)), (1, .int (nI (p))), (2, .int (nI (i1 + 1)))] ⟨rfl, rfl, rfl, trivial⟩ ?_
      have eF : fX10_digestScalar_2 i1 z2 = t7 := by rw [hA5]; rw [et7]; (try rw [et6]); unfold fX10_digestScalar_a1; first | done | (dsimp only; done) | rfl
      exact Eq.mp (congrArg (fun (z8 : zSt) => zJ κ (wM D kc ad) 2 (zlof [(0, .ref (zad (wM D kc ad) 17)), (1, .int (nI (p))), (2, .int (nI (i1 + 1)))]) [] z8) eF) (k0 trivial)
    · have hA9 : fX10_digestScalar_2 i1 z2 = fX10_digestScalar_a2 i1 z2 := by have q4z : ¬ (32 ≤ i1) := (by omega); (try dsimp only at q4z); unfold fX10_digestScalar_2; (try dsimp only); rw [if_neg q4z]; (try rfl)
      refine j_aload_n C dX10_digestScalar_19 rfl rfl ?_
      refine j_getR C dX10_digestScalar_20 (fx_RX10_57 D kc ad) (Nat.zero_le _) (show 17 < 18 by decide) ?_
      refine j_iconst (v := nI 2) C dX10_digestScalar_23 (by decide +kernel) ?_
      refine j_iload_n C dX10_digestScalar_24 rfl rfl ?_
      refine j_imulN C dX10_digestScalar_25 ?_
      refine m_iald C dX10_digestScalar_26 (⟨rfl, rfl, by decide, by decide⟩ : mi 64 14) (by omega) ?_
      refine j_aload_n C dX10_digestScalar_27 rfl rfl ?_
      refine j_getR C dX10_digestScalar_28 (fx_RX10_57 D kc ad) (Nat.zero_le _) (show 17 < 18 by decide) ?_
      refine j_iconst (v := nI 2) C dX10_digestScalar_31 (by decide +kernel) ?_
      refine j_iload_n C dX10_digestScalar_32 rfl rfl ?_
      refine j_imulN C dX10_digestScalar_33 ?_
      refine j_iconst (v := nI 1) C dX10_digestScalar_34 (by decide +kernel) ?_
      refine j_iaddN C dX10_digestScalar_35 ?_
      refine m_iald C dX10_digestScalar_36 (⟨rfl, rfl, by decide, by decide⟩ : mi 64 14) (by omega) ?_
      refine j_bipush (v := nI 8) C dX10_digestScalar_37 (by decide +kernel) ?_
      refine j_ishl C dX10_digestScalar_39 ?_
      refine j_ior C dX10_digestScalar_40 ?_
      refine j_i2l C dX10_digestScalar_41 ?_
      refine j_goto (tgt := 46) C dX10_digestScalar_42 (by decide) ?_
      refine m_last C dX10_digestScalar_46 (⟨rfl, rfl, by decide, by decide⟩ : ma 40 15) (by omega) ?_
      refine j_nmS (fun t10 et10 => ?_)
      refine j_iincN (b := 1) C dX10_digestScalar_47 rfl (by decide +kernel) (by decide) ?_
      refine j_goto (tgt := 2) C dX10_digestScalar_50 (by decide) ?_
      refine j_nmS (fun t11 et11 => ?_)
      refine j_at [(0, .ref (zad (wM D kc ad) 17)), (1, .int (nI (p))), (2, .int (nI (i1 + 1)))] ⟨rfl, rfl, rfl, trivial⟩ ?_
      have eF : fX10_digestScalar_2 i1 z2 = t11 := by rw [hA9]; rw [et11]; (try rw [et10]); unfold fX10_digestScalar_a2; first | done | (dsimp only; done) | rfl
      exact Eq.mp (congrArg (fun (z12 : zSt) => zJ κ (wM D kc ad) 2 (zlof [(0, .ref (zad (wM D kc ad) 17)), (1, .int (nI (p))), (2, .int (nI (i1 + 1)))]) [] z12) eF) (k0 trivial)
  · intro hIi1
    refine z_nm (P := fun (z2 : zSt) => zJ κ (wM D kc ad) 2 (zlof [(0, .ref (zad (wM D kc ad) 17)), (1, .int (nI (p))), (2, .int (nI (40)))]) [] z2) (fun u13 eu13 => ?_)
    refine j_iload_n C dX10_digestScalar_2 rfl rfl ?_
    refine j_bipush (v := nI 40) C dX10_digestScalar_3 (by decide +kernel) ?_
    refine j_icmp_geN (tgt := 53) C dX10_digestScalar_5 (by decide) (by omega) (by omega) (fun q14 => ?_) (fun q14 => False.elim (by omega))
    refine j_aload_n C dX10_digestScalar_53 rfl rfl ?_
    refine j_iload_n C dX10_digestScalar_54 rfl rfl ?_
    refine j_callV0 (T := TX10) (N := 23) C dX10_digestScalar_55 (k_X10_modulo l D kc ad p (by omega) _ ) zy_X10_modulo mw_25_17 rfl rfl (Nat.zero_le _) (show 17 < 18 by decide) rfl rfl (Nat.le_of_ble_eq_true rfl) ⟨rfl, rfl, Nat.le_of_ble_eq_true rfl, Nat.le_of_ble_eq_true rfl⟩ ?_
    refine j_nmS (fun t15 et15 => ?_)
    exact j_vret (st := []) C R0 dX10_digestScalar_58 ⟨rfl, (by (try rw [et15]); (try rw [eu13]); unfold fX10_digestScalar; (try dsimp only); all_goals ((try simp only [zfst_mk, zsnd_mk]); all_goals rfl))⟩
theorem k2_fX10_digestScalar_a1 (i1 : Nat) (z2 : zSt) : zk2 (fX10_digestScalar_a1 i1 z2) = zk2 z2 := by
  unfold fX10_digestScalar_a1
  (try dsimp only)
  all_goals (simp only [zW_2, zL_2]; done)
theorem k2_fX10_digestScalar_a2 (i1 : Nat) (z2 : zSt) : zk2 (fX10_digestScalar_a2 i1 z2) = zk2 z2 := by
  unfold fX10_digestScalar_a2
  (try dsimp only)
  all_goals (simp only [zW_2, zL_2]; done)
theorem k2_fX10_digestScalar_2  (i1 : Nat) (z2 : zSt) : zk2 (fX10_digestScalar_2  i1 z2) = zk2 z2 := by
  unfold fX10_digestScalar_2
  (try dsimp only)
  all_goals (refine ite_keep (fun r : zSt => zk2 r) _ _ ?_ ?_ <;> (simp only [zW_2, zL_2, k2_fX10_digestScalar_a1, k2_fX10_digestScalar_a2]; done))
theorem k2it_fX10_digestScalar_2  (nn ii : Nat) (xx : zSt) : zk2 (ziter (fX10_digestScalar_2 ) ii nn xx) = zk2 xx := ziter_keep (fun x => zk2 x) _ (k2_fX10_digestScalar_2 ) nn ii xx
theorem k2_fX10_digestScalar (p : Nat) (s0 : zSt) : zk2 (fX10_digestScalar p s0) = zk2 s0 := by
  unfold fX10_digestScalar
  (try dsimp only)
  all_goals (simp only [zW_2, zL_2, k2_fX10_digestScalar_2, k2_fX10_modulo, k2it_fX10_digestScalar_2]; done)
theorem i2_fX10_digestScalar (p : Nat) (s0 : zSt) (kk9 : Nat) : (fX10_digestScalar p s0).2.2 kk9 = s0.2.2 kk9 := z2_I (k2_fX10_digestScalar p s0) kk9
theorem i3_fX10_digestScalar (p : Nat) (s0 : zSt) (kk9 : Nat) : zi (fX10_digestScalar p s0) kk9 = zi s0 kk9 := zi_of (k2_fX10_digestScalar p s0) kk9
