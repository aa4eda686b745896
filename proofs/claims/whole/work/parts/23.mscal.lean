def fX10_digestWords_14 (f : Nat) (i1 : Nat) (z2 : zSt) (i5 : Nat) (z6 : Int64) : Int64 :=
    let x8 := (zsl z6 8) ||| ((z2.2.1 14 ((f + (8 * i1)) + i5)).toInt64)
    x8
def fX10_digestWords_2 (p : Nat) (f : Nat) (i1 : Nat) (z2 : zSt) : zSt :=
    let x4 := (0 : Int64)
    let u11 := zdown (fX10_digestWords_14 f i1 z2) 8 x4
    let t13 := zW z2 4 (p + i1) u11
    t13
def fX10_digestWords (p : Nat) (f : Nat) (s0 : zSt) : zSt :=
    let u16 := ziter (fX10_digestWords_2 p f) 0 4 s0
    u16
set_option maxHeartbeats 4000000 in
set_option maxRecDepth 100000 in
theorem k_X10_digestWords (l : Launch) (D : va_G) (kc : Nat → ClassId) (ad : Nat → Nat) (p : Nat) (hp : p ≤ 60) (f : Nat) (hf : f ≤ 32) (s0 : zSt) : zM l yX10_digestWords cX10_digestWords 7 none rX10_digestWords (wM D kc ad) [.ref (zad (wM D kc ad) 17), .int (nI (p)), .int (nI (f))] s0 (zV0 (fX10_digestWords p f s0)) := by
  refine z_of (own := RX10) (by decide +kernel) rfl (Nat.le_of_ble_eq_true rfl) ?_
  intro κ C R0
  refine j_at [(0, .ref (zad (wM D kc ad) 17)), (1, .int (nI (p))), (2, .int (nI (f)))] ⟨rfl, rfl, rfl, trivial⟩ ?_
  refine j_iconst (v := nI 0) C dX10_digestWords_0 (by decide +kernel) ?_
  refine j_istore_n C dX10_digestWords_1 rfl (by decide) ?_
  refine j_at [(0, .ref (zad (wM D kc ad) 17)), (1, .int (nI (p))), (2, .int (nI (f))), (3, .int (nI (0)))] ⟨rfl, rfl, rfl, rfl, trivial⟩ ?_
  refine z_up (α := zSt) (fun (i1 : Nat) (z2 : zSt) => zJ κ (wM D kc ad) 2 (zlof [(0, .ref (zad (wM D kc ad) 17)), (1, .int (nI (p))), (2, .int (nI (f))), (3, .int (nI (i1)))]) [] z2) (fX10_digestWords_2 p f) (fun _ _ => True) 4 ?_ (fun _ _ _ _ => trivial) 4 0 s0 (by omega) trivial ?_
  · intro i1 z2 hi1 hIi1 k0
    refine j_iload_n C dX10_digestWords_2 rfl rfl ?_
    refine j_iconst (v := nI 4) C dX10_digestWords_3 (by decide +kernel) ?_
    refine j_icmp_geN (tgt := 64) C dX10_digestWords_4 (by decide) (by omega) (by omega) (fun q3 => False.elim (by omega)) (fun q3 => ?_)
    refine j_lconst (v := 0) C dX10_digestWords_7 rfl ?_
    refine j_nmL (fun x4 ex4 => ?_)
    refine j_lstore C dX10_digestWords_8 (by decide) ?_
    refine j_bipush (v := nI 7) C dX10_digestWords_10 (by decide +kernel) ?_
    refine j_istore C dX10_digestWords_12 (by decide) ?_
    refine j_at [(0, .ref (zad (wM D kc ad) 17)), (1, .int (nI (p))), (2, .int (nI (f))), (3, .int (nI (i1))), (4, .long x4), (6, .int (dI 8))] ⟨rfl, rfl, rfl, rfl, rfl, congrArg (fun q => some (Value.int q)) (dI_succ _).symm, trivial⟩ ?_
    refine z_dn (α := Int64) (fun (i5 : Nat) (z6 : Int64) => zJ κ (wM D kc ad) 14 (zlof [(0, .ref (zad (wM D kc ad) 17)), (1, .int (nI (p))), (2, .int (nI (f))), (3, .int (nI (i1))), (4, .long z6), (6, .int (dI i5))]) [] z2) (fX10_digestWords_14 f i1 z2) (fun i5 z6 => i5 ≤ 8) ?_ (fun _ _ h => by omega) 8 x4 (Nat.le_refl _) ?_
    · intro i5 z6 hIi5 k0
      refine j_at [(0, .ref (zad (wM D kc ad) 17)), (1, .int (nI (p))), (2, .int (nI (f))), (3, .int (nI (i1))), (4, .long z6), (6, .int (nI (i5)))] ⟨rfl, rfl, rfl, rfl, rfl, congrArg (fun q => some (Value.int q)) (dI_succ _), trivial⟩ ?_
      refine j_iload C dX10_digestWords_14 rfl ?_
      refine j_if_lt (tgt := 48) C dX10_digestWords_16 (by decide) (fun q7 => False.elim (nI_pos (by omega) q7)) (fun q7 => ?_)
      refine j_lload C dX10_digestWords_19 rfl ?_
      refine j_bipush (v := nI 8) C dX10_digestWords_21 (by decide +kernel) ?_
      refine j_lshl C dX10_digestWords_23 (by omega) ?_
      refine j_aload_n C dX10_digestWords_24 rfl rfl ?_
      refine j_getR C dX10_digestWords_25 (fx_RX10_57 D kc ad) (Nat.zero_le _) (show 17 < 18 by decide) ?_
      refine j_iload_n C dX10_digestWords_28 rfl rfl ?_
      refine j_bipush (v := nI 8) C dX10_digestWords_29 (by decide +kernel) ?_
      refine j_iload_n C dX10_digestWords_31 rfl rfl ?_
      refine j_imulN C dX10_digestWords_32 ?_
      refine j_iaddN C dX10_digestWords_33 ?_
      refine j_iload C dX10_digestWords_34 rfl ?_
      refine j_iaddN C dX10_digestWords_36 ?_
      refine m_iald C dX10_digestWords_37 (⟨rfl, rfl, by decide, by decide⟩ : mi 64 14) (by omega) ?_
      refine j_i2l C dX10_digestWords_38 ?_
      refine j_lor C dX10_digestWords_39 ?_
      refine j_nmL (fun x8 ex8 => ?_)
      refine j_lstore C dX10_digestWords_40 (by decide) ?_
      refine j_iincD C dX10_digestWords_42 rfl (by decide) ?_
      refine j_goto (tgt := 14) C dX10_digestWords_45 (by decide) ?_
      refine j_at [(0, .ref (zad (wM D kc ad) 17)), (1, .int (nI (p))), (2, .int (nI (f))), (3, .int (nI (i1))), (4, .long x8), (6, .int (dI i5))] ⟨rfl, rfl, rfl, rfl, rfl, rfl, trivial⟩ ?_
      have eF : (fX10_digestWords_14 f i1 z2) i5 z6 = x8 := by (try rw [ex8]); unfold fX10_digestWords_14; first | done | (dsimp only; done) | rfl
      exact Eq.mp (congrArg (fun (z10 : Int64) => zJ κ (wM D kc ad) 14 (zlof [(0, .ref (zad (wM D kc ad) 17)), (1, .int (nI (p))), (2, .int (nI (f))), (3, .int (nI (i1))), (4, .long z10), (6, .int (dI i5))]) [] z2) eF) (k0 ((by omega)))
    · intro hIi5
      revert hIi5
      refine z_nm (P := fun (z6 : Int64) => (fun i5 z6 => i5 ≤ 8) 0 z6 → zJ κ (wM D kc ad) 14 (zlof [(0, .ref (zad (wM D kc ad) 17)), (1, .int (nI (p))), (2, .int (nI (f))), (3, .int (nI (i1))), (4, .long z6), (6, .int (dI 0))]) [] z2) (fun u11 eu11 => ?_)
      intro hIi5
      refine j_iload C dX10_digestWords_14 rfl ?_
      refine j_if_lt (tgt := 48) C dX10_digestWords_16 (by decide) (fun q12 => ?_) (fun q12 => False.elim (q12 dI_0))
      refine j_aload_n C dX10_digestWords_48 rfl rfl ?_
      refine j_getR C dX10_digestWords_49 (fx_RX10_27 D kc ad) (Nat.zero_le _) (show 17 < 18 by decide) ?_
      refine j_iload_n C dX10_digestWords_52 rfl rfl ?_
      refine j_iload_n C dX10_digestWords_53 rfl rfl ?_
      refine j_iaddN C dX10_digestWords_54 ?_
      refine j_lload C dX10_digestWords_55 rfl ?_
      refine m_last C dX10_digestWords_57 (⟨rfl, rfl, by decide, by decide⟩ : ma 64 4) (by omega) ?_
      refine j_nmS (fun t13 et13 => ?_)
      refine j_iincN (b := 1) C dX10_digestWords_58 rfl (by decide +kernel) (by decide) ?_
      refine j_goto (tgt := 2) C dX10_digestWords_61 (by decide) ?_
      refine j_nmS (fun t14 et14 => ?_)
      refine j_at [(0, .ref (zad (wM D kc ad) 17)), (1, .int (nI (p))), (2, .int (nI (f))), (3, .int (nI (i1 + 1)))] ⟨rfl, rfl, rfl, rfl, trivial⟩ ?_
      have eF : (fX10_digestWords_2 p f) i1 z2 = t14 := by rw [et14]; (try rw [et13]); (try rw [eu11]); (try rw [ex4]); unfold fX10_digestWords_2; first | done | (dsimp only; done) | rfl
      exact Eq.mp (congrArg (fun (z15 : zSt) => zJ κ (wM D kc ad) 2 (zlof [(0, .ref (zad (wM D kc ad) 17)), (1, .int (nI (p))), (2, .int (nI (f))), (3, .int (nI (i1 + 1)))]) [] z15) eF) (k0 trivial)
  · intro hIi1
    refine z_nm (P := fun (z2 : zSt) => zJ κ (wM D kc ad) 2 (zlof [(0, .ref (zad (wM D kc ad) 17)), (1, .int (nI (p))), (2, .int (nI (f))), (3, .int (nI (4)))]) [] z2) (fun u16 eu16 => ?_)
    refine j_iload_n C dX10_digestWords_2 rfl rfl ?_
    refine j_iconst (v := nI 4) C dX10_digestWords_3 (by decide +kernel) ?_
    refine j_icmp_geN (tgt := 64) C dX10_digestWords_4 (by decide) (by omega) (by omega) (fun q17 => ?_) (fun q17 => False.elim (by omega))
    exact j_vret (st := []) C R0 dX10_digestWords_64 ⟨rfl, (by (try rw [eu16]); unfold fX10_digestWords; first | done | (dsimp only; done) | rfl)⟩
theorem k2_fX10_digestWords_2 (p : Nat) (f : Nat) (i1 : Nat) (z2 : zSt) : zk2 (fX10_digestWords_2 p f i1 z2) = zk2 z2 := by
  unfold fX10_digestWords_2
  (try dsimp only)
  all_goals (simp only [zW_2, zL_2]; done)
theorem k2it_fX10_digestWords_2 (p : Nat) (f : Nat) (nn ii : Nat) (xx : zSt) : zk2 (ziter (fX10_digestWords_2 p f) ii nn xx) = zk2 xx := ziter_keep (fun x => zk2 x) _ (k2_fX10_digestWords_2 p f) nn ii xx
theorem k2_fX10_digestWords (p : Nat) (f : Nat) (s0 : zSt) : zk2 (fX10_digestWords p f s0) = zk2 s0 := by
  unfold fX10_digestWords
  (try dsimp only)
  all_goals (simp only [zW_2, zL_2, k2_fX10_digestWords_2, k2it_fX10_digestWords_2]; done)

def vX10_limb (x : Int64) (k : Nat) (s0 : zSt) : Int64 :=
    (zus x (16 * k)) &&& ((65535 : Int64))
set_option maxHeartbeats 4000000 in
set_option maxRecDepth 100000 in
theorem k_X10_limb (l : Launch) (D : va_G) (kc : Nat → ClassId) (ad : Nat → Nat) (x : Int64) (k : Nat) (hk : k < 4) (s0 : zSt) : zM l yX10_limb cX10_limb 3 (some .long) rX10_limb (wM D kc ad) [.long x, .int (nI (k))] s0 (zV1 (.long (vX10_limb x k s0)) s0) := by
  refine z_of (own := RX10) (by decide +kernel) rfl (Nat.le_of_ble_eq_true rfl) ?_
  intro κ C R0
  refine j_at [(0, .long x), (2, .int (nI (k)))] ⟨rfl, rfl, trivial⟩ ?_
  refine j_lload_n C dX10_limb_0 rfl rfl ?_
  refine j_bipush (v := nI 16) C dX10_limb_1 (by decide +kernel) ?_
  refine j_iload_n C dX10_limb_3 rfl rfl ?_
  refine j_imulN C dX10_limb_4 ?_
  refine j_lushr C dX10_limb_5 (by omega) ?_
  refine j_ldc2 C dX10_limb_6 mw_10_19 ?_
  refine j_land C dX10_limb_9 ?_
  exact j_lret (st := []) C R0 dX10_limb_10 ⟨(by unfold vX10_limb; first | done | (dsimp only; done) | rfl), ((by rfl))⟩
