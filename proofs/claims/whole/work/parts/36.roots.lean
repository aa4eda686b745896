def pcn : Nat → Nat
  | 0 => 0
  | k + 1 => if ip (k + 2) (sq2 (k + 2)) = true then pcn k + 1 else pcn k
set_option maxRecDepth 100000 in
theorem pcn_lt : ∀ k, k < 408 → pcn k < 80 := by decide +kernel
set_option maxRecDepth 100000 in
theorem pcn_le : ∀ k, k < 409 → pcn k ≤ 80 := by decide +kernel
set_option maxRecDepth 100000 in
theorem pcn_end : pcn 408 = 80 := by decide +kernel
theorem pcn_y {k : Nat} {s : zSt} (h : vX10_isPrime (k + 2) s = true) : pcn k + 1 = pcn (k + 1) := (if_pos h).symm
theorem pcn_n {k : Nat} {s : zSt} (h : vX10_isPrime (k + 2) s = false) : pcn k = pcn (k + 1) := (if_neg (by unfold vX10_isPrime at h; rw [h]; exact Bool.false_ne_true)).symm
def fX10_roots__a1 (z1 : zSt) : zSt :=
    z1
def fX10_roots__a2 (t9 : zSt) : zSt :=
    t9
def fX10_roots__a3 (j1 : Nat) (t9 : zSt) : zSt :=
    let t15 := zsnd (fX10_behindPoint (j1 + 2) false t9)
    let t16 := zW t15 5 (pcn j1) (zfst (fX10_behindPoint (j1 + 2) false t9))
    t16
def fX10_roots__a4 (j1 : Nat) (z1 : zSt) : zSt :=
    let t8 := zsnd (fX10_behindPoint (j1 + 2) true z1)
    let t9 := zW t8 6 (pcn j1) (zfst (fX10_behindPoint (j1 + 2) true z1))
    if 8 ≤ pcn j1 then
      fX10_roots__a2 t9
    else
      fX10_roots__a3 j1 t9
def fX10_roots__4  (j1 : Nat) (z1 : zSt) : zSt :=
    bif (vX10_isPrime (j1 + 2) z1) then
      fX10_roots__a4 j1 z1
    else
      fX10_roots__a1 z1
def fX10_roots_  (s0 : zSt) : zSt :=
    let u19 := ziter fX10_roots__4 0 408 s0
    u19
set_option maxHeartbeats 4000000 in
set_option maxRecDepth 100000 in
theorem k_X10_roots_ (l : Launch) (D : va_G) (kc : Nat → ClassId) (ad : Nat → Nat)  (s0 : zSt) : zM l yX10_roots_ cX10_roots_ 3 none rX10_roots_ (wM D kc ad) [.ref (zad (wM D kc ad) 17)] s0 (zV0 (fX10_roots_  s0)) := by
  refine z_of (own := RX10) (by decide +kernel) rfl (Nat.le_of_ble_eq_true rfl) ?_
  intro κ C R0
  refine j_at [(0, .ref (zad (wM D kc ad) 17))] ⟨rfl, trivial⟩ ?_
  refine j_iconst (v := nI 0) C dX10_roots__0 (by decide +kernel) ?_
  refine j_istore_n C dX10_roots__1 rfl (by decide) ?_
  refine j_iconst (v := nI 2) C dX10_roots__2 (by decide +kernel) ?_
  refine j_istore_n C dX10_roots__3 rfl (by decide) ?_
  refine j_at [(0, .ref (zad (wM D kc ad) 17)), (1, .int (nI (pcn 0))), (2, .int (nI (0 + 2)))] ⟨rfl, rfl, rfl, trivial⟩ ?_
  refine z_up (α := zSt) (fun (j1 : Nat) (z1 : zSt) => zJ κ (wM D kc ad) 4 (zlof [(0, .ref (zad (wM D kc ad) 17)), (1, .int (nI (pcn j1))), (2, .int (nI (j1 + 2)))]) [] z1) fX10_roots__4 (fun _ _ => True) 408 ?_ (fun _ _ _ _ => trivial) 408 0 s0 (by omega) trivial ?_
  · intro j1 z1 hj1 hIj1 k0
    refine j_iload_n C dX10_roots__4 rfl rfl ?_
    have hpc := pcn_le j1 (by omega)
    refine j_bipush (v := nI 80) C dX10_roots__5 (by decide +kernel) ?_
    refine j_icmp_geN (tgt := 56) C dX10_roots__7 (by decide) (by omega) (by omega) (fun q2 => False.elim (by have := pcn_lt j1 (by omega); omega)) (fun q2 => ?_)
    have hpl := pcn_lt j1 (by omega)
    refine j_iload_n C dX10_roots__10 rfl rfl ?_
    refine j_callS1 C dX10_roots__11 (k_X10_isPrime l D kc ad (j1 + 2) (by omega) _ ) zy_X10_isPrime mw_14_2 rfl rfl (Nat.le_of_ble_eq_true rfl) ⟨rfl, rfl, Nat.le_of_ble_eq_true rfl, Nat.le_of_ble_eq_true rfl⟩ ?_
    refine j_if_eqB (tgt := 50) C dX10_roots__14 (by decide) (fun q3 => ?_) (fun q3 => ?_)
    · have hA4 : fX10_roots__4 j1 z1 = fX10_roots__a1 z1 := by have q3z := q3; (try dsimp only at q3z); unfold fX10_roots__4; (try dsimp only); rw [q3z, cond_false]; (try rfl)
      refine j_iincN (b := 1) C dX10_roots__50 rfl (by decide +kernel) (by decide) ?_
      refine j_goto (tgt := 4) C dX10_roots__53 (by decide) ?_
      refine j_nmS (fun t5 et5 => ?_)
      refine j_at [(0, .ref (zad (wM D kc ad) 17)), (1, .int (nI (pcn (j1 + 1)))), (2, .int (nI ((j1 + 1) + 2)))] ⟨rfl, congrArg (fun q => some (Value.int (nI q))) (by first | exact pcn_y (by assumption) | exact pcn_n (by assumption) | exact pcn_n (Bool.eq_false_iff.mpr (by assumption))), congrArg (fun q => some (Value.int (nI q))) (by omega), trivial⟩ ?_
      have eF : fX10_roots__4 j1 z1 = t5 := by rw [hA4]; rw [et5]; unfold fX10_roots__a1; first | done | (dsimp only; done) | rfl
      exact Eq.mp (congrArg (fun (z6 : zSt) => zJ κ (wM D kc ad) 4 (zlof [(0, .ref (zad (wM D kc ad) 17)), (1, .int (nI (pcn (j1 + 1)))), (2, .int (nI ((j1 + 1) + 2)))]) [] z6) eF) (k0 trivial)
    · have hA7 : fX10_roots__4 j1 z1 = fX10_roots__a4 j1 z1 := by have q3z := q3; (try dsimp only at q3z); unfold fX10_roots__4; (try dsimp only); rw [q3z, cond_true]; (try rfl)
      refine j_aload_n C dX10_roots__17 rfl rfl ?_
      refine j_getR C dX10_roots__18 (fx_RX10_33 D kc ad) (Nat.zero_le _) (show 17 < 18 by decide) ?_
      refine j_iload_n C dX10_roots__21 rfl rfl ?_
      refine j_aload_n C dX10_roots__22 rfl rfl ?_
      refine j_iload_n C dX10_roots__23 rfl rfl ?_
      refine j_iconst (v := nI 1) C dX10_roots__24 (by decide +kernel) ?_
      refine j_top (v := .int (bI true)) (by decide +kernel) ?_
      refine j_callV1 (T := TX10) (N := 23) C dX10_roots__25 (k_X10_behindPoint l D kc ad (j1 + 2) (by omega) true _ ) zy_X10_behindPoint mw_14_5 rfl rfl (Nat.zero_le _) (show 17 < 18 by decide) rfl rfl (Nat.le_of_ble_eq_true rfl) ⟨rfl, rfl, Nat.le_of_ble_eq_true rfl, Nat.le_of_ble_eq_true rfl⟩ ?_
      refine j_nmS (fun t8 et8 => ?_)
      refine m_last C dX10_roots__28 (⟨rfl, rfl, by decide, by decide⟩ : ma 80 6) (by omega) ?_
      refine j_nmS (fun t9 et9 => ?_)
      refine j_iload_n C dX10_roots__29 rfl rfl ?_
      refine j_bipush (v := nI 8) C dX10_roots__30 (by decide +kernel) ?_
      refine j_icmp_geN (tgt := 47) C dX10_roots__32 (by decide) (by omega) (by omega) (fun q10 => ?_) (fun q10 => ?_)
      · have hA11 : fX10_roots__a4 j1 z1 = fX10_roots__a2 t9 := by (try rw [et9]); (try rw [et8]); have q10z := q10; (try rw [et9] at q10z); (try rw [et8] at q10z); (try dsimp only at q10z); unfold fX10_roots__a4; (try dsimp only); rw [if_pos q10z]; (try rfl)
        refine j_iincN (b := 1) C dX10_roots__47 rfl (by decide +kernel) (by decide) ?_
        refine j_iincN (b := 1) C dX10_roots__50 rfl (by decide +kernel) (by decide) ?_
        refine j_goto (tgt := 4) C dX10_roots__53 (by decide) ?_
        refine j_nmS (fun t12 et12 => ?_)
        refine j_at [(0, .ref (zad (wM D kc ad) 17)), (1, .int (nI (pcn (j1 + 1)))), (2, .int (nI ((j1 + 1) + 2)))] ⟨rfl, congrArg (fun q => some (Value.int (nI q))) (by first | exact pcn_y (by assumption) | exact pcn_n (by assumption) | exact pcn_n (Bool.eq_false_iff.mpr (by assumption))), congrArg (fun q => some (Value.int (nI q))) (by omega), trivial⟩ ?_
        have eF : fX10_roots__4 j1 z1 = t12 := by rw [hA7, hA11]; rw [et12]; unfold fX10_roots__a2; first | done | (dsimp only; done) | rfl
        exact Eq.mp (congrArg (fun (z13 : zSt) => zJ κ (wM D kc ad) 4 (zlof [(0, .ref (zad (wM D kc ad) 17)), (1, .int (nI (pcn (j1 + 1)))), (2, .int (nI ((j1 + 1) + 2)))]) [] z13) eF) (k0 trivial)
      · have hA14 : fX10_roots__a4 j1 z1 = fX10_roots__a3 j1 t9 := by (try rw [et9]); (try rw [et8]); have q10z : ¬ (8 ≤ pcn j1) := (by omega); (try rw [et9] at q10z); (try rw [et8] at q10z); (try dsimp only at q10z); unfold fX10_roots__a4; (try dsimp only); rw [if_neg q10z]; (try rfl)
        refine j_aload_n C dX10_roots__35 rfl rfl ?_
        refine j_getR C dX10_roots__36 (fx_RX10_30 D kc ad) (Nat.zero_le _) (show 17 < 18 by decide) ?_
        refine j_iload_n C dX10_roots__39 rfl rfl ?_
        refine j_aload_n C dX10_roots__40 rfl rfl ?_
        refine j_iload_n C dX10_roots__41 rfl rfl ?_
        refine j_iconst (v := nI 0) C dX10_roots__42 (by decide +kernel) ?_
        refine j_top (v := .int (bI false)) (by decide +kernel) ?_
        refine j_callV1 (T := TX10) (N := 23) C dX10_roots__43 (k_X10_behindPoint l D kc ad (j1 + 2) (by omega) false _ ) zy_X10_behindPoint mw_14_5 rfl rfl (Nat.zero_le _) (show 17 < 18 by decide) rfl rfl (Nat.le_of_ble_eq_true rfl) ⟨rfl, rfl, Nat.le_of_ble_eq_true rfl, Nat.le_of_ble_eq_true rfl⟩ ?_
        refine j_nmS (fun t15 et15 => ?_)
        refine m_last C dX10_roots__46 (⟨rfl, rfl, by decide, by decide⟩ : ma 8 5) (by omega) ?_
        refine j_nmS (fun t16 et16 => ?_)
        refine j_iincN (b := 1) C dX10_roots__47 rfl (by decide +kernel) (by decide) ?_
        refine j_iincN (b := 1) C dX10_roots__50 rfl (by decide +kernel) (by decide) ?_
        refine j_goto (tgt := 4) C dX10_roots__53 (by decide) ?_
        refine j_nmS (fun t17 et17 => ?_)
        refine j_at [(0, .ref (zad (wM D kc ad) 17)), (1, .int (nI (pcn (j1 + 1)))), (2, .int (nI ((j1 + 1) + 2)))] ⟨rfl, congrArg (fun q => some (Value.int (nI q))) (by first | exact pcn_y (by assumption) | exact pcn_n (by assumption) | exact pcn_n (Bool.eq_false_iff.mpr (by assumption))), congrArg (fun q => some (Value.int (nI q))) (by omega), trivial⟩ ?_
        have eF : fX10_roots__4 j1 z1 = t17 := by rw [hA7, hA14]; rw [et17]; (try rw [et16]); (try rw [et15]); unfold fX10_roots__a3; first | done | (dsimp only; done) | rfl
        exact Eq.mp (congrArg (fun (z18 : zSt) => zJ κ (wM D kc ad) 4 (zlof [(0, .ref (zad (wM D kc ad) 17)), (1, .int (nI (pcn (j1 + 1)))), (2, .int (nI ((j1 + 1) + 2)))]) [] z18) eF) (k0 trivial)
  · intro hIj1
    refine z_nm (P := fun (z1 : zSt) => zJ κ (wM D kc ad) 4 (zlof [(0, .ref (zad (wM D kc ad) 17)), (1, .int (nI (pcn 408))), (2, .int (nI (408 + 2)))]) [] z1) (fun u19 eu19 => ?_)
    refine j_iload_n C dX10_roots__4 rfl rfl ?_
    have hpc := pcn_le 408 (by omega)
    refine j_bipush (v := nI 80) C dX10_roots__5 (by decide +kernel) ?_
    refine j_icmp_geN (tgt := 56) C dX10_roots__7 (by decide) (by omega) (by omega) (fun q20 => ?_) (fun q20 => False.elim (by have := pcn_end; omega))
    exact j_vret (st := []) C R0 dX10_roots__56 ⟨rfl, (by (try rw [eu19]); unfold fX10_roots_; (try dsimp only); all_goals ((try simp only [zfst_mk, zsnd_mk]); all_goals rfl))⟩
theorem k2_fX10_roots__a1 (z1 : zSt) : zk2 (fX10_roots__a1 z1) = zk2 z1 := by
  unfold fX10_roots__a1
  (try dsimp only)
  all_goals (simp only [zW_2, zL_2]; done)
theorem k2_fX10_roots__a2 (t9 : zSt) : zk2 (fX10_roots__a2 t9) = zk2 t9 := by
  unfold fX10_roots__a2
  (try dsimp only)
  all_goals (simp only [zW_2, zL_2]; done)
theorem k2_fX10_roots__a3 (j1 : Nat) (t9 : zSt) : zk2 (fX10_roots__a3 j1 t9) = zk2 t9 := by
  unfold fX10_roots__a3
  (try dsimp only)
  all_goals (simp only [zW_2, zL_2, k2_fX10_behindPoint, k2q_fX10_behindPoint]; done)
theorem k2_fX10_roots__a4 (j1 : Nat) (z1 : zSt) : zk2 (fX10_roots__a4 j1 z1) = zk2 z1 := by
  unfold fX10_roots__a4
  (try dsimp only)
  all_goals (refine ite_keep (fun r : zSt => zk2 r) _ _ ?_ ?_ <;> (simp only [zW_2, zL_2, k2_fX10_behindPoint, k2_fX10_roots__a2, k2_fX10_roots__a3, k2q_fX10_behindPoint]; done))
theorem k2_fX10_roots__4  (j1 : Nat) (z1 : zSt) : zk2 (fX10_roots__4  j1 z1) = zk2 z1 := by
  unfold fX10_roots__4
  (try dsimp only)
  all_goals (refine cond_keep (fun r : zSt => zk2 r) _ ?_ ?_ <;> (simp only [zW_2, zL_2, k2_fX10_roots__a1, k2_fX10_roots__a4]; done))
theorem k2it_fX10_roots__4  (nn ii : Nat) (xx : zSt) : zk2 (ziter (fX10_roots__4 ) ii nn xx) = zk2 xx := ziter_keep (fun x => zk2 x) _ (k2_fX10_roots__4 ) nn ii xx
theorem k2_fX10_roots_  (s0 : zSt) : zk2 (fX10_roots_  s0) = zk2 s0 := by
  unfold fX10_roots_
  (try dsimp only)
  all_goals (simp only [zW_2, zL_2, k2_fX10_roots__4, k2it_fX10_roots__4]; done)
theorem i2_fX10_roots_  (s0 : zSt) (kk9 : Nat) : (fX10_roots_  s0).2.2 kk9 = s0.2.2 kk9 := z2_I (k2_fX10_roots_ s0) kk9
theorem i3_fX10_roots_  (s0 : zSt) (kk9 : Nat) : zi (fX10_roots_  s0) kk9 = zi s0 kk9 := zi_of (k2_fX10_roots_ s0) kk9
