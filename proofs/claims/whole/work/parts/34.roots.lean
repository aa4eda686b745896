def fX10_powers_2  (i1 : Nat) (z2 : zSt) : zSt :=
    let t4 := zW z2 9 i1 ((0 : Int64))
    t4
def fX10_powers_23  (i9 : Nat) (z10 : zSt) : zSt :=
    let t12 := zW z10 8 i9 ((0 : Int64))
    t12
def fX10_powers_51 (i17 : Nat) (i20 : Nat) (z21 : zSt) : zSt :=
    let t23 := zW z21 8 (i17 + i20) ((z21.1 8 (i17 + i20)) + ((z21.1 7 i17) * (z21.1 7 i20)))
    t23
def fX10_powers_44  (i17 : Nat) (z18 : zSt) : zSt :=
    let u26 := ziter (fX10_powers_51 i17) 0 5 z18
    u26
def fX10_powers_94  (i32 : Nat) (z33 : zSt) : zSt :=
    let t35 := zW z33 8 (i32 + 1) ((z33.1 8 (i32 + 1)) + (zsr (z33.1 8 i32) 16))
    let t36 := zW t35 8 i32 ((t35.1 8 i32) &&& ((65535 : Int64)))
    t36
def fX10_powers_148 (i41 : Nat) (i44 : Nat) (z45 : zSt) : zSt :=
    let t47 := zW z45 9 (i41 + i44) ((z45.1 9 (i41 + i44)) + ((z45.1 8 i41) * (z45.1 7 i44)))
    t47
def fX10_powers_140  (i41 : Nat) (z42 : zSt) : zSt :=
    let u50 := ziter (fX10_powers_148 i41) 0 5 z42
    u50
def fX10_powers_191  (i56 : Nat) (z57 : zSt) : zSt :=
    let t59 := zW z57 9 (i56 + 1) ((z57.1 9 (i56 + 1)) + (zsr (z57.1 9 i56) 16))
    let t60 := zW t59 9 i56 ((t59.1 9 i56) &&& ((65535 : Int64)))
    t60
def fX10_powers  (s0 : zSt) : zSt :=
    let u7 := ziter fX10_powers_2 0 18 s0
    let u15 := ziter fX10_powers_23 0 12 u7
    let u30 := ziter fX10_powers_44 0 5 u15
    let u39 := ziter fX10_powers_94 0 11 u30
    let u54 := ziter fX10_powers_140 0 11 u39
    let u63 := ziter fX10_powers_191 0 17 u54
    u63
set_option maxHeartbeats 4000000 in
set_option maxRecDepth 100000 in
theorem k_X10_powers (l : Launch) (D : va_G) (kc : Nat → ClassId) (ad : Nat → Nat)  (s0 : zSt) : zM l yX10_powers cX10_powers 3 none rX10_powers (wM D kc ad) [.ref (zad (wM D kc ad) 17)] s0 (zV0 (fX10_powers  s0)) := by
  refine z_of (own := RX10) (by decide +kernel) rfl (Nat.le_of_ble_eq_true rfl) ?_
  intro κ C R0
  refine j_at [(0, .ref (zad (wM D kc ad) 17))] ⟨rfl, trivial⟩ ?_
  refine j_iconst (v := nI 0) C dX10_powers_0 (by decide +kernel) ?_
  refine j_istore_n C dX10_powers_1 rfl (by decide) ?_
  refine j_at [(0, .ref (zad (wM D kc ad) 17)), (1, .int (nI (0)))] ⟨rfl, rfl, trivial⟩ ?_
  refine z_up (α := zSt) (fun (i1 : Nat) (z2 : zSt) => zJ κ (wM D kc ad) 2 (zlof [(0, .ref (zad (wM D kc ad) 17)), (1, .int (nI (i1)))]) [] z2) fX10_powers_2 (fun _ _ => True) 18 ?_ (fun _ _ _ _ => trivial) 18 0 s0 (by omega) trivial ?_
  · intro i1 z2 hi1 hIi1 k0
    refine j_iload_n C dX10_powers_2 rfl rfl ?_
    refine j_bipush (v := nI 18) C dX10_powers_3 (by decide +kernel) ?_
    refine j_icmp_geN (tgt := 21) C dX10_powers_5 (by decide) (by omega) (by omega) (fun q3 => False.elim (by omega)) (fun q3 => ?_)
    refine j_aload_n C dX10_powers_8 rfl rfl ?_
    refine j_getR C dX10_powers_9 (fx_RX10_42 D kc ad) (Nat.zero_le _) (show 17 < 18 by decide) ?_
    refine j_iload_n C dX10_powers_12 rfl rfl ?_
    refine j_lconst (v := 0) C dX10_powers_13 rfl ?_
    refine m_last C dX10_powers_14 (⟨rfl, rfl, by decide, by decide⟩ : ma 18 9) (by omega) ?_
    refine j_nmS (fun t4 et4 => ?_)
    refine j_iincN (b := 1) C dX10_powers_15 rfl (by decide +kernel) (by decide) ?_
    refine j_goto (tgt := 2) C dX10_powers_18 (by decide) ?_
    refine j_nmS (fun t5 et5 => ?_)
    refine j_at [(0, .ref (zad (wM D kc ad) 17)), (1, .int (nI (i1 + 1)))] ⟨rfl, rfl, trivial⟩ ?_
    have eF : fX10_powers_2 i1 z2 = t5 := by rw [et5]; (try rw [et4]); unfold fX10_powers_2; first | done | (dsimp only; done) | rfl
    exact Eq.mp (congrArg (fun (z6 : zSt) => zJ κ (wM D kc ad) 2 (zlof [(0, .ref (zad (wM D kc ad) 17)), (1, .int (nI (i1 + 1)))]) [] z6) eF) (k0 trivial)
  · intro hIi1
    refine z_nm (P := fun (z2 : zSt) => zJ κ (wM D kc ad) 2 (zlof [(0, .ref (zad (wM D kc ad) 17)), (1, .int (nI (18)))]) [] z2) (fun u7 eu7 => ?_)
    refine j_iload_n C dX10_powers_2 rfl rfl ?_
    refine j_bipush (v := nI 18) C dX10_powers_3 (by decide +kernel) ?_
    refine j_icmp_geN (tgt := 21) C dX10_powers_5 (by decide) (by omega) (by omega) (fun q8 => ?_) (fun q8 => False.elim (by omega))
    refine j_iconst (v := nI 0) C dX10_powers_21 (by decide +kernel) ?_
    refine j_istore_n C dX10_powers_22 rfl (by decide) ?_
    refine j_at [(0, .ref (zad (wM D kc ad) 17)), (1, .int (nI (0)))] ⟨rfl, rfl, trivial⟩ ?_
    refine z_up (α := zSt) (fun (i9 : Nat) (z10 : zSt) => zJ κ (wM D kc ad) 23 (zlof [(0, .ref (zad (wM D kc ad) 17)), (1, .int (nI (i9)))]) [] z10) fX10_powers_23 (fun _ _ => True) 12 ?_ (fun _ _ _ _ => trivial) 12 0 u7 (by omega) trivial ?_
    · intro i9 z10 hi9 hIi9 k0
      refine j_iload_n C dX10_powers_23 rfl rfl ?_
      refine j_bipush (v := nI 12) C dX10_powers_24 (by decide +kernel) ?_
      refine j_icmp_geN (tgt := 42) C dX10_powers_26 (by decide) (by omega) (by omega) (fun q11 => False.elim (by omega)) (fun q11 => ?_)
      refine j_aload_n C dX10_powers_29 rfl rfl ?_
      refine j_getR C dX10_powers_30 (fx_RX10_39 D kc ad) (Nat.zero_le _) (show 17 < 18 by decide) ?_
      refine j_iload_n C dX10_powers_33 rfl rfl ?_
      refine j_lconst (v := 0) C dX10_powers_34 rfl ?_
      refine m_last C dX10_powers_35 (⟨rfl, rfl, by decide, by decide⟩ : ma 12 8) (by omega) ?_
      refine j_nmS (fun t12 et12 => ?_)
      refine j_iincN (b := 1) C dX10_powers_36 rfl (by decide +kernel) (by decide) ?_
      refine j_goto (tgt := 23) C dX10_powers_39 (by decide) ?_
      refine j_nmS (fun t13 et13 => ?_)
      refine j_at [(0, .ref (zad (wM D kc ad) 17)), (1, .int (nI (i9 + 1)))] ⟨rfl, rfl, trivial⟩ ?_
      have eF : fX10_powers_23 i9 z10 = t13 := by rw [et13]; (try rw [et12]); unfold fX10_powers_23; first | done | (dsimp only; done) | rfl
      exact Eq.mp (congrArg (fun (z14 : zSt) => zJ κ (wM D kc ad) 23 (zlof [(0, .ref (zad (wM D kc ad) 17)), (1, .int (nI (i9 + 1)))]) [] z14) eF) (k0 trivial)
    · intro hIi9
      refine z_nm (P := fun (z10 : zSt) => zJ κ (wM D kc ad) 23 (zlof [(0, .ref (zad (wM D kc ad) 17)), (1, .int (nI (12)))]) [] z10) (fun u15 eu15 => ?_)
      refine j_iload_n C dX10_powers_23 rfl rfl ?_
      refine j_bipush (v := nI 12) C dX10_powers_24 (by decide +kernel) ?_
      refine j_icmp_geN (tgt := 42) C dX10_powers_26 (by decide) (by omega) (by omega) (fun q16 => ?_) (fun q16 => False.elim (by omega))
      refine j_iconst (v := nI 0) C dX10_powers_42 (by decide +kernel) ?_
      refine j_istore_n C dX10_powers_43 rfl (by decide) ?_
      refine j_at [(0, .ref (zad (wM D kc ad) 17)), (1, .int (nI (0)))] ⟨rfl, rfl, trivial⟩ ?_
      refine z_up (α := zSt) (fun (i17 : Nat) (z18 : zSt) => zJ κ (wM D kc ad) 44 (zlof [(0, .ref (zad (wM D kc ad) 17)), (1, .int (nI (i17)))]) [] z18) fX10_powers_44 (fun _ _ => True) 5 ?_ (fun _ _ _ _ => trivial) 5 0 u15 (by omega) trivial ?_
      · intro i17 z18 hi17 hIi17 k0
        refine j_iload_n C dX10_powers_44 rfl rfl ?_
        refine j_iconst (v := nI 5) C dX10_powers_45 (by decide +kernel) ?_
        refine j_icmp_geN (tgt := 92) C dX10_powers_46 (by decide) (by omega) (by omega) (fun q19 => False.elim (by omega)) (fun q19 => ?_)
        refine j_iconst (v := nI 0) C dX10_powers_49 (by decide +kernel) ?_
        refine j_istore_n C dX10_powers_50 rfl (by decide) ?_
        refine j_at [(0, .ref (zad (wM D kc ad) 17)), (1, .int (nI (i17))), (2, .int (nI (0)))] ⟨rfl, rfl, rfl, trivial⟩ ?_
        refine z_up (α := zSt) (fun (i20 : Nat) (z21 : zSt) => zJ κ (wM D kc ad) 51 (zlof [(0, .ref (zad (wM D kc ad) 17)), (1, .int (nI (i17))), (2, .int (nI (i20)))]) [] z21) (fX10_powers_51 i17) (fun _ _ => True) 5 ?_ (fun _ _ _ _ => trivial) 5 0 z18 (by omega) trivial ?_
        · intro i20 z21 hi20 hIi20 k0
          refine j_iload_n C dX10_powers_51 rfl rfl ?_
          refine j_iconst (v := nI 5) C dX10_powers_52 (by decide +kernel) ?_
          refine j_icmp_geN (tgt := 86) C dX10_powers_53 (by decide) (by omega) (by omega) (fun q22 => False.elim (by omega)) (fun q22 => ?_)
          refine j_aload_n C dX10_powers_56 rfl rfl ?_
          refine j_getR C dX10_powers_57 (fx_RX10_39 D kc ad) (Nat.zero_le _) (show 17 < 18 by decide) ?_
          refine j_iload_n C dX10_powers_60 rfl rfl ?_
          refine j_iload_n C dX10_powers_61 rfl rfl ?_
          refine j_iaddN C dX10_powers_62 ?_
          refine j_dup2 C dX10_powers_63 rfl rfl ?_
          refine m_lald C dX10_powers_64 (⟨rfl, rfl, by decide, by decide⟩ : ma 12 8) (by omega) ?_
          refine j_aload_n C dX10_powers_65 rfl rfl ?_
          refine j_getR C dX10_powers_66 (fx_RX10_36 D kc ad) (Nat.zero_le _) (show 17 < 18 by decide) ?_
          refine j_iload_n C dX10_powers_69 rfl rfl ?_
          refine m_lald C dX10_powers_70 (⟨rfl, rfl, by decide, by decide⟩ : ma 6 7) (by omega) ?_
          refine j_aload_n C dX10_powers_71 rfl rfl ?_
          refine j_getR C dX10_powers_72 (fx_RX10_36 D kc ad) (Nat.zero_le _) (show 17 < 18 by decide) ?_
          refine j_iload_n C dX10_powers_75 rfl rfl ?_
          refine m_lald C dX10_powers_76 (⟨rfl, rfl, by decide, by decide⟩ : ma 6 7) (by omega) ?_
          refine j_lmul C dX10_powers_77 ?_
          refine j_ladd C dX10_powers_78 ?_
          refine m_last C dX10_powers_79 (⟨rfl, rfl, by decide, by decide⟩ : ma 12 8) (by omega) ?_
          refine j_nmS (fun t23 et23 => ?_)
          refine j_iincN (b := 1) C dX10_powers_80 rfl (by decide +kernel) (by decide) ?_
          refine j_goto (tgt := 51) C dX10_powers_83 (by decide) ?_
          refine j_nmS (fun t24 et24 => ?_)
          refine j_at [(0, .ref (zad (wM D kc ad) 17)), (1, .int (nI (i17))), (2, .int (nI (i20 + 1)))] ⟨rfl, rfl, rfl, trivial⟩ ?_
          have eF : (fX10_powers_51 i17) i20 z21 = t24 := by rw [et24]; (try rw [et23]); unfold fX10_powers_51; first | done | (dsimp only; done) | rfl
          exact Eq.mp (congrArg (fun (z25 : zSt) => zJ κ (wM D kc ad) 51 (zlof [(0, .ref (zad (wM D kc ad) 17)), (1, .int (nI (i17))), (2, .int (nI (i20 + 1)))]) [] z25) eF) (k0 trivial)
        · intro hIi20
          refine z_nm (P := fun (z21 : zSt) => zJ κ (wM D kc ad) 51 (zlof [(0, .ref (zad (wM D kc ad) 17)), (1, .int (nI (i17))), (2, .int (nI (5)))]) [] z21) (fun u26 eu26 => ?_)
          refine j_iload_n C dX10_powers_51 rfl rfl ?_
          refine j_iconst (v := nI 5) C dX10_powers_52 (by decide +kernel) ?_
          refine j_icmp_geN (tgt := 86) C dX10_powers_53 (by decide) (by omega) (by omega) (fun q27 => ?_) (fun q27 => False.elim (by omega))
          refine j_iincN (b := 1) C dX10_powers_86 rfl (by decide +kernel) (by decide) ?_
          refine j_goto (tgt := 44) C dX10_powers_89 (by decide) ?_
          refine j_nmS (fun t28 et28 => ?_)
          refine j_at [(0, .ref (zad (wM D kc ad) 17)), (1, .int (nI (i17 + 1)))] ⟨rfl, rfl, trivial⟩ ?_
          have eF : fX10_powers_44 i17 z18 = t28 := by rw [et28]; (try rw [eu26]); unfold fX10_powers_44; first | done | (dsimp only; done) | rfl
          exact Eq.mp (congrArg (fun (z29 : zSt) => zJ κ (wM D kc ad) 44 (zlof [(0, .ref (zad (wM D kc ad) 17)), (1, .int (nI (i17 + 1)))]) [] z29) eF) (k0 trivial)
      · intro hIi17
        refine z_nm (P := fun (z18 : zSt) => zJ κ (wM D kc ad) 44 (zlof [(0, .ref (zad (wM D kc ad) 17)), (1, .int (nI (5)))]) [] z18) (fun u30 eu30 => ?_)
        refine j_iload_n C dX10_powers_44 rfl rfl ?_
        refine j_iconst (v := nI 5) C dX10_powers_45 (by decide +kernel) ?_
        refine j_icmp_geN (tgt := 92) C dX10_powers_46 (by decide) (by omega) (by omega) (fun q31 => ?_) (fun q31 => False.elim (by omega))
        refine j_iconst (v := nI 0) C dX10_powers_92 (by decide +kernel) ?_
        refine j_istore_n C dX10_powers_93 rfl (by decide) ?_
        refine j_at [(0, .ref (zad (wM D kc ad) 17)), (1, .int (nI (0)))] ⟨rfl, rfl, trivial⟩ ?_
        refine z_up (α := zSt) (fun (i32 : Nat) (z33 : zSt) => zJ κ (wM D kc ad) 94 (zlof [(0, .ref (zad (wM D kc ad) 17)), (1, .int (nI (i32)))]) [] z33) fX10_powers_94 (fun _ _ => True) 11 ?_ (fun _ _ _ _ => trivial) 11 0 u30 (by omega) trivial ?_
        · intro i32 z33 hi32 hIi32 k0
          refine j_iload_n C dX10_powers_94 rfl rfl ?_
          refine j_bipush (v := nI 11) C dX10_powers_95 (by decide +kernel) ?_
          refine j_icmp_geN (tgt := 138) C dX10_powers_97 (by decide) (by omega) (by omega) (fun q34 => False.elim (by omega)) (fun q34 => ?_)
          refine j_aload_n C dX10_powers_100 rfl rfl ?_
          refine j_getR C dX10_powers_101 (fx_RX10_39 D kc ad) (Nat.zero_le _) (show 17 < 18 by decide) ?_
          refine j_iload_n C dX10_powers_104 rfl rfl ?_
          refine j_iconst (v := nI 1) C dX10_powers_105 (by decide +kernel) ?_
          refine j_iaddN C dX10_powers_106 ?_
          refine j_dup2 C dX10_powers_107 rfl rfl ?_
          refine m_lald C dX10_powers_108 (⟨rfl, rfl, by decide, by decide⟩ : ma 12 8) (by omega) ?_
          refine j_aload_n C dX10_powers_109 rfl rfl ?_
          refine j_getR C dX10_powers_110 (fx_RX10_39 D kc ad) (Nat.zero_le _) (show 17 < 18 by decide) ?_
          refine j_iload_n C dX10_powers_113 rfl rfl ?_
          refine m_lald C dX10_powers_114 (⟨rfl, rfl, by decide, by decide⟩ : ma 12 8) (by omega) ?_
          refine j_bipush (v := nI 16) C dX10_powers_115 (by decide +kernel) ?_
          refine j_lshr C dX10_powers_117 (by omega) ?_
          refine j_ladd C dX10_powers_118 ?_
          refine m_last C dX10_powers_119 (⟨rfl, rfl, by decide, by decide⟩ : ma 12 8) (by omega) ?_
          refine j_nmS (fun t35 et35 => ?_)
          refine j_aload_n C dX10_powers_120 rfl rfl ?_
          refine j_getR C dX10_powers_121 (fx_RX10_39 D kc ad) (Nat.zero_le _) (show 17 < 18 by decide) ?_
          refine j_iload_n C dX10_powers_124 rfl rfl ?_
          refine j_dup2 C dX10_powers_125 rfl rfl ?_
          refine m_lald C dX10_powers_126 (⟨rfl, rfl, by decide, by decide⟩ : ma 12 8) (by omega) ?_
          refine j_ldc2 C dX10_powers_127 mw_10_19 ?_
          refine j_land C dX10_powers_130 ?_
          refine m_last C dX10_powers_131 (⟨rfl, rfl, by decide, by decide⟩ : ma 12 8) (by omega) ?_
          refine j_nmS (fun t36 et36 => ?_)
          refine j_iincN (b := 1) C dX10_powers_132 rfl (by decide +kernel) (by decide) ?_
          refine j_goto (tgt := 94) C dX10_powers_135 (by decide) ?_
          refine j_nmS (fun t37 et37 => ?_)
          refine j_at [(0, .ref (zad (wM D kc ad) 17)), (1, .int (nI (i32 + 1)))] ⟨rfl, rfl, trivial⟩ ?_
          have eF : fX10_powers_94 i32 z33 = t37 := by rw [et37]; (try rw [et36]); (try rw [et35]); unfold fX10_powers_94; first | done | (dsimp only; done) | rfl
          exact Eq.mp (congrArg (fun (z38 : zSt) => zJ κ (wM D kc ad) 94 (zlof [(0, .ref (zad (wM D kc ad) 17)), (1, .int (nI (i32 + 1)))]) [] z38) eF) (k0 trivial)
        · intro hIi32
          refine z_nm (P := fun (z33 : zSt) => zJ κ (wM D kc ad) 94 (zlof [(0, .ref (zad (wM D kc ad) 17)), (1, .int (nI (11)))]) [] z33) (fun u39 eu39 => ?_)
          refine j_iload_n C dX10_powers_94 rfl rfl ?_
          refine j_bipush (v := nI 11) C dX10_powers_95 (by decide +kernel) ?_
          refine j_icmp_geN (tgt := 138) C dX10_powers_97 (by decide) (by omega) (by omega) (fun q40 => ?_) (fun q40 => False.elim (by omega))
          refine j_iconst (v := nI 0) C dX10_powers_138 (by decide +kernel) ?_
          refine j_istore_n C dX10_powers_139 rfl (by decide) ?_
          refine j_at [(0, .ref (zad (wM D kc ad) 17)), (1, .int (nI (0)))] ⟨rfl, rfl, trivial⟩ ?_
          refine z_up (α := zSt) (fun (i41 : Nat) (z42 : zSt) => zJ κ (wM D kc ad) 140 (zlof [(0, .ref (zad (wM D kc ad) 17)), (1, .int (nI (i41)))]) [] z42) fX10_powers_140 (fun _ _ => True) 11 ?_ (fun _ _ _ _ => trivial) 11 0 u39 (by omega) trivial ?_
          · intro i41 z42 hi41 hIi41 k0
            refine j_iload_n C dX10_powers_140 rfl rfl ?_
            refine j_bipush (v := nI 11) C dX10_powers_141 (by decide +kernel) ?_
            refine j_icmp_geN (tgt := 189) C dX10_powers_143 (by decide) (by omega) (by omega) (fun q43 => False.elim (by omega)) (fun q43 => ?_)
            refine j_iconst (v := nI 0) C dX10_powers_146 (by decide +kernel) ?_
            refine j_istore_n C dX10_powers_147 rfl (by decide) ?_
            refine j_at [(0, .ref (zad (wM D kc ad) 17)), (1, .int (nI (i41))), (2, .int (nI (0)))] ⟨rfl, rfl, rfl, trivial⟩ ?_
            refine z_up (α := zSt) (fun (i44 : Nat) (z45 : zSt) => zJ κ (wM D kc ad) 148 (zlof [(0, .ref (zad (wM D kc ad) 17)), (1, .int (nI (i41))), (2, .int (nI (i44)))]) [] z45) (fX10_powers_148 i41) (fun _ _ => True) 5 ?_ (fun _ _ _ _ => trivial) 5 0 z42 (by omega) trivial ?_
            · intro i44 z45 hi44 hIi44 k0
              refine j_iload_n C dX10_powers_148 rfl rfl ?_
              refine j_iconst (v := nI 5) C dX10_powers_149 (by decide +kernel) ?_
              refine j_icmp_geN (tgt := 183) C dX10_powers_150 (by decide) (by omega) (by omega) (fun q46 => False.elim (by omega)) (fun q46 => ?_)
              refine j_aload_n C dX10_powers_153 rfl rfl ?_
              refine j_getR C dX10_powers_154 (fx_RX10_42 D kc ad) (Nat.zero_le _) (show 17 < 18 by decide) ?_
              refine j_iload_n C dX10_powers_157 rfl rfl ?_
              refine j_iload_n C dX10_powers_158 rfl rfl ?_
              refine j_iaddN C dX10_powers_159 ?_
              refine j_dup2 C dX10_powers_160 rfl rfl ?_
              refine m_lald C dX10_powers_161 (⟨rfl, rfl, by decide, by decide⟩ : ma 18 9) (by omega) ?_
              refine j_aload_n C dX10_powers_162 rfl rfl ?_
              refine j_getR C dX10_powers_163 (fx_RX10_39 D kc ad) (Nat.zero_le _) (show 17 < 18 by decide) ?_
              refine j_iload_n C dX10_powers_166 rfl rfl ?_
              refine m_lald C dX10_powers_167 (⟨rfl, rfl, by decide, by decide⟩ : ma 12 8) (by omega) ?_
              refine j_aload_n C dX10_powers_168 rfl rfl ?_
              refine j_getR C dX10_powers_169 (fx_RX10_36 D kc ad) (Nat.zero_le _) (show 17 < 18 by decide) ?_
              refine j_iload_n C dX10_powers_172 rfl rfl ?_
              refine m_lald C dX10_powers_173 (⟨rfl, rfl, by decide, by decide⟩ : ma 6 7) (by omega) ?_
              refine j_lmul C dX10_powers_174 ?_
              refine j_ladd C dX10_powers_175 ?_
              refine m_last C dX10_powers_176 (⟨rfl, rfl, by decide, by decide⟩ : ma 18 9) (by omega) ?_
              refine j_nmS (fun t47 et47 => ?_)
              refine j_iincN (b := 1) C dX10_powers_177 rfl (by decide +kernel) (by decide) ?_
              refine j_goto (tgt := 148) C dX10_powers_180 (by decide) ?_
              refine j_nmS (fun t48 et48 => ?_)
              refine j_at [(0, .ref (zad (wM D kc ad) 17)), (1, .int (nI (i41))), (2, .int (nI (i44 + 1)))] ⟨rfl, rfl, rfl, trivial⟩ ?_
              have eF : (fX10_powers_148 i41) i44 z45 = t48 := by rw [et48]; (try rw [et47]); unfold fX10_powers_148; first | done | (dsimp only; done) | rfl
              exact Eq.mp (congrArg (fun (z49 : zSt) => zJ κ (wM D kc ad) 148 (zlof [(0, .ref (zad (wM D kc ad) 17)), (1, .int (nI (i41))), (2, .int (nI (i44 + 1)))]) [] z49) eF) (k0 trivial)
            · intro hIi44
              refine z_nm (P := fun (z45 : zSt) => zJ κ (wM D kc ad) 148 (zlof [(0, .ref (zad (wM D kc ad) 17)), (1, .int (nI (i41))), (2, .int (nI (5)))]) [] z45) (fun u50 eu50 => ?_)
              refine j_iload_n C dX10_powers_148 rfl rfl ?_
              refine j_iconst (v := nI 5) C dX10_powers_149 (by decide +kernel) ?_
              refine j_icmp_geN (tgt := 183) C dX10_powers_150 (by decide) (by omega) (by omega) (fun q51 => ?_) (fun q51 => False.elim (by omega))
              refine j_iincN (b := 1) C dX10_powers_183 rfl (by decide +kernel) (by decide) ?_
              refine j_goto (tgt := 140) C dX10_powers_186 (by decide) ?_
              refine j_nmS (fun t52 et52 => ?_)
              refine j_at [(0, .ref (zad (wM D kc ad) 17)), (1, .int (nI (i41 + 1)))] ⟨rfl, rfl, trivial⟩ ?_
              have eF : fX10_powers_140 i41 z42 = t52 := by rw [et52]; (try rw [eu50]); unfold fX10_powers_140; first | done | (dsimp only; done) | rfl
              exact Eq.mp (congrArg (fun (z53 : zSt) => zJ κ (wM D kc ad) 140 (zlof [(0, .ref (zad (wM D kc ad) 17)), (1, .int (nI (i41 + 1)))]) [] z53) eF) (k0 trivial)
          · intro hIi41
            refine z_nm (P := fun (z42 : zSt) => zJ κ (wM D kc ad) 140 (zlof [(0, .ref (zad (wM D kc ad) 17)), (1, .int (nI (11)))]) [] z42) (fun u54 eu54 => ?_)
            refine j_iload_n C dX10_powers_140 rfl rfl ?_
            refine j_bipush (v := nI 11) C dX10_powers_141 (by decide +kernel) ?_
            refine j_icmp_geN (tgt := 189) C dX10_powers_143 (by decide) (by omega) (by omega) (fun q55 => ?_) (fun q55 => False.elim (by omega))
            refine j_iconst (v := nI 0) C dX10_powers_189 (by decide +kernel) ?_
            refine j_istore_n C dX10_powers_190 rfl (by decide) ?_
            refine j_at [(0, .ref (zad (wM D kc ad) 17)), (1, .int (nI (0)))] ⟨rfl, rfl, trivial⟩ ?_
            refine z_up (α := zSt) (fun (i56 : Nat) (z57 : zSt) => zJ κ (wM D kc ad) 191 (zlof [(0, .ref (zad (wM D kc ad) 17)), (1, .int (nI (i56)))]) [] z57) fX10_powers_191 (fun _ _ => True) 17 ?_ (fun _ _ _ _ => trivial) 17 0 u54 (by omega) trivial ?_
            · intro i56 z57 hi56 hIi56 k0
              refine j_iload_n C dX10_powers_191 rfl rfl ?_
              refine j_bipush (v := nI 17) C dX10_powers_192 (by decide +kernel) ?_
              refine j_icmp_geN (tgt := 235) C dX10_powers_194 (by decide) (by omega) (by omega) (fun q58 => False.elim (by omega)) (fun q58 => ?_)
              refine j_aload_n C dX10_powers_197 rfl rfl ?_
              refine j_getR C dX10_powers_198 (fx_RX10_42 D kc ad) (Nat.zero_le _) (show 17 < 18 by decide) ?_
              refine j_iload_n C dX10_powers_201 rfl rfl ?_
              refine j_iconst (v := nI 1) C dX10_powers_202 (by decide +kernel) ?_
              refine j_iaddN C dX10_powers_203 ?_
              refine j_dup2 C dX10_powers_204 rfl rfl ?_
              refine m_lald C dX10_powers_205 (⟨rfl, rfl, by decide, by decide⟩ : ma 18 9) (by omega) ?_
              refine j_aload_n C dX10_powers_206 rfl rfl ?_
              refine j_getR C dX10_powers_207 (fx_RX10_42 D kc ad) (Nat.zero_le _) (show 17 < 18 by decide) ?_
              refine j_iload_n C dX10_powers_210 rfl rfl ?_
              refine m_lald C dX10_powers_211 (⟨rfl, rfl, by decide, by decide⟩ : ma 18 9) (by omega) ?_
              refine j_bipush (v := nI 16) C dX10_powers_212 (by decide +kernel) ?_
              refine j_lshr C dX10_powers_214 (by omega) ?_
              refine j_ladd C dX10_powers_215 ?_
              refine m_last C dX10_powers_216 (⟨rfl, rfl, by decide, by decide⟩ : ma 18 9) (by omega) ?_
              refine j_nmS (fun t59 et59 => ?_)
              refine j_aload_n C dX10_powers_217 rfl rfl ?_
              refine j_getR C dX10_powers_218 (fx_RX10_42 D kc ad) (Nat.zero_le _) (show 17 < 18 by decide) ?_
              refine j_iload_n C dX10_powers_221 rfl rfl ?_
              refine j_dup2 C dX10_powers_222 rfl rfl ?_
              refine m_lald C dX10_powers_223 (⟨rfl, rfl, by decide, by decide⟩ : ma 18 9) (by omega) ?_
              refine j_ldc2 C dX10_powers_224 mw_10_19 ?_
              refine j_land C dX10_powers_227 ?_
              refine m_last C dX10_powers_228 (⟨rfl, rfl, by decide, by decide⟩ : ma 18 9) (by omega) ?_
              refine j_nmS (fun t60 et60 => ?_)
              refine j_iincN (b := 1) C dX10_powers_229 rfl (by decide +kernel) (by decide) ?_
              refine j_goto (tgt := 191) C dX10_powers_232 (by decide) ?_
              refine j_nmS (fun t61 et61 => ?_)
              refine j_at [(0, .ref (zad (wM D kc ad) 17)), (1, .int (nI (i56 + 1)))] ⟨rfl, rfl, trivial⟩ ?_
              have eF : fX10_powers_191 i56 z57 = t61 := by rw [et61]; (try rw [et60]); (try rw [et59]); unfold fX10_powers_191; first | done | (dsimp only; done) | rfl
              exact Eq.mp (congrArg (fun (z62 : zSt) => zJ κ (wM D kc ad) 191 (zlof [(0, .ref (zad (wM D kc ad) 17)), (1, .int (nI (i56 + 1)))]) [] z62) eF) (k0 trivial)
            · intro hIi56
              refine z_nm (P := fun (z57 : zSt) => zJ κ (wM D kc ad) 191 (zlof [(0, .ref (zad (wM D kc ad) 17)), (1, .int (nI (17)))]) [] z57) (fun u63 eu63 => ?_)
              refine j_iload_n C dX10_powers_191 rfl rfl ?_
              refine j_bipush (v := nI 17) C dX10_powers_192 (by decide +kernel) ?_
              refine j_icmp_geN (tgt := 235) C dX10_powers_194 (by decide) (by omega) (by omega) (fun q64 => ?_) (fun q64 => False.elim (by omega))
              exact j_vret (st := []) C R0 dX10_powers_235 ⟨rfl, (by (try rw [eu63]); (try rw [eu54]); (try rw [eu39]); (try rw [eu30]); (try rw [eu15]); (try rw [eu7]); unfold fX10_powers; (try dsimp only); all_goals ((try simp only [zfst_mk, zsnd_mk]); all_goals rfl))⟩
theorem k2_fX10_powers_2  (i1 : Nat) (z2 : zSt) : zk2 (fX10_powers_2  i1 z2) = zk2 z2 := by
  unfold fX10_powers_2
  (try dsimp only)
  all_goals (simp only [zW_2, zL_2]; done)
theorem k2it_fX10_powers_2  (nn ii : Nat) (xx : zSt) : zk2 (ziter (fX10_powers_2 ) ii nn xx) = zk2 xx := ziter_keep (fun x => zk2 x) _ (k2_fX10_powers_2 ) nn ii xx
theorem k2_fX10_powers_23  (i9 : Nat) (z10 : zSt) : zk2 (fX10_powers_23  i9 z10) = zk2 z10 := by
  unfold fX10_powers_23
  (try dsimp only)
  all_goals (simp only [zW_2, zL_2]; done)
theorem k2it_fX10_powers_23  (nn ii : Nat) (xx : zSt) : zk2 (ziter (fX10_powers_23 ) ii nn xx) = zk2 xx := ziter_keep (fun x => zk2 x) _ (k2_fX10_powers_23 ) nn ii xx
theorem k2_fX10_powers_51 (i17 : Nat) (i20 : Nat) (z21 : zSt) : zk2 (fX10_powers_51 i17 i20 z21) = zk2 z21 := by
  unfold fX10_powers_51
  (try dsimp only)
  all_goals (simp only [zW_2, zL_2]; done)
theorem k2it_fX10_powers_51 (i17 : Nat) (nn ii : Nat) (xx : zSt) : zk2 (ziter (fX10_powers_51 i17) ii nn xx) = zk2 xx := ziter_keep (fun x => zk2 x) _ (k2_fX10_powers_51 i17) nn ii xx
theorem k2_fX10_powers_44  (i17 : Nat) (z18 : zSt) : zk2 (fX10_powers_44  i17 z18) = zk2 z18 := by
  unfold fX10_powers_44
  (try dsimp only)
  all_goals (simp only [zW_2, zL_2, k2_fX10_powers_51, k2it_fX10_powers_51]; done)
theorem k2it_fX10_powers_44  (nn ii : Nat) (xx : zSt) : zk2 (ziter (fX10_powers_44 ) ii nn xx) = zk2 xx := ziter_keep (fun x => zk2 x) _ (k2_fX10_powers_44 ) nn ii xx
theorem k2_fX10_powers_94  (i32 : Nat) (z33 : zSt) : zk2 (fX10_powers_94  i32 z33) = zk2 z33 := by
  unfold fX10_powers_94
  (try dsimp only)
  all_goals (simp only [zW_2, zL_2]; done)
theorem k2it_fX10_powers_94  (nn ii : Nat) (xx : zSt) : zk2 (ziter (fX10_powers_94 ) ii nn xx) = zk2 xx := ziter_keep (fun x => zk2 x) _ (k2_fX10_powers_94 ) nn ii xx
theorem k2_fX10_powers_148 (i41 : Nat) (i44 : Nat) (z45 : zSt) : zk2 (fX10_powers_148 i41 i44 z45) = zk2 z45 := by
  unfold fX10_powers_148
  (try dsimp only)
  all_goals (simp only [zW_2, zL_2]; done)
theorem k2it_fX10_powers_148 (i41 : Nat) (nn ii : Nat) (xx : zSt) : zk2 (ziter (fX10_powers_148 i41) ii nn xx) = zk2 xx := ziter_keep (fun x => zk2 x) _ (k2_fX10_powers_148 i41) nn ii xx
theorem k2_fX10_powers_140  (i41 : Nat) (z42 : zSt) : zk2 (fX10_powers_140  i41 z42) = zk2 z42 := by
  unfold fX10_powers_140
  (try dsimp only)
  all_goals (simp only [zW_2, zL_2, k2_fX10_powers_148, k2it_fX10_powers_148]; done)
theorem k2it_fX10_powers_140  (nn ii : Nat) (xx : zSt) : zk2 (ziter (fX10_powers_140 ) ii nn xx) = zk2 xx := ziter_keep (fun x => zk2 x) _ (k2_fX10_powers_140 ) nn ii xx
theorem k2_fX10_powers_191  (i56 : Nat) (z57 : zSt) : zk2 (fX10_powers_191  i56 z57) = zk2 z57 := by
  unfold fX10_powers_191
  (try dsimp only)
  all_goals (simp only [zW_2, zL_2]; done)
theorem k2it_fX10_powers_191  (nn ii : Nat) (xx : zSt) : zk2 (ziter (fX10_powers_191 ) ii nn xx) = zk2 xx := ziter_keep (fun x => zk2 x) _ (k2_fX10_powers_191 ) nn ii xx
theorem k2_fX10_powers  (s0 : zSt) : zk2 (fX10_powers  s0) = zk2 s0 := by
  unfold fX10_powers
  (try dsimp only)
  all_goals (simp only [zW_2, zL_2, k2_fX10_powers_140, k2_fX10_powers_191, k2_fX10_powers_2, k2_fX10_powers_23, k2_fX10_powers_44, k2_fX10_powers_94, k2it_fX10_powers_140, k2it_fX10_powers_191, k2it_fX10_powers_2, k2it_fX10_powers_23, k2it_fX10_powers_44, k2it_fX10_powers_94]; done)
theorem i2_fX10_powers  (s0 : zSt) (kk9 : Nat) : (fX10_powers  s0).2.2 kk9 = s0.2.2 kk9 := z2_I (k2_fX10_powers s0) kk9
theorem i3_fX10_powers  (s0 : zSt) (kk9 : Nat) : zi (fX10_powers  s0) kk9 = zi s0 kk9 := zi_of (k2_fX10_powers s0) kk9

def fX10_behindPoint_2  (i1 : Nat) (z2 : zSt) : zSt :=
    let t4 := zW z2 7 i1 ((0 : Int64))
    t4
def fX10_behindPoint_a1 (t13 : zSt) : zSt :=
    t13
def fX10_behindPoint_a2 (i9 : Nat) (t13 : zSt) : zSt :=
    let t22 := zW t13 7 (i9 / 2 ^ 4) ((t13.1 7 (i9 / 2 ^ 4)) &&& ((zsl ((1 : Int64)) (i9 % 2 ^ 4)) ^^^ ((-1 : Int64))))
    t22
def fX10_behindPoint_a3 (q : Nat) (i9 : Nat) (t13 : zSt) : zSt :=
    let x16 := ((t13.1 8 8) + (zsl (t13.1 8 9) 16)) + (zsl (t13.1 8 10) 32)
    if lg_cmp x16 ((nI (q)).toInt64) < 0 then
      fX10_behindPoint_a1 t13
    else
      fX10_behindPoint_a2 i9 t13
def fX10_behindPoint_a4 (t13 : zSt) : zSt :=
    t13
def fX10_behindPoint_a5 (i9 : Nat) (t13 : zSt) : zSt :=
    let t32 := zW t13 7 (i9 / 2 ^ 4) ((t13.1 7 (i9 / 2 ^ 4)) &&& ((zsl ((1 : Int64)) (i9 % 2 ^ 4)) ^^^ ((-1 : Int64))))
    t32
def fX10_behindPoint_a6 (q : Nat) (i9 : Nat) (t13 : zSt) : zSt :=
    let x26 := (((t13.1 9 12) + (zsl (t13.1 9 13) 16)) + (zsl (t13.1 9 14) 32)) + (zsl (t13.1 9 15) 48)
    if lg_cmp x26 ((nI (q)).toInt64) < 0 then
      fX10_behindPoint_a4 t13
    else
      fX10_behindPoint_a5 i9 t13
def fX10_behindPoint_24 (q : Nat) (third : Bool) (i9 : Nat) (z10 : zSt) : zSt :=
    let t12 := zW z10 7 (i9 / 2 ^ 4) ((z10.1 7 (i9 / 2 ^ 4)) ||| (zsl ((1 : Int64)) (i9 % 2 ^ 4)))
    let t13 := fX10_powers  t12
    bif third then
      fX10_behindPoint_a6 q i9 t13
    else
      fX10_behindPoint_a3 q i9 t13
def fX10_behindPoint (q : Nat) (third : Bool) (s0 : zSt) : Int64 × zSt :=
    let u7 := ziter fX10_behindPoint_2 0 6 s0
    let u35 := zdown (fX10_behindPoint_24 q third) 69 u7
    ((((u35.1 7 0) ||| (zsl (u35.1 7 1) 16)) ||| (zsl (u35.1 7 2) 32)) ||| (zsl (u35.1 7 3) 48), u35)
set_option maxHeartbeats 4000000 in
set_option maxRecDepth 100000 in
theorem k_X10_behindPoint (l : Launch) (D : va_G) (kc : Nat → ClassId) (ad : Nat → Nat) (q : Nat) (hq : q < 1000) (third : Bool) (s0 : zSt) : zM l yX10_behindPoint cX10_behindPoint 6 (some .long) rX10_behindPoint (wM D kc ad) [.ref (zad (wM D kc ad) 17), .int (nI (q)), .int (bI third)] s0 (zV1 (.long (zfst (fX10_behindPoint q third s0))) (zsnd (fX10_behindPoint q third s0))) := by
  refine z_of (own := RX10) (by decide +kernel) rfl (Nat.le_of_ble_eq_true rfl) ?_
  intro κ C R0
  refine j_at [(0, .ref (zad (wM D kc ad) 17)), (1, .int (nI (q))), (2, .int (bI third))] ⟨rfl, rfl, rfl, trivial⟩ ?_
  refine j_iconst (v := nI 0) C dX10_behindPoint_0 (by decide +kernel) ?_
  refine j_istore_n C dX10_behindPoint_1 rfl (by decide) ?_
  refine j_at [(0, .ref (zad (wM D kc ad) 17)), (1, .int (nI (q))), (2, .int (bI third)), (3, .int (nI (0)))] ⟨rfl, rfl, rfl, rfl, trivial⟩ ?_
  refine z_up (α := zSt) (fun (i1 : Nat) (z2 : zSt) => zJ κ (wM D kc ad) 2 (zlof [(0, .ref (zad (wM D kc ad) 17)), (1, .int (nI (q))), (2, .int (bI third)), (3, .int (nI (i1)))]) [] z2) fX10_behindPoint_2 (fun _ _ => True) 6 ?_ (fun _ _ _ _ => trivial) 6 0 s0 (by omega) trivial ?_
  · intro i1 z2 hi1 hIi1 k0
    refine j_iload_n C dX10_behindPoint_2 rfl rfl ?_
    refine j_bipush (v := nI 6) C dX10_behindPoint_3 (by decide +kernel) ?_
    refine j_icmp_geN (tgt := 21) C dX10_behindPoint_5 (by decide) (by omega) (by omega) (fun q3 => False.elim (by omega)) (fun q3 => ?_)
    refine j_aload_n C dX10_behindPoint_8 rfl rfl ?_
    refine j_getR C dX10_behindPoint_9 (fx_RX10_36 D kc ad) (Nat.zero_le _) (show 17 < 18 by decide) ?_
    refine j_iload_n C dX10_behindPoint_12 rfl rfl ?_
    refine j_lconst (v := 0) C dX10_behindPoint_13 rfl ?_
    refine m_last C dX10_behindPoint_14 (⟨rfl, rfl, by decide, by decide⟩ : ma 6 7) (by omega) ?_
    refine j_nmS (fun t4 et4 => ?_)
    refine j_iincN (b := 1) C dX10_behindPoint_15 rfl (by decide +kernel) (by decide) ?_
    refine j_goto (tgt := 2) C dX10_behindPoint_18 (by decide) ?_
    refine j_nmS (fun t5 et5 => ?_)
    refine j_at [(0, .ref (zad (wM D kc ad) 17)), (1, .int (nI (q))), (2, .int (bI third)), (3, .int (nI (i1 + 1)))] ⟨rfl, rfl, rfl, rfl, trivial⟩ ?_
    have eF : fX10_behindPoint_2 i1 z2 = t5 := by rw [et5]; (try rw [et4]); unfold fX10_behindPoint_2; first | done | (dsimp only; done) | rfl
    exact Eq.mp (congrArg (fun (z6 : zSt) => zJ κ (wM D kc ad) 2 (zlof [(0, .ref (zad (wM D kc ad) 17)), (1, .int (nI (q))), (2, .int (bI third)), (3, .int (nI (i1 + 1)))]) [] z6) eF) (k0 trivial)
  · intro hIi1
    refine z_nm (P := fun (z2 : zSt) => zJ κ (wM D kc ad) 2 (zlof [(0, .ref (zad (wM D kc ad) 17)), (1, .int (nI (q))), (2, .int (bI third)), (3, .int (nI (6)))]) [] z2) (fun u7 eu7 => ?_)
    refine j_iload_n C dX10_behindPoint_2 rfl rfl ?_
    refine j_bipush (v := nI 6) C dX10_behindPoint_3 (by decide +kernel) ?_
    refine j_icmp_geN (tgt := 21) C dX10_behindPoint_5 (by decide) (by omega) (by omega) (fun q8 => ?_) (fun q8 => False.elim (by omega))
    refine j_bipush (v := nI 68) C dX10_behindPoint_21 (by decide +kernel) ?_
    refine j_istore_n C dX10_behindPoint_23 rfl (by decide) ?_
    refine j_at [(0, .ref (zad (wM D kc ad) 17)), (1, .int (nI (q))), (2, .int (bI third)), (3, .int (dI 69))] ⟨rfl, rfl, rfl, congrArg (fun q => some (Value.int q)) (dI_succ _).symm, trivial⟩ ?_
    refine z_dn (α := zSt) (fun (i9 : Nat) (z10 : zSt) => zJ κ (wM D kc ad) 24 (zlof [(0, .ref (zad (wM D kc ad) 17)), (1, .int (nI (q))), (2, .int (bI third)), (3, .int (dI i9))]) [] z10) (fX10_behindPoint_24 q third) (fun i9 z10 => i9 ≤ 69) ?_ (fun _ _ h => by omega) 69 u7 (Nat.le_refl _) ?_
    · intro i9 z10 hIi9 k0
      refine j_at [(0, .ref (zad (wM D kc ad) 17)), (1, .int (nI (q))), (2, .int (bI third)), (3, .int (nI (i9)))] ⟨rfl, rfl, rfl, congrArg (fun q => some (Value.int q)) (dI_succ _), trivial⟩ ?_
      refine j_iload_n C dX10_behindPoint_24 rfl rfl ?_
      refine j_if_lt (tgt := 162) C dX10_behindPoint_25 (by decide) (fun q11 => False.elim (nI_pos (by omega) q11)) (fun q11 => ?_)
      refine j_aload_n C dX10_behindPoint_28 rfl rfl ?_
      refine j_getR C dX10_behindPoint_29 (fx_RX10_36 D kc ad) (Nat.zero_le _) (show 17 < 18 by decide) ?_
      refine j_iload_n C dX10_behindPoint_32 rfl rfl ?_
      refine j_iconst (v := nI 4) C dX10_behindPoint_33 (by decide +kernel) ?_
      refine j_ishrN C dX10_behindPoint_34 (by omega) (by decide +kernel) ?_
      refine j_dup2 C dX10_behindPoint_35 rfl rfl ?_
      refine m_lald C dX10_behindPoint_36 (⟨rfl, rfl, by decide, by decide⟩ : ma 6 7) (by omega) ?_
      refine j_lconst (v := 1) C dX10_behindPoint_37 rfl ?_
      refine j_iload_n C dX10_behindPoint_38 rfl rfl ?_
      refine j_bipush (v := nI 15) C dX10_behindPoint_39 (by decide +kernel) ?_
      refine j_iandN C 4 dX10_behindPoint_41 (by omega) (by decide +kernel) ?_
      refine j_lshl C dX10_behindPoint_42 (by omega) ?_
      refine j_lor C dX10_behindPoint_43 ?_
      refine m_last C dX10_behindPoint_44 (⟨rfl, rfl, by decide, by decide⟩ : ma 6 7) (by omega) ?_
      refine j_nmS (fun t12 et12 => ?_)
      refine j_aload_n C dX10_behindPoint_45 rfl rfl ?_
      refine j_callV0 (T := TX10) (N := 23) C dX10_behindPoint_46 (k_X10_powers l D kc ad  _ ) zy_X10_powers mw_14_9 rfl rfl (Nat.zero_le _) (show 17 < 18 by decide) rfl rfl (Nat.le_of_ble_eq_true rfl) ⟨rfl, rfl, Nat.le_of_ble_eq_true rfl, Nat.le_of_ble_eq_true rfl⟩ ?_
      refine j_nmS (fun t13 et13 => ?_)
      refine j_iload_n C dX10_behindPoint_49 rfl rfl ?_
      refine j_if_eqB (tgt := 96) C dX10_behindPoint_50 (by decide) (fun q14 => ?_) (fun q14 => ?_)
      · have hA15 : (fX10_behindPoint_24 q third) i9 z10 = fX10_behindPoint_a3 q i9 t13 := by (try rw [et13]); (try rw [et12]); have q14z := q14; (try rw [et13] at q14z); (try rw [et12] at q14z); (try dsimp only at q14z); unfold fX10_behindPoint_24; (try dsimp only); rw [q14z, cond_false]; (try rfl)
        refine j_aload_n C dX10_behindPoint_96 rfl rfl ?_
        refine j_getR C dX10_behindPoint_97 (fx_RX10_39 D kc ad) (Nat.zero_le _) (show 17 < 18 by decide) ?_
        refine j_bipush (v := nI 8) C dX10_behindPoint_100 (by decide +kernel) ?_
        refine m_lald C dX10_behindPoint_102 (⟨rfl, rfl, by decide, by decide⟩ : ma 12 8) (by omega) ?_
        refine j_aload_n C dX10_behindPoint_103 rfl rfl ?_
        refine j_getR C dX10_behindPoint_104 (fx_RX10_39 D kc ad) (Nat.zero_le _) (show 17 < 18 by decide) ?_
        refine j_bipush (v := nI 9) C dX10_behindPoint_107 (by decide +kernel) ?_
        refine m_lald C dX10_behindPoint_109 (⟨rfl, rfl, by decide, by decide⟩ : ma 12 8) (by omega) ?_
        refine j_bipush (v := nI 16) C dX10_behindPoint_110 (by decide +kernel) ?_
        refine j_lshl C dX10_behindPoint_112 (by omega) ?_
        refine j_ladd C dX10_behindPoint_113 ?_
        refine j_aload_n C dX10_behindPoint_114 rfl rfl ?_
        refine j_getR C dX10_behindPoint_115 (fx_RX10_39 D kc ad) (Nat.zero_le _) (show 17 < 18 by decide) ?_
        refine j_bipush (v := nI 10) C dX10_behindPoint_118 (by decide +kernel) ?_
        refine m_lald C dX10_behindPoint_120 (⟨rfl, rfl, by decide, by decide⟩ : ma 12 8) (by omega) ?_
        refine j_bipush (v := nI 32) C dX10_behindPoint_121 (by decide +kernel) ?_
        refine j_lshl C dX10_behindPoint_123 (by omega) ?_
        refine j_ladd C dX10_behindPoint_124 ?_
        refine j_nmL (fun x16 ex16 => ?_)
        refine j_lstore C dX10_behindPoint_125 (by decide) ?_
        refine j_lload C dX10_behindPoint_127 rfl ?_
        refine j_iload_n C dX10_behindPoint_129 rfl rfl ?_
        refine j_i2l C dX10_behindPoint_130 ?_
        refine j_lcmp C dX10_behindPoint_131 ?_
        refine j_if_lt (tgt := 156) C dX10_behindPoint_132 (by decide) (fun q17 => ?_) (fun q17 => ?_)
        · have hA18 : fX10_behindPoint_a3 q i9 t13 = fX10_behindPoint_a1 t13 := by (try rw [ex16]); have q17z := q17; (try rw [ex16] at q17z); (try dsimp only at q17z); unfold fX10_behindPoint_a3; (try dsimp only); rw [if_pos q17z]; (try rfl)
          refine j_iincD C dX10_behindPoint_156 rfl (by decide) ?_
          refine j_goto (tgt := 24) C dX10_behindPoint_159 (by decide) ?_
          refine j_nmS (fun t19 et19 => ?_)
          refine j_at [(0, .ref (zad (wM D kc ad) 17)), (1, .int (nI (q))), (2, .int (bI third)), (3, .int (dI i9))] ⟨rfl, rfl, rfl, rfl, trivial⟩ ?_
          have eF : (fX10_behindPoint_24 q third) i9 z10 = t19 := by rw [hA15, hA18]; rw [et19]; unfold fX10_behindPoint_a1; first | done | (dsimp only; done) | rfl
          exact Eq.mp (congrArg (fun (z20 : zSt) => zJ κ (wM D kc ad) 24 (zlof [(0, .ref (zad (wM D kc ad) 17)), (1, .int (nI (q))), (2, .int (bI third)), (3, .int (dI i9))]) [] z20) eF) (k0 ((by omega)))
        · have hA21 : fX10_behindPoint_a3 q i9 t13 = fX10_behindPoint_a2 i9 t13 := by (try rw [ex16]); have q17z := q17; (try rw [ex16] at q17z); (try dsimp only at q17z); unfold fX10_behindPoint_a3; (try dsimp only); rw [if_neg q17z]; (try rfl)
          refine j_aload_n C dX10_behindPoint_135 rfl rfl ?_
          refine j_getR C dX10_behindPoint_136 (fx_RX10_36 D kc ad) (Nat.zero_le _) (show 17 < 18 by decide) ?_
          refine j_iload_n C dX10_behindPoint_139 rfl rfl ?_
          refine j_iconst (v := nI 4) C dX10_behindPoint_140 (by decide +kernel) ?_
          refine j_ishrN C dX10_behindPoint_141 (by omega) (by decide +kernel) ?_
          refine j_dup2 C dX10_behindPoint_142 rfl rfl ?_
          refine m_lald C dX10_behindPoint_143 (⟨rfl, rfl, by decide, by decide⟩ : ma 6 7) (by omega) ?_
          refine j_lconst (v := 1) C dX10_behindPoint_144 rfl ?_
          refine j_iload_n C dX10_behindPoint_145 rfl rfl ?_
          refine j_bipush (v := nI 15) C dX10_behindPoint_146 (by decide +kernel) ?_
          refine j_iandN C 4 dX10_behindPoint_148 (by omega) (by decide +kernel) ?_
          refine j_lshl C dX10_behindPoint_149 (by omega) ?_
          refine j_ldc2 C dX10_behindPoint_150 mw_9_23 ?_
          refine j_lxor C dX10_behindPoint_153 ?_
          refine j_land C dX10_behindPoint_154 ?_
          refine m_last C dX10_behindPoint_155 (⟨rfl, rfl, by decide, by decide⟩ : ma 6 7) (by omega) ?_
          refine j_nmS (fun t22 et22 => ?_)
          refine j_iincD C dX10_behindPoint_156 rfl (by decide) ?_
          refine j_goto (tgt := 24) C dX10_behindPoint_159 (by decide) ?_
          refine j_nmS (fun t23 et23 => ?_)
          refine j_at [(0, .ref (zad (wM D kc ad) 17)), (1, .int (nI (q))), (2, .int (bI third)), (3, .int (dI i9))] ⟨rfl, rfl, rfl, rfl, trivial⟩ ?_
          have eF : (fX10_behindPoint_24 q third) i9 z10 = t23 := by rw [hA15, hA21]; rw [et23]; (try rw [et22]); unfold fX10_behindPoint_a2; first | done | (dsimp only; done) | rfl
          exact Eq.mp (congrArg (fun (z24 : zSt) => zJ κ (wM D kc ad) 24 (zlof [(0, .ref (zad (wM D kc ad) 17)), (1, .int (nI (q))), (2, .int (bI third)), (3, .int (dI i9))]) [] z24) eF) (k0 ((by omega)))
      · have hA25 : (fX10_behindPoint_24 q third) i9 z10 = fX10_behindPoint_a6 q i9 t13 := by (try rw [et13]); (try rw [et12]); have q14z := q14; (try rw [et13] at q14z); (try rw [et12] at q14z); (try dsimp only at q14z); unfold fX10_behindPoint_24; (try dsimp only); rw [q14z, cond_true]; (try rfl)
        refine j_aload_n C dX10_behindPoint_53 rfl rfl ?_
        refine j_getR C dX10_behindPoint_54 (fx_RX10_42 D kc ad) (Nat.zero_le _) (show 17 < 18 by decide) ?_
        refine j_bipush (v := nI 12) C dX10_behindPoint_57 (by decide +kernel) ?_
        refine m_lald C dX10_behindPoint_59 (⟨rfl, rfl, by decide, by decide⟩ : ma 18 9) (by omega) ?_
        refine j_aload_n C dX10_behindPoint_60 rfl rfl ?_
        refine j_getR C dX10_behindPoint_61 (fx_RX10_42 D kc ad) (Nat.zero_le _) (show 17 < 18 by decide) ?_
        refine j_bipush (v := nI 13) C dX10_behindPoint_64 (by decide +kernel) ?_
        refine m_lald C dX10_behindPoint_66 (⟨rfl, rfl, by decide, by decide⟩ : ma 18 9) (by omega) ?_
        refine j_bipush (v := nI 16) C dX10_behindPoint_67 (by decide +kernel) ?_
        refine j_lshl C dX10_behindPoint_69 (by omega) ?_
        refine j_ladd C dX10_behindPoint_70 ?_
        refine j_aload_n C dX10_behindPoint_71 rfl rfl ?_
        refine j_getR C dX10_behindPoint_72 (fx_RX10_42 D kc ad) (Nat.zero_le _) (show 17 < 18 by decide) ?_
        refine j_bipush (v := nI 14) C dX10_behindPoint_75 (by decide +kernel) ?_
        refine m_lald C dX10_behindPoint_77 (⟨rfl, rfl, by decide, by decide⟩ : ma 18 9) (by omega) ?_
        refine j_bipush (v := nI 32) C dX10_behindPoint_78 (by decide +kernel) ?_
        refine j_lshl C dX10_behindPoint_80 (by omega) ?_
        refine j_ladd C dX10_behindPoint_81 ?_
        refine j_aload_n C dX10_behindPoint_82 rfl rfl ?_
        refine j_getR C dX10_behindPoint_83 (fx_RX10_42 D kc ad) (Nat.zero_le _) (show 17 < 18 by decide) ?_
        refine j_bipush (v := nI 15) C dX10_behindPoint_86 (by decide +kernel) ?_
        refine m_lald C dX10_behindPoint_88 (⟨rfl, rfl, by decide, by decide⟩ : ma 18 9) (by omega) ?_
        refine j_bipush (v := nI 48) C dX10_behindPoint_89 (by decide +kernel) ?_
        refine j_lshl C dX10_behindPoint_91 (by omega) ?_
        refine j_ladd C dX10_behindPoint_92 ?_
        refine j_goto (tgt := 125) C dX10_behindPoint_93 (by decide) ?_
        refine j_nmL (fun x26 ex26 => ?_)
        refine j_lstore C dX10_behindPoint_125 (by decide) ?_
        refine j_lload C dX10_behindPoint_127 rfl ?_
        refine j_iload_n C dX10_behindPoint_129 rfl rfl ?_
        refine j_i2l C dX10_behindPoint_130 ?_
        refine j_lcmp C dX10_behindPoint_131 ?_
        refine j_if_lt (tgt := 156) C dX10_behindPoint_132 (by decide) (fun q27 => ?_) (fun q27 => ?_)
        · have hA28 : fX10_behindPoint_a6 q i9 t13 = fX10_behindPoint_a4 t13 := by (try rw [ex26]); have q27z := q27; (try rw [ex26] at q27z); (try dsimp only at q27z); unfold fX10_behindPoint_a6; (try dsimp only); rw [if_pos q27z]; (try rfl)
          refine j_iincD C dX10_behindPoint_156 rfl (by decide) ?_
          refine j_goto (tgt := 24) C dX10_behindPoint_159 (by decide) ?_
          refine j_nmS (fun t29 et29 => ?_)
          refine j_at [(0, .ref (zad (wM D kc ad) 17)), (1, .int (nI (q))), (2, .int (bI third)), (3, .int (dI i9))] ⟨rfl, rfl, rfl, rfl, trivial⟩ ?_
          have eF : (fX10_behindPoint_24 q third) i9 z10 = t29 := by rw [hA25, hA28]; rw [et29]; unfold fX10_behindPoint_a4; first | done | (dsimp only; done) | rfl
          exact Eq.mp (congrArg (fun (z30 : zSt) => zJ κ (wM D kc ad) 24 (zlof [(0, .ref (zad (wM D kc ad) 17)), (1, .int (nI (q))), (2, .int (bI third)), (3, .int (dI i9))]) [] z30) eF) (k0 ((by omega)))
        · have hA31 : fX10_behindPoint_a6 q i9 t13 = fX10_behindPoint_a5 i9 t13 := by (try rw [ex26]); have q27z := q27; (try rw [ex26] at q27z); (try dsimp only at q27z); unfold fX10_behindPoint_a6; (try dsimp only); rw [if_neg q27z]; (try rfl)
          refine j_aload_n C dX10_behindPoint_135 rfl rfl ?_
          refine j_getR C dX10_behindPoint_136 (fx_RX10_36 D kc ad) (Nat.zero_le _) (show 17 < 18 by decide) ?_
          refine j_iload_n C dX10_behindPoint_139 rfl rfl ?_
          refine j_iconst (v := nI 4) C dX10_behindPoint_140 (by decide +kernel) ?_
          refine j_ishrN C dX10_behindPoint_141 (by omega) (by decide +kernel) ?_
          refine j_dup2 C dX10_behindPoint_142 rfl rfl ?_
          refine m_lald C dX10_behindPoint_143 (⟨rfl, rfl, by decide, by decide⟩ : ma 6 7) (by omega) ?_
          refine j_lconst (v := 1) C dX10_behindPoint_144 rfl ?_
          refine j_iload_n C dX10_behindPoint_145 rfl rfl ?_
          refine j_bipush (v := nI 15) C dX10_behindPoint_146 (by decide +kernel) ?_
          refine j_iandN C 4 dX10_behindPoint_148 (by omega) (by decide +kernel) ?_
          refine j_lshl C dX10_behindPoint_149 (by omega) ?_
          refine j_ldc2 C dX10_behindPoint_150 mw_9_23 ?_
          refine j_lxor C dX10_behindPoint_153 ?_
          refine j_land C dX10_behindPoint_154 ?_
          refine m_last C dX10_behindPoint_155 (⟨rfl, rfl, by decide, by decide⟩ : ma 6 7) (by omega) ?_
          refine j_nmS (fun t32 et32 => ?_)
          refine j_iincD C dX10_behindPoint_156 rfl (by decide) ?_
          refine j_goto (tgt := 24) C dX10_behindPoint_159 (by decide) ?_
          refine j_nmS (fun t33 et33 => ?_)
          refine j_at [(0, .ref (zad (wM D kc ad) 17)), (1, .int (nI (q))), (2, .int (bI third)), (3, .int (dI i9))] ⟨rfl, rfl, rfl, rfl, trivial⟩ ?_
          have eF : (fX10_behindPoint_24 q third) i9 z10 = t33 := by rw [hA25, hA31]; rw [et33]; (try rw [et32]); unfold fX10_behindPoint_a5; first | done | (dsimp only; done) | rfl
          exact Eq.mp (congrArg (fun (z34 : zSt) => zJ κ (wM D kc ad) 24 (zlof [(0, .ref (zad (wM D kc ad) 17)), (1, .int (nI (q))), (2, .int (bI third)), (3, .int (dI i9))]) [] z34) eF) (k0 ((by omega)))
    · intro hIi9
      revert hIi9
      refine z_nm (P := fun (z10 : zSt) => (fun i9 z10 => i9 ≤ 69) 0 z10 → zJ κ (wM D kc ad) 24 (zlof [(0, .ref (zad (wM D kc ad) 17)), (1, .int (nI (q))), (2, .int (bI third)), (3, .int (dI 0))]) [] z10) (fun u35 eu35 => ?_)
      intro hIi9
      refine j_iload_n C dX10_behindPoint_24 rfl rfl ?_
      refine j_if_lt (tgt := 162) C dX10_behindPoint_25 (by decide) (fun q36 => ?_) (fun q36 => False.elim (q36 dI_0))
      refine j_aload_n C dX10_behindPoint_162 rfl rfl ?_
      refine j_getR C dX10_behindPoint_163 (fx_RX10_36 D kc ad) (Nat.zero_le _) (show 17 < 18 by decide) ?_
      refine j_iconst (v := nI 0) C dX10_behindPoint_166 (by decide +kernel) ?_
      refine m_lald C dX10_behindPoint_167 (⟨rfl, rfl, by decide, by decide⟩ : ma 6 7) (by omega) ?_
      refine j_aload_n C dX10_behindPoint_168 rfl rfl ?_
      refine j_getR C dX10_behindPoint_169 (fx_RX10_36 D kc ad) (Nat.zero_le _) (show 17 < 18 by decide) ?_
      refine j_iconst (v := nI 1) C dX10_behindPoint_172 (by decide +kernel) ?_
      refine m_lald C dX10_behindPoint_173 (⟨rfl, rfl, by decide, by decide⟩ : ma 6 7) (by omega) ?_
      refine j_bipush (v := nI 16) C dX10_behindPoint_174 (by decide +kernel) ?_
      refine j_lshl C dX10_behindPoint_176 (by omega) ?_
      refine j_lor C dX10_behindPoint_177 ?_
      refine j_aload_n C dX10_behindPoint_178 rfl rfl ?_
      refine j_getR C dX10_behindPoint_179 (fx_RX10_36 D kc ad) (Nat.zero_le _) (show 17 < 18 by decide) ?_
      refine j_iconst (v := nI 2) C dX10_behindPoint_182 (by decide +kernel) ?_
      refine m_lald C dX10_behindPoint_183 (⟨rfl, rfl, by decide, by decide⟩ : ma 6 7) (by omega) ?_
      refine j_bipush (v := nI 32) C dX10_behindPoint_184 (by decide +kernel) ?_
      refine j_lshl C dX10_behindPoint_186 (by omega) ?_
      refine j_lor C dX10_behindPoint_187 ?_
      refine j_aload_n C dX10_behindPoint_188 rfl rfl ?_
      refine j_getR C dX10_behindPoint_189 (fx_RX10_36 D kc ad) (Nat.zero_le _) (show 17 < 18 by decide) ?_
      refine j_iconst (v := nI 3) C dX10_behindPoint_192 (by decide +kernel) ?_
      refine m_lald C dX10_behindPoint_193 (⟨rfl, rfl, by decide, by decide⟩ : ma 6 7) (by omega) ?_
      refine j_bipush (v := nI 48) C dX10_behindPoint_194 (by decide +kernel) ?_
      refine j_lshl C dX10_behindPoint_196 (by omega) ?_
      refine j_lor C dX10_behindPoint_197 ?_
      exact j_lret (st := []) C R0 dX10_behindPoint_198 ⟨(by (try rw [eu35]); (try rw [eu7]); unfold fX10_behindPoint; (try dsimp only); all_goals ((try simp only [zfst_mk, zsnd_mk]); all_goals rfl)), ((by (try rw [eu35]); (try rw [eu7]); unfold fX10_behindPoint; (try dsimp only); all_goals ((try simp only [zfst_mk, zsnd_mk]); all_goals rfl)))⟩
theorem k2_fX10_behindPoint_2  (i1 : Nat) (z2 : zSt) : zk2 (fX10_behindPoint_2  i1 z2) = zk2 z2 := by
  unfold fX10_behindPoint_2
  (try dsimp only)
  all_goals (simp only [zW_2, zL_2]; done)
theorem k2it_fX10_behindPoint_2  (nn ii : Nat) (xx : zSt) : zk2 (ziter (fX10_behindPoint_2 ) ii nn xx) = zk2 xx := ziter_keep (fun x => zk2 x) _ (k2_fX10_behindPoint_2 ) nn ii xx
theorem k2_fX10_behindPoint_a1 (t13 : zSt) : zk2 (fX10_behindPoint_a1 t13) = zk2 t13 := by
  unfold fX10_behindPoint_a1
  (try dsimp only)
  all_goals (simp only [zW_2, zL_2]; done)
theorem k2_fX10_behindPoint_a2 (i9 : Nat) (t13 : zSt) : zk2 (fX10_behindPoint_a2 i9 t13) = zk2 t13 := by
  unfold fX10_behindPoint_a2
  (try dsimp only)
  all_goals (simp only [zW_2, zL_2]; done)
theorem k2_fX10_behindPoint_a3 (q : Nat) (i9 : Nat) (t13 : zSt) : zk2 (fX10_behindPoint_a3 q i9 t13) = zk2 t13 := by
  unfold fX10_behindPoint_a3
  (try dsimp only)
  all_goals (refine ite_keep (fun r : zSt => zk2 r) _ _ ?_ ?_ <;> (simp only [zW_2, zL_2, k2_fX10_behindPoint_a1, k2_fX10_behindPoint_a2]; done))
theorem k2_fX10_behindPoint_a4 (t13 : zSt) : zk2 (fX10_behindPoint_a4 t13) = zk2 t13 := by
  unfold fX10_behindPoint_a4
  (try dsimp only)
  all_goals (simp only [zW_2, zL_2]; done)
theorem k2_fX10_behindPoint_a5 (i9 : Nat) (t13 : zSt) : zk2 (fX10_behindPoint_a5 i9 t13) = zk2 t13 := by
  unfold fX10_behindPoint_a5
  (try dsimp only)
  all_goals (simp only [zW_2, zL_2]; done)
theorem k2_fX10_behindPoint_a6 (q : Nat) (i9 : Nat) (t13 : zSt) : zk2 (fX10_behindPoint_a6 q i9 t13) = zk2 t13 := by
  unfold fX10_behindPoint_a6
  (try dsimp only)
  all_goals (refine ite_keep (fun r : zSt => zk2 r) _ _ ?_ ?_ <;> (simp only [zW_2, zL_2, k2_fX10_behindPoint_a4, k2_fX10_behindPoint_a5]; done))
theorem k2_fX10_behindPoint_24 (q : Nat) (third : Bool) (i9 : Nat) (z10 : zSt) : zk2 (fX10_behindPoint_24 q third i9 z10) = zk2 z10 := by
  unfold fX10_behindPoint_24
  (try dsimp only)
  all_goals (refine cond_keep (fun r : zSt => zk2 r) _ ?_ ?_ <;> (simp only [zW_2, zL_2, k2_fX10_behindPoint_a3, k2_fX10_behindPoint_a6, k2_fX10_powers]; done))
theorem k2it_fX10_behindPoint_24 (q : Nat) (third : Bool) (nn : Nat) (xx : zSt) : zk2 (zdown (fX10_behindPoint_24 q third) nn xx) = zk2 xx := zdown_keep (fun x => zk2 x) _ (k2_fX10_behindPoint_24 q third) nn xx
theorem k2q_fX10_behindPoint (q : Nat) (third : Bool) (s0 : zSt) : zk2s (fX10_behindPoint q third s0) = zk2 s0 := by
  unfold fX10_behindPoint
  (try dsimp only)
  all_goals (simp only [zW_2, zL_2, k2_fX10_behindPoint_2, k2_fX10_behindPoint_24, k2it_fX10_behindPoint_2, k2it_fX10_behindPoint_24, zk2s_mk]; done)
theorem k2_fX10_behindPoint (q : Nat) (third : Bool) (s0 : zSt) : zk2 (zsnd (fX10_behindPoint q third s0)) = zk2 s0 := k2q_fX10_behindPoint q third s0
theorem i2_fX10_behindPoint (q : Nat) (third : Bool) (s0 : zSt) (kk9 : Nat) : (zsnd (fX10_behindPoint q third s0)).2.2 kk9 = s0.2.2 kk9 := z2_I (k2_fX10_behindPoint q third s0) kk9
theorem i3_fX10_behindPoint (q : Nat) (third : Bool) (s0 : zSt) (kk9 : Nat) : zi (zsnd (fX10_behindPoint q third s0)) kk9 = zi s0 kk9 := zi_of (k2_fX10_behindPoint q third s0) kk9
