def blX (row : Nat) (s : zSt) : Nat → Nat
  | 0 => 0
  | i + 1 => if vX8_bit row 4 i s = 1 then i + 1 else blX row s i
theorem bit_lt (row k i : Nat) (s : zSt) : vX8_bit row k i s < 2 := Nat.mod_lt _ (by decide)
theorem blX_le (row : Nat) (s : zSt) : ∀ i, blX row s i ≤ i
  | 0 => Nat.le_refl _
  | i + 1 => by
    unfold blX
    split
    · exact Nat.le_refl _
    · exact Nat.le_succ_of_le (blX_le row s i)
def vX8_bitLength (row : Nat) (s0 : zSt) : Nat := blX row s0 256
set_option maxHeartbeats 4000000 in
set_option maxRecDepth 100000 in
theorem k_X8_bitLength (l : Launch) (D : va_G) (kc : Nat → ClassId) (ad : Nat → Nat) (n : Nat) (hn : 0 ≤ n) (row : Nat) (hrow : ra n 4 row) (s0 : zSt) : zM l yX8_bitLength cX8_bitLength 2 (some .int) rX8_bitLength (wX D kc ad n) [.ref (zad (wX D kc ad n) row)] s0 (zV1 (.int (nI (vX8_bitLength row s0))) s0) := by
  refine z_of (own := RX8) (by decide +kernel) rfl (Nat.le_of_ble_eq_true rfl) ?_
  intro κ C R0
  refine j_at [(0, .ref (zad (wX D kc ad n) row))] ⟨rfl, trivial⟩ ?_
  refine j_sipush (v := nI 255) C dX8_bitLength_0 (by decide +kernel) ?_
  refine j_istore_n C dX8_bitLength_3 rfl (by decide) ?_
  suffices H : ∀ i, i ≤ 256 → vX8_bitLength row s0 = blX row s0 i → zJ κ (wX D kc ad n) 4 (zlof [(0, .ref (zad (wX D kc ad n) row)), (1, .int (dI i))]) [] s0 from
    j_at [(0, .ref (zad (wX D kc ad n) row)), (1, .int (dI 256))] ⟨rfl, congrArg (fun q => some (Value.int q)) (dI_succ _).symm, trivial⟩ (H 256 (Nat.le_refl _) rfl)
  intro i
  induction i with
  | zero =>
    intro _ e
    refine j_iload_n C dX8_bitLength_4 rfl rfl ?_
    refine j_if_lt (tgt := 27) C dX8_bitLength_5 (by decide) (fun q => ?_) (fun q => False.elim (q dI_0))
    refine j_iconst (v := nI 0) C dX8_bitLength_27 (by decide +kernel) ?_
    exact j_iret (st := []) C R0 dX8_bitLength_28 ⟨(by rw [e]; rfl), rfl⟩
  | succ i ih =>
    intro hi e
    refine j_at [(0, .ref (zad (wX D kc ad n) row)), (1, .int (nI i))] ⟨rfl, congrArg (fun q => some (Value.int q)) (dI_succ _), trivial⟩ ?_
    refine j_iload_n C dX8_bitLength_4 rfl rfl ?_
    refine j_if_lt (tgt := 27) C dX8_bitLength_5 (by decide) (fun q => False.elim (nI_pos (by omega) q)) (fun q => ?_)
    refine j_aload_n C dX8_bitLength_8 rfl rfl ?_
    refine j_iload_n C dX8_bitLength_9 rfl rfl ?_
    refine j_callS1 C dX8_bitLength_10 (k_X8_bit l D kc ad n (by omega) row 4 hrow i (by omega) _ (by omega)) zy_X8_bit mw_23_16 rfl rfl (Nat.le_of_ble_eq_true rfl) ⟨rfl, rfl, Nat.le_of_ble_eq_true rfl, Nat.le_of_ble_eq_true rfl⟩ ?_
    have hb := bit_lt row 4 i s0
    refine j_iconst (v := nI 1) C dX8_bitLength_13 (by decide +kernel) ?_
    refine j_icmp_neN (tgt := 21) C dX8_bitLength_14 (by decide) (by omega) (by omega) (fun q1 => ?_) (fun q1 => ?_)
    · refine j_iincD C dX8_bitLength_21 rfl (by decide) ?_
      refine j_goto (tgt := 4) C dX8_bitLength_24 (by decide) ?_
      refine j_at [(0, .ref (zad (wX D kc ad n) row)), (1, .int (dI i))] ⟨rfl, rfl, trivial⟩ ?_
      exact ih (by omega) (e.trans (if_neg q1))
    · refine j_iload_n C dX8_bitLength_17 rfl rfl ?_
      refine j_iconst (v := nI 1) C dX8_bitLength_18 (by decide +kernel) ?_
      refine j_iaddN C dX8_bitLength_19 ?_
      exact j_iret (st := []) C R0 dX8_bitLength_20 ⟨(by rw [e.trans (if_pos q1)]), rfl⟩
