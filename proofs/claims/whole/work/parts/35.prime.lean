def ip (q : Nat) : Nat → Bool
  | 0 => true
  | i + 1 => if ip q i = true then (if q % (i + 2) = 0 then false else true) else false
def sq2 (q : Nat) : Nat := ((List.range 30).filter (fun i => decide ((i + 2) * (i + 2) ≤ q))).length
set_option maxRecDepth 100000 in
theorem sq2_all : ∀ q, q < 1000 → (sq2 q ≤ 30 ∧ ∀ i, i < 31 → ((i < sq2 q) ↔ (i + 2) * (i + 2) ≤ q)) := by decide +kernel
def vX10_isPrime (q : Nat) (s0 : zSt) : Bool := ip q (sq2 q)
set_option maxHeartbeats 4000000 in
set_option maxRecDepth 100000 in
theorem k_X10_isPrime (l : Launch) (D : va_G) (kc : Nat → ClassId) (ad : Nat → Nat) (q : Nat) (hq : q < 1000) (s0 : zSt) : zM l yX10_isPrime cX10_isPrime 3 (some .boolean) rX10_isPrime (wM D kc ad) [.int (nI q)] s0 (zV1 (.int (bI (vX10_isPrime q s0))) s0) := by
  refine z_of (own := RX10) (by decide +kernel) rfl (Nat.le_of_ble_eq_true rfl) ?_
  intro κ C R0
  refine j_at [(0, .int (nI q))] ⟨rfl, trivial⟩ ?_
  refine j_iconst (v := nI 1) C dX10_isPrime_0 (by decide +kernel) ?_
  refine j_istore_n C dX10_isPrime_1 rfl (by decide) ?_
  refine j_iconst (v := nI 2) C dX10_isPrime_2 (by decide +kernel) ?_
  refine j_istore_n C dX10_isPrime_3 rfl (by decide) ?_
  obtain ⟨hs, hw⟩ := sq2_all q hq
  suffices H : ∀ d i, i + d = sq2 q → zJ κ (wM D kc ad) 4 (zlof [(0, .int (nI q)), (1, .int (bI (ip q i))), (2, .int (nI (i + 2)))]) [] s0 from
    j_at [(0, .int (nI q)), (1, .int (bI (ip q 0))), (2, .int (nI (0 + 2)))] ⟨rfl, rfl, rfl, trivial⟩ (H (sq2 q) 0 (Nat.zero_add _))
  intro d
  induction d with
  | zero =>
    intro i e
    have hi : i = sq2 q := by omega
    have hm : (i + 2) * (i + 2) ≤ 32 * 32 := Nat.mul_le_mul (by omega) (by omega)
    have hww := hw i (by omega)
    refine j_iload_n C dX10_isPrime_4 rfl rfl ?_
    refine j_iload_n C dX10_isPrime_5 rfl rfl ?_
    refine j_imulN C dX10_isPrime_6 ?_
    refine j_iload_n C dX10_isPrime_7 rfl rfl ?_
    refine j_icmp_gtN (tgt := 33) C dX10_isPrime_8 (by decide) (by omega) (by omega) (fun q1 => ?_) (fun q1 => False.elim (by omega))
    refine j_iload_n C dX10_isPrime_33 rfl rfl ?_
    exact j_zret (st := []) C R0 dX10_isPrime_34 ⟨(by rw [hi]; rfl), rfl⟩
  | succ d ih =>
    intro i e
    have hm : (i + 2) * (i + 2) ≤ 32 * 32 := Nat.mul_le_mul (by omega) (by omega)
    have hww := hw i (by omega)
    refine j_iload_n C dX10_isPrime_4 rfl rfl ?_
    refine j_iload_n C dX10_isPrime_5 rfl rfl ?_
    refine j_imulN C dX10_isPrime_6 ?_
    refine j_iload_n C dX10_isPrime_7 rfl rfl ?_
    refine j_icmp_gtN (tgt := 33) C dX10_isPrime_8 (by decide) (by omega) (by omega) (fun q1 => False.elim (by omega)) (fun q1 => ?_)
    suffices K : zJ κ (wM D kc ad) 26 (zlof [(0, .int (nI q)), (2, .int (nI (i + 2)))]) [.int (bI (ip q (i + 1)))] s0 by
      refine j_iload_n C dX10_isPrime_11 rfl rfl ?_
      have hx : ip q (i + 1) = if ip q i = true then (if q % (i + 2) = 0 then false else true) else false := rfl
      rw [hx] at K
      cases hb : ip q i with
      | false =>
        rw [hb] at K
        refine j_if_eq (tgt := 25) C dX10_isPrime_12 (by decide) (fun _ => ?_) (fun q2 => False.elim (q2 rfl))
        refine j_iconst (v := bI false) C dX10_isPrime_25 (by decide +kernel) ?_
        exact j_at [(0, .int (nI q)), (2, .int (nI (i + 2)))] ⟨rfl, rfl, trivial⟩ K
      | true =>
        rw [hb, if_pos rfl] at K
        refine j_if_eq (tgt := 25) C dX10_isPrime_12 (by decide) (fun q2 => absurd q2 (by decide +kernel)) (fun _ => ?_)
        refine j_iload_n C dX10_isPrime_15 rfl rfl ?_
        refine j_iload_n C dX10_isPrime_16 rfl rfl ?_
        refine j_iremN C dX10_isPrime_17 (by omega) (by omega) (by omega) ?_
        have hr : q % (i + 2) < 2 ^ 31 := Nat.lt_of_le_of_lt (Nat.mod_le _ _) (by omega)
        have h2 : nI (q % (i + 2)) = 0 ↔ q % (i + 2) = 0 := ⟨fun z => (nI_eq (a := q % (i + 2)) (b := 0) hr (by decide)).mp z, fun z => by rw [z]; rfl⟩
        refine j_if_eq (tgt := 25) C dX10_isPrime_18 (by decide) (fun q3 => ?_) (fun q3 => ?_)
        · rw [if_pos (h2.mp q3)] at K
          refine j_iconst (v := bI false) C dX10_isPrime_25 (by decide +kernel) ?_
          exact j_at [(0, .int (nI q)), (2, .int (nI (i + 2)))] ⟨rfl, rfl, trivial⟩ K
        · rw [if_neg (fun z => q3 (h2.mpr z))] at K
          refine j_iconst (v := bI true) C dX10_isPrime_21 (by decide +kernel) ?_
          refine j_goto (tgt := 26) C dX10_isPrime_22 (by decide) ?_
          exact j_at [(0, .int (nI q)), (2, .int (nI (i + 2)))] ⟨rfl, rfl, trivial⟩ K
    refine j_istore_n C dX10_isPrime_26 rfl (by decide) ?_
    refine j_iincN (b := 1) C dX10_isPrime_27 rfl (by decide +kernel) (by decide) ?_
    refine j_goto (tgt := 4) C dX10_isPrime_30 (by decide) ?_
    refine j_at [(0, .int (nI q)), (1, .int (bI (ip q (i + 1)))), (2, .int (nI (i + 1 + 2)))] ⟨rfl, rfl, rfl, trivial⟩ ?_
    exact ih (i + 1) (by omega)
