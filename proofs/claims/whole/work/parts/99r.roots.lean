/-! the roots' bits: one step -/
theorem bt_1 : ∀ b, b < 16 → tN (zsl 1 b) = 2 ^ b ∧ (zsl 1 b).toInt = ((2 ^ b : Nat) : Int) := by decide +kernel
theorem bt_and {x m : Int64} {b : Nat} (hm : tN m = 2 ^ b) (hx : tN x % 2 ^ (b + 1) = 0) : x &&& m = 0 := by
  apply tN_inj
  have e : tN (x &&& m) = tN x &&& tN m := by
    unfold tN
    simp
  have z : tN (0 : Int64) = 0 := rfl
  rw [e, hm, z]
  obtain ⟨h, hh⟩ := Nat.dvd_of_mod_eq_zero hx
  rw [hh]
  apply Nat.eq_of_testBit_eq
  intro i
  rw [Nat.testBit_and, Nat.testBit_two_pow_mul, Nat.testBit_two_pow]
  by_cases q : b = i
  · subst q
    simp
    intro h9
    omega
  · simp [q]
theorem bt_clr {x m : Int64} (h : x &&& m = 0) : (x ||| m) &&& (m ^^^ (-1)) = x := by
  have h' : ∀ i, (x.toBitVec.getLsbD i && m.toBitVec.getLsbD i) = false := fun i => by
    have := congrArg (fun z : Int64 => z.toBitVec.getLsbD i) h
    simpa using this
  apply Int64.toBitVec_inj.mp
  apply BitVec.eq_of_getLsbD_eq
  intro i hi
  have h1 := h' i
  have n1 : (-1 : Int64).toBitVec = BitVec.allOnes 64 := by decide
  simp only [Int64.toBitVec_and, Int64.toBitVec_or, Int64.toBitVec_xor, BitVec.getLsbD_and, BitVec.getLsbD_or, BitVec.getLsbD_xor, n1, BitVec.getLsbD_allOnes, hi, decide_true]
  generalize x.toBitVec.getLsbD i = u at h1 ⊢
  generalize m.toBitVec.getLsbD i = v at h1 ⊢
  cases u <;> cases v <;> first | rfl | exact absurd h1 (by decide)
theorem bt_or {x : Int64} {b : Nat} (hb : b < 16) (h1 : 0 ≤ x.toInt ∧ x.toInt ≤ 65535) (hx : tN x % 2 ^ (b + 1) = 0) : tN (x ||| zsl 1 b) = tN x + 2 ^ b ∧ (x ||| zsl 1 b).toInt = x.toInt + ((2 ^ b : Nat) : Int) ∧ 0 ≤ (x ||| zsl 1 b).toInt ∧ (x ||| zsl 1 b).toInt ≤ 65535 := by
  obtain ⟨m1, m2⟩ := bt_1 b hb
  obtain ⟨c, hc⟩ := Nat.dvd_of_mod_eq_zero hx
  have e : tN (x ||| zsl 1 b) = tN x + 2 ^ b := by
    rw [tN_or, Nat.or_comm, ← tN_or, or_l (x := zsl 1 b) (y := x) (k := b + 1) (c := c) (by rw [m1]; exact Nat.pow_lt_pow_right (by decide) (by omega)) (by rw [hc, Nat.mul_comm]), m1, hc]
    rw [Nat.mul_comm c, Nat.add_comm]
  have ex := tN_pos h1.1
  have hlt : tN x + 2 ^ b < 65536 := by
    rcases (show b = 0 ∨ b = 1 ∨ b = 2 ∨ b = 3 ∨ b = 4 ∨ b = 5 ∨ b = 6 ∨ b = 7 ∨ b = 8 ∨ b = 9 ∨ b = 10 ∨ b = 11 ∨ b = 12 ∨ b = 13 ∨ b = 14 ∨ b = 15 by omega) with rfl | rfl | rfl | rfl | rfl | rfl | rfl | rfl | rfl | rfl | rfl | rfl | rfl | rfl | rfl | rfl <;> omega
  have e2 : (x ||| zsl 1 b).toInt = x.toInt + ((2 ^ b : Nat) : Int) := by
    rw [tN_int, e, if_pos (by omega)]
    omega
  exact ⟨e, e2, by omega, by omega⟩
theorem Z_0 {x : Int64} (h : x.toInt = 0) : x = 0 := Int64.toInt_inj.mp (by rw [h]; rfl)
/-- the limbs above a small number are 0 -/
theorem top_dn {r : Nat → Int64} {k V : Nat} : ∀ m, (∀ i, i < k + 1 + m → 0 ≤ (r i).toInt ∧ (r i).toInt ≤ 65535) → rv 16 r (k + 1 + m) = (V : Int) → V < 2 ^ (16 * (k + 1)) → (∀ i, k < i → i < k + 1 + m → r i = 0) ∧ rv 16 r (k + 1) = (V : Int)
  | 0, h, e, hV => ⟨fun i h1 h2 => by omega, e⟩
  | m + 1, h, e, hV => by
    have e' : rv 16 r ((k + 1 + m) + 1) = (V : Int) := e
    have hp : V < 2 ^ (16 * (k + 1 + m)) := Nat.lt_of_lt_of_le hV (Nat.pow_le_pow_right (by decide) (by omega))
    have t := top_0 (r := r) (n := k + 1 + m) (fun i hi => h i (by omega)) (h _ (by omega)).1 (by
      rw [e']
      have := Int.ofNat_lt.mpr hp
      rw [Int.natCast_pow] at this
      exact this)
    obtain ⟨g1, g2⟩ := top_dn m (fun i hi => h i (by omega)) (by rw [← t.2]; exact e') hV
    refine ⟨fun i h1 h2 => ?_, g2⟩
    by_cases q : i = k + 1 + m
    · rw [q]
      exact Z_0 t.1
    · exact g1 i h1 (by omega)
theorem top_v {r : Nat → Int64} {k V n : Nat} (hk : k < n) (h : ∀ i, i < n → 0 ≤ (r i).toInt ∧ (r i).toInt ≤ 65535) (e : rv 16 r n = (V : Int)) (hV : V < 2 ^ (16 * (k + 1))) : (∀ i, k < i → i < n → r i = 0) ∧ (r k).toInt = ((V / 2 ^ (16 * k) : Nat) : Int) := by
  have en : n = k + 1 + (n - (k + 1)) := by omega
  rw [en] at h e
  obtain ⟨g1, g2⟩ := top_dn (n - (k + 1)) h e hV
  refine ⟨fun i h1 h2 => g1 i h1 (by omega), ?_⟩
  rw [rv_succ] at g2
  have hr := rv_range (w := 16) (n := k) (r := r) (fun i hi => by have := h i (by omega); exact ⟨this.1, by show _ < (65536 : Int); omega⟩)
  have hX : (0 : Int) < 2 ^ (16 * k) := zpw0 _
  rw [Int.natCast_ediv, ← g2, Int.natCast_pow]
  show _ = (rv 16 r k + (r k).toInt * 2 ^ (16 * k)) / 2 ^ (16 * k)
  rw [Int.add_mul_ediv_right _ _ (by omega), Int.ediv_eq_zero_of_lt hr.1 hr.2, Int.zero_add]
