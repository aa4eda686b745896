/-! the reference's powers: the top limbs are 0 -/
theorem top_0 {r : Nat → Int64} {n : Nat} (h : ∀ k, k < n → 0 ≤ (r k).toInt ∧ (r k).toInt ≤ 65535) (h0 : 0 ≤ (r n).toInt) (hv : rv 16 r (n + 1) < 2 ^ (16 * n)) : (r n).toInt = 0 ∧ rv 16 r (n + 1) = rv 16 r n := by
  rw [rv_succ] at hv ⊢
  have hr := rv_range (w := 16) (n := n) (r := r) (fun i hi => by have := h i hi; exact ⟨this.1, by show _ < (65536 : Int); omega⟩)
  have hX : (0 : Int) ≤ 2 ^ (16 * n) := by have := hr.1; omega
  generalize (2 : Int) ^ (16 * n) = X at hv hX hr ⊢
  have e : (r n).toInt = 0 := by
    by_cases q : 1 ≤ (r n).toInt
    · have := Int.mul_le_mul_of_nonneg_right q hX
      omega
    · omega
  rw [e, Int.zero_mul, Int.add_zero]
  exact ⟨rfl, rfl⟩
theorem powers_n {s : zSt} (hr : ∀ j, j < 5 → 0 ≤ (s.1 7 j).toInt ∧ (s.1 7 j).toInt ≤ 65535) : rv 16 ((fX10_powers s).1 8) 11 = rv 16 (s.1 7) 5 * rv 16 (s.1 7) 5 ∧ rv 16 ((fX10_powers s).1 9) 17 = rv 16 (s.1 7) 5 * rv 16 (s.1 7) 5 * rv 16 (s.1 7) 5 := by
  obtain ⟨-, -, h1, h2, h3, h4, h5, h6⟩ := powers_v hr
  have hq := rv_range (w := 16) (n := 5) (r := s.1 7) (fun i hi => by have := hr i hi; exact ⟨this.1, by show _ < (65536 : Int); omega⟩)
  generalize rv 16 (s.1 7) 5 = Q at h1 h4 hq ⊢
  have hq2 : Q ≤ 1208925819614629174706176 := by
    have := hq.2
    rw [show (2 : Int) ^ (16 * 5) = 1208925819614629174706176 from by decide +kernel] at this
    omega
  have m1 := mq_mulb (x := Q) (y := Q) (A := 1208925819614629174706176) (B := 1208925819614629174706176) (by omega) (by omega)
  have t1 := top_0 (r := (fX10_powers s).1 8) (n := 11) h2 h3 (by
    rw [h1]
    exact Int.lt_of_le_of_lt m1.2 (by decide +kernel))
  have e1 : rv 16 ((fX10_powers s).1 8) 11 = Q * Q := t1.2.symm.trans h1
  rw [e1] at h4
  have n1 : 0 ≤ Q * Q := Int.mul_nonneg hq.1 hq.1
  have m2 := mq_mulb (x := Q * Q) (y := Q) (A := 1208925819614629174706176 * 1208925819614629174706176) (B := 1208925819614629174706176) m1 (by omega)
  have t2 := top_0 (r := (fX10_powers s).1 9) (n := 17) h5 h6 (by
    rw [h4]
    exact Int.lt_of_le_of_lt m2.2 (by decide +kernel))
  exact ⟨e1, t2.2.symm.trans h4⟩
