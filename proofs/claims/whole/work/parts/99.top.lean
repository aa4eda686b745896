/-! the reference's powers: the top limbs are 0 -/
theorem top_0 {r : Nat → Int64} {n : Nat} (h : ∀ k, k < n → 0 ≤ (r k).toInt ∧ (r k).toInt ≤ 65535) (h0 : 0 ≤ (r n).toInt) (hv : rv 16 r (n + 1) < 2 ^ (16 * n)) : (r n).toInt = 0 ∧ rv 16 r (n + 1) = rv 16 r n := by
  rw [rv_succ] at hv ⊢
  have hr := rv_range (w := 16) (n := n) (r := r) (fun i hi => by have := h i hi; exact ⟨this.1, by show _ < (65536 : Int); omega⟩)
  have hX : (0 : Int) ≤ 2 ^ (16 * n) := by have := hr.1; omega
  generalize (2 : Int) ^ (16 * n) = X at hv hX hr ⊢
  have e : (r n).toInt = 0 := by
    by_cases q : 1 ≤ (r n).toInt
    · have := Int.mul_le_mul_of_nonneg_right q hX
      omega
    · omega
  rw [e, Int.zero_mul, Int.add_zero]
  exact ⟨rfl, rfl⟩
