/-! the reference's powers: carrying a limb row -/
theorem pw_c {V w q m x J J2 : Int} (hx : 65536 * q + m = x) (hJ : J2 = 65536 * J) : V + ((w + q) - w) * J2 + (m - x) * J = V := by
  subst hx
  subst hJ
  grind
/-- N carries upwards from limb 0 -/
theorem pw_carry {R N n : Nat} {F : Nat → zSt → zSt} (hF : ∀ i τ, F i τ = zW (zW τ R (i + 1) (τ.1 R (i + 1) + zsr (τ.1 R i) 16)) R i ((zW τ R (i + 1) (τ.1 R (i + 1) + zsr (τ.1 R i) 16)).1 R i &&& 65535)) (σ : zSt) (hn : N < n) (hW : ∀ k, k < n → 0 ≤ (σ.1 R k).toInt ∧ (σ.1 R k).toInt ≤ 1125899906842624) :
    (∀ id, id ≠ R → (ziter F 0 N σ).1 id = σ.1 id) ∧ (ziter F 0 N σ).2 = σ.2 ∧ rv 16 ((ziter F 0 N σ).1 R) n = rv 16 (σ.1 R) n ∧ (∀ k, k < N → 0 ≤ ((ziter F 0 N σ).1 R k).toInt ∧ ((ziter F 0 N σ).1 R k).toInt ≤ 65535)
      ∧ (∀ k, N < k → (ziter F 0 N σ).1 R k = σ.1 R k) ∧ 0 ≤ ((ziter F 0 N σ).1 R N).toInt := by
  have H := ziter_I F (fun i τ => (∀ id, id ≠ R → τ.1 id = σ.1 id) ∧ τ.2 = σ.2 ∧ rv 16 (τ.1 R) n = rv 16 (σ.1 R) n ∧ (∀ k, k < i → 0 ≤ (τ.1 R k).toInt ∧ (τ.1 R k).toInt ≤ 65535) ∧ (∀ k, i < k → τ.1 R k = σ.1 R k) ∧ 0 ≤ (τ.1 R i).toInt ∧ (τ.1 R i).toInt ≤ 2251799813685248) N ?_ N 0 σ (by omega)
    ⟨fun _ _ => rfl, rfl, rfl, fun k hk => absurd hk (Nat.not_lt_zero k), fun _ _ => rfl, by have := hW 0 (by omega); omega⟩
  · exact ⟨H.1, H.2.1, H.2.2.1, H.2.2.2.1, H.2.2.2.2.1, H.2.2.2.2.2.1⟩
  intro i τ hi ⟨h1, h0, h2, h3, h4, h5, h6⟩
  have hw := hW (i + 1) (by omega)
  rw [hF]
  have er : (zW τ R (i + 1) (τ.1 R (i + 1) + zsr (τ.1 R i) 16)).1 R i = τ.1 R i := by rw [zW_at, pk_uLn (by omega)]
  rw [er, h4 (i + 1) (by omega)]
  have hq := mq_r16 (τ.1 R i)
  have hm := mq_m16 (τ.1 R i)
  have hsum : (σ.1 R (i + 1) + zsr (τ.1 R i) 16).toInt = (σ.1 R (i + 1)).toInt + (zsr (τ.1 R i) 16).toInt := mq_addL (by omega) (by omega)
  generalize hy : σ.1 R (i + 1) + zsr (τ.1 R i) 16 = y at hsum ⊢
  generalize hz : τ.1 R i &&& 65535 = z at hm ⊢
  have row : (zW (zW τ R (i + 1) y) R i z).1 R = vp_updL (vp_updL (τ.1 R) (i + 1) y) i z := by rw [zW_at, zW_at]
  refine ⟨fun id hid => ?_, h0, ?_, fun k hk => ?_, fun k hk => ?_, ?_⟩
  · rw [zW_ne _ _ _ hid, zW_ne _ _ _ hid]
    exact h1 id hid
  · rw [row, rv_upd (by omega), rv_upd (by omega), pk_uLn (by omega), hsum, hq, hm, h2, h4 (i + 1) (by omega)]
    have e5 : (2 : Int) ^ (16 * (i + 1)) = 65536 * 2 ^ (16 * i) := by
      rw [Nat.mul_add, Int.pow_add, Int.mul_comm]
      rfl
    exact pw_c (by omega) e5
  · rw [row]
    by_cases e : k = i
    · rw [e, pk_uLs]
      omega
    · rw [pk_uLn e, pk_uLn (by omega)]
      exact h3 k (by omega)
  · rw [row, pk_uLn (by omega), pk_uLn (by omega)]
    exact h4 k (by omega)
  · rw [row, pk_uLn (by omega), pk_uLs]
    omega
