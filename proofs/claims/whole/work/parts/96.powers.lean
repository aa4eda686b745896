/-! the reference's powers: products of limb rows -/
theorem pw_a (V a I z b J : Int) : V + a * I * z + a * b * (I * J) = V + a * I * (z + b * J) := by grind
/-- one row of a product: limb i of row a times the limbs of row b, added to row R -/
theorem pw_inner {R a b i N n : Nat} {F : Nat → zSt → zSt} (hF : ∀ j τ, F j τ = zW τ R (i + j) (τ.1 R (i + j) + τ.1 a i * τ.1 b j)) (hRa : a ≠ R) (hRb : b ≠ R) (σ : zSt) (hA : 0 ≤ (σ.1 a i).toInt ∧ (σ.1 a i).toInt ≤ 65535) (hB : ∀ j, j < N → 0 ≤ (σ.1 b j).toInt ∧ (σ.1 b j).toInt ≤ 65535) (hW : ∀ k, k < n → 0 ≤ (σ.1 R k).toInt ∧ (σ.1 R k).toInt ≤ 1099511627776) (hn : i + N ≤ n) :
    (∀ id, id ≠ R → (ziter F 0 N σ).1 id = σ.1 id) ∧ (ziter F 0 N σ).2 = σ.2 ∧ rv 16 ((ziter F 0 N σ).1 R) n = rv 16 (σ.1 R) n + (σ.1 a i).toInt * 2 ^ (16 * i) * rv 16 (σ.1 b) N
      ∧ (∀ k, 0 ≤ ((ziter F 0 N σ).1 R k).toInt - (σ.1 R k).toInt ∧ ((ziter F 0 N σ).1 R k).toInt - (σ.1 R k).toInt ≤ 4294967296) := by
  have H := ziter_I F (fun j τ => (∀ id, id ≠ R → τ.1 id = σ.1 id) ∧ τ.2 = σ.2 ∧ rv 16 (τ.1 R) n = rv 16 (σ.1 R) n + (σ.1 a i).toInt * 2 ^ (16 * i) * rv 16 (σ.1 b) j ∧ (∀ k, i + j ≤ k → τ.1 R k = σ.1 R k) ∧ (∀ k, 0 ≤ (τ.1 R k).toInt - (σ.1 R k).toInt ∧ (τ.1 R k).toInt - (σ.1 R k).toInt ≤ 4294967296)) N ?_ N 0 σ (by omega)
    ⟨fun _ _ => rfl, rfl, by show _ = _ + _ * (0 : Int); rw [Int.mul_zero, Int.add_zero], fun _ _ => rfl, fun _ => by omega⟩
  · exact ⟨H.1, H.2.1, H.2.2.1, H.2.2.2.2⟩
  intro j τ hj ⟨h1, h0, h2, h3, h4⟩
  have hb := hB j hj
  have hw := hW (i + j) (by omega)
  have e3 := h3 (i + j) (by omega)
  rw [hF, h1 a hRa, h1 b hRb, e3]
  have hp0 : 0 ≤ (σ.1 a i).toInt * (σ.1 b j).toInt := Int.mul_nonneg hA.1 hb.1
  have hp := mq_mulb (x := (σ.1 a i).toInt) (y := (σ.1 b j).toInt) (A := 65536) (B := 65536) (by omega) (by omega)
  have hprod : (σ.1 a i * σ.1 b j).toInt = (σ.1 a i).toInt * (σ.1 b j).toInt := mq_mulL (by omega) (by omega)
  have hsum : (σ.1 R (i + j) + σ.1 a i * σ.1 b j).toInt = (σ.1 R (i + j)).toInt + (σ.1 a i).toInt * (σ.1 b j).toInt := by
    rw [mq_addL (by rw [hprod]; omega) (by rw [hprod]; omega), hprod]
  generalize σ.1 a i * σ.1 b j = x at hprod hsum ⊢
  refine ⟨fun id hid => ?_, h0, ?_, fun k hk => ?_, fun k => ?_⟩
  · rw [zW_ne _ _ _ hid]
    exact h1 id hid
  · rw [zW_at, rv_upd (by omega), hsum, h2, rv_succ, e3]
    have e5 : (2 : Int) ^ (16 * (i + j)) = 2 ^ (16 * i) * 2 ^ (16 * j) := by rw [Nat.mul_add, Int.pow_add]
    rw [e5]
    have e6 : ∀ y : Int, (y + (σ.1 a i).toInt * (σ.1 b j).toInt - y) = (σ.1 a i).toInt * (σ.1 b j).toInt := fun y => by omega
    rw [e6]
    exact pw_a _ _ _ _ _ _
  · rw [zW_at, pk_uLn (by omega)]
    exact h3 k (by omega)
  · rw [zW_at]
    by_cases e : k = i + j
    · rw [e, pk_uLs, hsum]
      omega
    · rw [pk_uLn e]
      exact h4 k
